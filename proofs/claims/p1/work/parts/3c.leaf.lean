set_option maxRecDepth 100000 in
set_option maxHeartbeats 4000000 in
theorem lf_0_134 {p : Program} {l : Launch} {e : Env} {s : State} {m : MethodId} {args : Array Value} {below : List Frame} {meth : Method} {c : Code} {g : gx_T} {Q : State → Prop} {σ : sx_T} {b t bS : Nat} {xs : Nat → Int32} (hlt : l.stackTraces = false) (B : zx_B p s m args meth c code RL 8 g) (hX : va_X bS 6 xs s s.heap) (hbl : bS < s.heap.size) (hbA : ¬ gx_b g ≤ bS) (hF : fz_P b t σ) {x1 : Int32} (h_x1 : xs 1 = x1) (q1_x1 : (6 : Int) ≤ x1.toInt) (q2_x1 : x1.toInt ≤ (2147483647 : Int)) {x2 : Int32} (h_x2 : xs 2 = x2) (q1_x2 : (-2147483648 : Int) ≤ x2.toInt) (q2_x2 : x2.toInt ≤ (2147483647 : Int)) {x3 : Int32} (h_x3 : xs 3 = x3) (q1_x3 : (0 : Int) ≤ x3.toInt) (q2_x3 : x3.toInt ≤ (17 : Int)) {x4 : Int32} (h_x4 : xs 4 = x4) (q1_x4 : (-2147483648 : Int) ≤ x4.toInt) (q2_x4 : x4.toInt ≤ (-1 : Int)) {x5 : Int32} (h_x5 : xs 5 = x5) (q1_x5 : (-2147483648 : Int) ≤ x5.toInt) (q2_x5 : x5.toInt ≤ (2147483647 : Int)) (kk : ∀ σ', zx p l e room_1 s m args below meth c g 8 600002 7302232 Q σ' 1395 [(4, .int 0), (0, .ref bS)] []) : zx p l e room_1 s m args below meth c g 8 500 100000 Q σ 148 [(4, .int 0), (3, .ref (b + 431)), (2, .ref (b + 405)), (1, .ref (b + 0)), (0, .ref bS)] [] := by
  have hK := fz_lay hF
  refine z_eqs (σ' := (ap b σ [] [] [])) rfl ?_
  refine z_aload_n B dL_law_148 rfl 3 rfl ?_
  refine z_aload_n B dL_law_149 rfl 4 rfl ?_
  refine z_iload B dL_law_150 0 rfl ?_
  refine z_iconst (v := 1) B dL_law_152 (by decide) ?_
  refine z_iadd B dL_law_153 ?_
  refine z_seti (y := 1) (by decide) ?_
  refine z_sld (j := 1) (x := x1) B hX hbl hbA (by decide) (show ¬ ((1 : Int32) < 0 ∨ 6 ≤ (1 : Int32).toNatClampNeg) by decide) h_x1 dL_law_154 ?_
  refine z_aload_n B dL_law_155 rfl 4 rfl ?_
  refine z_iload B dL_law_156 0 rfl ?_
  refine z_iconst (v := 2) B dL_law_158 (by decide) ?_
  refine z_iadd B dL_law_159 ?_
  refine z_seti (y := 2) (by decide) ?_
  refine z_sld (j := 2) (x := x2) B hX hbl hbA (by decide) (show ¬ ((2 : Int32) < 0 ∨ 6 ≤ (2 : Int32).toNatClampNeg) by decide) h_x2 dL_law_160 ?_
  refine z_aload_n B dL_law_161 rfl 4 rfl ?_
  refine z_iload B dL_law_162 0 rfl ?_
  refine z_iconst (v := 3) B dL_law_164 (by decide) ?_
  refine z_iadd B dL_law_165 ?_
  refine z_seti (y := 3) (by decide) ?_
  refine z_sld (j := 3) (x := x3) B hX hbl hbA (by decide) (show ¬ ((3 : Int32) < 0 ∨ 6 ≤ (3 : Int32).toNatClampNeg) by decide) h_x3 dL_law_166 ?_
  refine z_aload_n B dL_law_167 rfl 4 rfl ?_
  refine z_iload B dL_law_168 0 rfl ?_
  refine z_iconst (v := 4) B dL_law_170 (by decide) ?_
  refine z_iadd B dL_law_171 ?_
  refine z_seti (y := 4) (by decide) ?_
  refine z_sld (j := 4) (x := x4) B hX hbl hbA (by decide) (show ¬ ((4 : Int32) < 0 ∨ 6 ≤ (4 : Int32).toNatClampNeg) by decide) h_x4 dL_law_172 ?_
  refine z_aload_n B dL_law_173 rfl 4 rfl ?_
  refine z_iload B dL_law_174 0 rfl ?_
  refine z_iconst (v := 5) B dL_law_176 (by decide) ?_
  refine z_iadd B dL_law_177 ?_
  refine z_seti (y := 5) (by decide) ?_
  refine z_sld (j := 5) (x := x5) B hX hbl hbA (by decide) (show ¬ ((5 : Int32) < 0 ∨ 6 ≤ (5 : Int32).toNatClampNeg) by decide) h_x5 dL_law_178 ?_
  refine z_aload_n B dL_law_179 rfl 1 rfl ?_
  refine z_cSWi (As := [.ref (b + 0), .int x1, .int x2, .int x3, .int x4, .int x5, .ref (b + 431)]) (rest := []) B cw_L_74 dL_law_180 (ci_L_set_369 l hlt (σ := (ap b σ [] [] [])) (b := b) (lyA hK) x1 x2 x3 x4 x5 q1_x1 q2_x1 (rR_at 0 0 (fz_R hF 0 0 rfl rfl))) rfl (by decide) rfl (Nat.le_of_ble_eq_true rfl) (by decide) (fun r u hu => ?_)
  obtain ⟨hu1, z, hu⟩ := hu
  refine z_eqs (σ' := (ap b (wx_Z σ z) [] [] [])) (hu.trans az_ap) ?_
  show zx p l e _ s m _ below meth c g 8 _ _ _ _ 183 [(4, .int 0), (3, .ref (b + 431)), (2, .ref (b + 405)), (1, .ref (b + 0)), (0, .ref bS)] _
  refine z_seti (y := 1) hu1 ?_
  refine z_istore (lv' := [(5, .int 1), (4, .int 0), (3, .ref (b + 431)), (2, .ref (b + 405)), (1, .ref (b + 0)), (0, .ref bS)]) B dL_law_183 (by decide) rfl ?_
  refine z_aload_n B dL_law_185 rfl 3 rfl ?_
  refine z_aload_n B dL_law_186 rfl 5 rfl ?_
  refine z_iload B dL_law_187 1 rfl ?_
  refine z_iconst (v := 1) B dL_law_189 (by decide) ?_
  refine z_iadd B dL_law_190 ?_
  refine z_seti (y := 1) (by decide) ?_
  refine z_sld (j := 1) (x := x1) B hX hbl hbA (by decide) (show ¬ ((1 : Int32) < 0 ∨ 6 ≤ (1 : Int32).toNatClampNeg) by decide) h_x1 dL_law_191 ?_
  refine z_aload_n B dL_law_192 rfl 5 rfl ?_
  refine z_iload B dL_law_193 1 rfl ?_
  refine z_iconst (v := 2) B dL_law_195 (by decide) ?_
  refine z_iadd B dL_law_196 ?_
  refine z_seti (y := 2) (by decide) ?_
  refine z_sld (j := 2) (x := x2) B hX hbl hbA (by decide) (show ¬ ((2 : Int32) < 0 ∨ 6 ≤ (2 : Int32).toNatClampNeg) by decide) h_x2 dL_law_197 ?_
  refine z_aload_n B dL_law_198 rfl 5 rfl ?_
  refine z_iload B dL_law_199 1 rfl ?_
  refine z_iconst (v := 3) B dL_law_201 (by decide) ?_
  refine z_iadd B dL_law_202 ?_
  refine z_seti (y := 3) (by decide) ?_
  refine z_sld (j := 3) (x := x3) B hX hbl hbA (by decide) (show ¬ ((3 : Int32) < 0 ∨ 6 ≤ (3 : Int32).toNatClampNeg) by decide) h_x3 dL_law_203 ?_
  refine z_aload_n B dL_law_204 rfl 5 rfl ?_
  refine z_iload B dL_law_205 1 rfl ?_
  refine z_iconst (v := 4) B dL_law_207 (by decide) ?_
  refine z_iadd B dL_law_208 ?_
  refine z_seti (y := 4) (by decide) ?_
  refine z_sld (j := 4) (x := x4) B hX hbl hbA (by decide) (show ¬ ((4 : Int32) < 0 ∨ 6 ≤ (4 : Int32).toNatClampNeg) by decide) h_x4 dL_law_209 ?_
  refine z_aload_n B dL_law_210 rfl 5 rfl ?_
  refine z_iload B dL_law_211 1 rfl ?_
  refine z_iconst (v := 5) B dL_law_213 (by decide) ?_
  refine z_iadd B dL_law_214 ?_
  refine z_seti (y := 5) (by decide) ?_
  refine z_sld (j := 5) (x := x5) B hX hbl hbA (by decide) (show ¬ ((5 : Int32) < 0 ∨ 6 ≤ (5 : Int32).toNatClampNeg) by decide) h_x5 dL_law_215 ?_
  refine z_cVi (As := [.int x1, .int x2, .int x3, .int x4, .int x5]) (rest := []) B cw_L_79 cx_10 dL_law_216 (ci_X9_set_373 l (σ := (ap b (wx_Z σ z) [] [] [])) (b := b) (lyA (lyZ hK)) x1 x2 x3 x4 x5 q1_x1 q2_x1 q1_x3 q2_x3 q1_x4 q2_x4) (lKA (lKZ (hk_K hK 405 rfl rfl))) rfl (by decide) rfl (Nat.le_of_ble_eq_true rfl) (by decide) (fun r u hu => ?_)
  refine z_eqs (σ' := (ap b (wx_Z σ z) [(405, 0, 1)] [] [])) (hu.2.trans ap_ap) ?_
  show zx p l e _ s m _ below meth c g 8 _ _ _ _ 219 [(5, .int 1), (4, .int 0), (3, .ref (b + 431)), (2, .ref (b + 405)), (1, .ref (b + 0)), (0, .ref bS)] _
  refine z_seti (y := 0) hu.1 ?_
  refine z_istore (lv' := [(6, .int 0), (5, .int 1), (4, .int 0), (3, .ref (b + 431)), (2, .ref (b + 405)), (1, .ref (b + 0)), (0, .ref bS)]) B dL_law_219 (by decide) rfl ?_
  refine z_aload_n B dL_law_221 rfl 4 rfl ?_
  refine z_cVi (As := []) (rest := []) B cw_L_80 cx_10 dL_law_222 (ci_X9_thrown_31 l (σ := (ap b (wx_Z σ z) [(405, 0, 1)] [] [])) (b := b) (lyA (lyZ hK)) (rI_at 405 0 rfl)) (lKA (lKZ (hk_K hK 405 rfl rfl))) rfl (by decide) rfl (Nat.le_of_ble_eq_true rfl) (by decide) (fun r u hu => ?_)
  refine z_eqs (σ' := (ap b (wx_Z σ z) [(405, 0, 1)] [] [])) hu.2 ?_
  show zx p l e _ s m _ below meth c g 8 _ _ _ _ 225 [(6, .int 0), (5, .int 1), (4, .int 0), (3, .ref (b + 431)), (2, .ref (b + 405)), (1, .ref (b + 0)), (0, .ref bS)] _
  refine z_seti (y := 1) hu.1 ?_
  refine z_iload B dL_law_225 1 rfl ?_
  refine z_icmp_eq (tgt := 232) B dL_law_227 (by decide) (fun _ => ?_) (fun h => absurd (by decide) h)
  refine z_iload B dL_law_232 1 rfl ?_
  refine z_if_ne (tgt := 249) B dL_law_234 (by decide) (fun _ => ?_) (fun h => absurd h (by decide))
  refine z_goto (tgt := 1395) B dL_law_249 (by decide) ?_
  exact z_widen (Nat.le_of_ble_eq_true rfl) (Nat.le_of_ble_eq_true rfl) (z_sub _ [2, 6] rfl (kk _))
set_option maxRecDepth 100000 in
set_option maxHeartbeats 4000000 in
theorem lf_0_135 {p : Program} {l : Launch} {e : Env} {s : State} {m : MethodId} {args : Array Value} {below : List Frame} {meth : Method} {c : Code} {g : gx_T} {Q : State → Prop} {σ : sx_T} {b t bS : Nat} {xs : Nat → Int32} (hlt : l.stackTraces = false) (B : zx_B p s m args meth c code RL 8 g) (hX : va_X bS 6 xs s s.heap) (hbl : bS < s.heap.size) (hbA : ¬ gx_b g ≤ bS) (hF : fz_P b t σ) {x1 : Int32} (h_x1 : xs 1 = x1) (q1_x1 : (6 : Int) ≤ x1.toInt) (q2_x1 : x1.toInt ≤ (2147483647 : Int)) {x2 : Int32} (h_x2 : xs 2 = x2) (q1_x2 : (-2147483648 : Int) ≤ x2.toInt) (q2_x2 : x2.toInt ≤ (2147483647 : Int)) {x3 : Int32} (h_x3 : xs 3 = x3) (q1_x3 : (0 : Int) ≤ x3.toInt) (q2_x3 : x3.toInt ≤ (17 : Int)) {x4 : Int32} (h_x4 : xs 4 = x4) (q1_x4 : (0 : Int) ≤ x4.toInt) (q2_x4 : x4.toInt ≤ (99 : Int)) {x5 : Int32} (h_x5 : xs 5 = x5) (q1_x5 : (-2147483648 : Int) ≤ x5.toInt) (q2_x5 : x5.toInt ≤ (-1 : Int)) (kk : ∀ σ', zx p l e room_1 s m args below meth c g 8 600002 7302232 Q σ' 1395 [(4, .int 0), (0, .ref bS)] []) : zx p l e room_1 s m args below meth c g 8 500 100000 Q σ 148 [(4, .int 0), (3, .ref (b + 431)), (2, .ref (b + 405)), (1, .ref (b + 0)), (0, .ref bS)] [] := by
  have hK := fz_lay hF
  refine z_eqs (σ' := (ap b σ [] [] [])) rfl ?_
  refine z_aload_n B dL_law_148 rfl 3 rfl ?_
  refine z_aload_n B dL_law_149 rfl 4 rfl ?_
  refine z_iload B dL_law_150 0 rfl ?_
  refine z_iconst (v := 1) B dL_law_152 (by decide) ?_
  refine z_iadd B dL_law_153 ?_
  refine z_seti (y := 1) (by decide) ?_
  refine z_sld (j := 1) (x := x1) B hX hbl hbA (by decide) (show ¬ ((1 : Int32) < 0 ∨ 6 ≤ (1 : Int32).toNatClampNeg) by decide) h_x1 dL_law_154 ?_
  refine z_aload_n B dL_law_155 rfl 4 rfl ?_
  refine z_iload B dL_law_156 0 rfl ?_
  refine z_iconst (v := 2) B dL_law_158 (by decide) ?_
  refine z_iadd B dL_law_159 ?_
  refine z_seti (y := 2) (by decide) ?_
  refine z_sld (j := 2) (x := x2) B hX hbl hbA (by decide) (show ¬ ((2 : Int32) < 0 ∨ 6 ≤ (2 : Int32).toNatClampNeg) by decide) h_x2 dL_law_160 ?_
  refine z_aload_n B dL_law_161 rfl 4 rfl ?_
  refine z_iload B dL_law_162 0 rfl ?_
  refine z_iconst (v := 3) B dL_law_164 (by decide) ?_
  refine z_iadd B dL_law_165 ?_
  refine z_seti (y := 3) (by decide) ?_
  refine z_sld (j := 3) (x := x3) B hX hbl hbA (by decide) (show ¬ ((3 : Int32) < 0 ∨ 6 ≤ (3 : Int32).toNatClampNeg) by decide) h_x3 dL_law_166 ?_
  refine z_aload_n B dL_law_167 rfl 4 rfl ?_
  refine z_iload B dL_law_168 0 rfl ?_
  refine z_iconst (v := 4) B dL_law_170 (by decide) ?_
  refine z_iadd B dL_law_171 ?_
  refine z_seti (y := 4) (by decide) ?_
  refine z_sld (j := 4) (x := x4) B hX hbl hbA (by decide) (show ¬ ((4 : Int32) < 0 ∨ 6 ≤ (4 : Int32).toNatClampNeg) by decide) h_x4 dL_law_172 ?_
  refine z_aload_n B dL_law_173 rfl 4 rfl ?_
  refine z_iload B dL_law_174 0 rfl ?_
  refine z_iconst (v := 5) B dL_law_176 (by decide) ?_
  refine z_iadd B dL_law_177 ?_
  refine z_seti (y := 5) (by decide) ?_
  refine z_sld (j := 5) (x := x5) B hX hbl hbA (by decide) (show ¬ ((5 : Int32) < 0 ∨ 6 ≤ (5 : Int32).toNatClampNeg) by decide) h_x5 dL_law_178 ?_
  refine z_aload_n B dL_law_179 rfl 1 rfl ?_
  refine z_cSWi (As := [.ref (b + 0), .int x1, .int x2, .int x3, .int x4, .int x5, .ref (b + 431)]) (rest := []) B cw_L_74 dL_law_180 (ci_L_set_369 l hlt (σ := (ap b σ [] [] [])) (b := b) (lyA hK) x1 x2 x3 x4 x5 q1_x1 q2_x1 (rR_at 0 0 (fz_R hF 0 0 rfl rfl))) rfl (by decide) rfl (Nat.le_of_ble_eq_true rfl) (by decide) (fun r u hu => ?_)
  obtain ⟨hu1, z, hu⟩ := hu
  refine z_eqs (σ' := (ap b (wx_Z σ z) [] [] [])) (hu.trans az_ap) ?_
  show zx p l e _ s m _ below meth c g 8 _ _ _ _ 183 [(4, .int 0), (3, .ref (b + 431)), (2, .ref (b + 405)), (1, .ref (b + 0)), (0, .ref bS)] _
  refine z_seti (y := 1) hu1 ?_
  refine z_istore (lv' := [(5, .int 1), (4, .int 0), (3, .ref (b + 431)), (2, .ref (b + 405)), (1, .ref (b + 0)), (0, .ref bS)]) B dL_law_183 (by decide) rfl ?_
  refine z_aload_n B dL_law_185 rfl 3 rfl ?_
  refine z_aload_n B dL_law_186 rfl 5 rfl ?_
  refine z_iload B dL_law_187 1 rfl ?_
  refine z_iconst (v := 1) B dL_law_189 (by decide) ?_
  refine z_iadd B dL_law_190 ?_
  refine z_seti (y := 1) (by decide) ?_
  refine z_sld (j := 1) (x := x1) B hX hbl hbA (by decide) (show ¬ ((1 : Int32) < 0 ∨ 6 ≤ (1 : Int32).toNatClampNeg) by decide) h_x1 dL_law_191 ?_
  refine z_aload_n B dL_law_192 rfl 5 rfl ?_
  refine z_iload B dL_law_193 1 rfl ?_
  refine z_iconst (v := 2) B dL_law_195 (by decide) ?_
  refine z_iadd B dL_law_196 ?_
  refine z_seti (y := 2) (by decide) ?_
  refine z_sld (j := 2) (x := x2) B hX hbl hbA (by decide) (show ¬ ((2 : Int32) < 0 ∨ 6 ≤ (2 : Int32).toNatClampNeg) by decide) h_x2 dL_law_197 ?_
  refine z_aload_n B dL_law_198 rfl 5 rfl ?_
  refine z_iload B dL_law_199 1 rfl ?_
  refine z_iconst (v := 3) B dL_law_201 (by decide) ?_
  refine z_iadd B dL_law_202 ?_
  refine z_seti (y := 3) (by decide) ?_
  refine z_sld (j := 3) (x := x3) B hX hbl hbA (by decide) (show ¬ ((3 : Int32) < 0 ∨ 6 ≤ (3 : Int32).toNatClampNeg) by decide) h_x3 dL_law_203 ?_
  refine z_aload_n B dL_law_204 rfl 5 rfl ?_
  refine z_iload B dL_law_205 1 rfl ?_
  refine z_iconst (v := 4) B dL_law_207 (by decide) ?_
  refine z_iadd B dL_law_208 ?_
  refine z_seti (y := 4) (by decide) ?_
  refine z_sld (j := 4) (x := x4) B hX hbl hbA (by decide) (show ¬ ((4 : Int32) < 0 ∨ 6 ≤ (4 : Int32).toNatClampNeg) by decide) h_x4 dL_law_209 ?_
  refine z_aload_n B dL_law_210 rfl 5 rfl ?_
  refine z_iload B dL_law_211 1 rfl ?_
  refine z_iconst (v := 5) B dL_law_213 (by decide) ?_
  refine z_iadd B dL_law_214 ?_
  refine z_seti (y := 5) (by decide) ?_
  refine z_sld (j := 5) (x := x5) B hX hbl hbA (by decide) (show ¬ ((5 : Int32) < 0 ∨ 6 ≤ (5 : Int32).toNatClampNeg) by decide) h_x5 dL_law_215 ?_
  refine z_cVi (As := [.int x1, .int x2, .int x3, .int x4, .int x5]) (rest := []) B cw_L_79 cx_10 dL_law_216 (ci_X9_set_374 l (σ := (ap b (wx_Z σ z) [] [] [])) (b := b) (lyA (lyZ hK)) x1 x2 x3 x4 x5 q1_x1 q2_x1 q1_x3 q2_x3 q1_x4 q2_x4 q1_x5 q2_x5) (lKA (lKZ (hk_K hK 405 rfl rfl))) rfl (by decide) rfl (Nat.le_of_ble_eq_true rfl) (by decide) (fun r u hu => ?_)
  refine z_eqs (σ' := (ap b (wx_Z σ z) [(405, 0, 1)] [] [])) (hu.2.trans ap_ap) ?_
  show zx p l e _ s m _ below meth c g 8 _ _ _ _ 219 [(5, .int 1), (4, .int 0), (3, .ref (b + 431)), (2, .ref (b + 405)), (1, .ref (b + 0)), (0, .ref bS)] _
  refine z_seti (y := 0) hu.1 ?_
  refine z_istore (lv' := [(6, .int 0), (5, .int 1), (4, .int 0), (3, .ref (b + 431)), (2, .ref (b + 405)), (1, .ref (b + 0)), (0, .ref bS)]) B dL_law_219 (by decide) rfl ?_
  refine z_aload_n B dL_law_221 rfl 4 rfl ?_
  refine z_cVi (As := []) (rest := []) B cw_L_80 cx_10 dL_law_222 (ci_X9_thrown_31 l (σ := (ap b (wx_Z σ z) [(405, 0, 1)] [] [])) (b := b) (lyA (lyZ hK)) (rI_at 405 0 rfl)) (lKA (lKZ (hk_K hK 405 rfl rfl))) rfl (by decide) rfl (Nat.le_of_ble_eq_true rfl) (by decide) (fun r u hu => ?_)
  refine z_eqs (σ' := (ap b (wx_Z σ z) [(405, 0, 1)] [] [])) hu.2 ?_
  show zx p l e _ s m _ below meth c g 8 _ _ _ _ 225 [(6, .int 0), (5, .int 1), (4, .int 0), (3, .ref (b + 431)), (2, .ref (b + 405)), (1, .ref (b + 0)), (0, .ref bS)] _
  refine z_seti (y := 1) hu.1 ?_
  refine z_iload B dL_law_225 1 rfl ?_
  refine z_icmp_eq (tgt := 232) B dL_law_227 (by decide) (fun _ => ?_) (fun h => absurd (by decide) h)
  refine z_iload B dL_law_232 1 rfl ?_
  refine z_if_ne (tgt := 249) B dL_law_234 (by decide) (fun _ => ?_) (fun h => absurd h (by decide))
  refine z_goto (tgt := 1395) B dL_law_249 (by decide) ?_
  exact z_widen (Nat.le_of_ble_eq_true rfl) (Nat.le_of_ble_eq_true rfl) (z_sub _ [2, 6] rfl (kk _))
set_option maxRecDepth 100000 in
set_option maxHeartbeats 4000000 in
theorem lf_0_136 {p : Program} {l : Launch} {e : Env} {s : State} {m : MethodId} {args : Array Value} {below : List Frame} {meth : Method} {c : Code} {g : gx_T} {Q : State → Prop} {σ : sx_T} {b t bS : Nat} {xs : Nat → Int32} (hlt : l.stackTraces = false) (B : zx_B p s m args meth c code RL 8 g) (hX : va_X bS 6 xs s s.heap) (hbl : bS < s.heap.size) (hbA : ¬ gx_b g ≤ bS) (hF : fz_P b t σ) {x1 : Int32} (h_x1 : xs 1 = x1) (q1_x1 : (6 : Int) ≤ x1.toInt) (q2_x1 : x1.toInt ≤ (2147483647 : Int)) {x2 : Int32} (h_x2 : xs 2 = x2) (q1_x2 : (-2147483648 : Int) ≤ x2.toInt) (q2_x2 : x2.toInt ≤ (2147483647 : Int)) {x3 : Int32} (h_x3 : xs 3 = x3) (q1_x3 : (0 : Int) ≤ x3.toInt) (q2_x3 : x3.toInt ≤ (17 : Int)) {x4 : Int32} (h_x4 : xs 4 = x4) (q1_x4 : (0 : Int) ≤ x4.toInt) (q2_x4 : x4.toInt ≤ (99 : Int)) {x5 : Int32} (h_x5 : xs 5 = x5) (q1_x5 : (0 : Int) ≤ x5.toInt) (q2_x5 : x5.toInt ≤ (99 : Int)) (kk : ∀ σ', zx p l e room_1 s m args below meth c g 8 600002 7302232 Q σ' 1395 [(4, .int 0), (0, .ref bS)] []) : zx p l e room_1 s m args below meth c g 8 500 100000 Q σ 148 [(4, .int 0), (3, .ref (b + 431)), (2, .ref (b + 405)), (1, .ref (b + 0)), (0, .ref bS)] [] := by
  have hK := fz_lay hF
  refine z_eqs (σ' := (ap b σ [] [] [])) rfl ?_
  refine z_aload_n B dL_law_148 rfl 3 rfl ?_
  refine z_aload_n B dL_law_149 rfl 4 rfl ?_
  refine z_iload B dL_law_150 0 rfl ?_
  refine z_iconst (v := 1) B dL_law_152 (by decide) ?_
  refine z_iadd B dL_law_153 ?_
  refine z_seti (y := 1) (by decide) ?_
  refine z_sld (j := 1) (x := x1) B hX hbl hbA (by decide) (show ¬ ((1 : Int32) < 0 ∨ 6 ≤ (1 : Int32).toNatClampNeg) by decide) h_x1 dL_law_154 ?_
  refine z_aload_n B dL_law_155 rfl 4 rfl ?_
  refine z_iload B dL_law_156 0 rfl ?_
  refine z_iconst (v := 2) B dL_law_158 (by decide) ?_
  refine z_iadd B dL_law_159 ?_
  refine z_seti (y := 2) (by decide) ?_
  refine z_sld (j := 2) (x := x2) B hX hbl hbA (by decide) (show ¬ ((2 : Int32) < 0 ∨ 6 ≤ (2 : Int32).toNatClampNeg) by decide) h_x2 dL_law_160 ?_
  refine z_aload_n B dL_law_161 rfl 4 rfl ?_
  refine z_iload B dL_law_162 0 rfl ?_
  refine z_iconst (v := 3) B dL_law_164 (by decide) ?_
  refine z_iadd B dL_law_165 ?_
  refine z_seti (y := 3) (by decide) ?_
  refine z_sld (j := 3) (x := x3) B hX hbl hbA (by decide) (show ¬ ((3 : Int32) < 0 ∨ 6 ≤ (3 : Int32).toNatClampNeg) by decide) h_x3 dL_law_166 ?_
  refine z_aload_n B dL_law_167 rfl 4 rfl ?_
  refine z_iload B dL_law_168 0 rfl ?_
  refine z_iconst (v := 4) B dL_law_170 (by decide) ?_
  refine z_iadd B dL_law_171 ?_
  refine z_seti (y := 4) (by decide) ?_
  refine z_sld (j := 4) (x := x4) B hX hbl hbA (by decide) (show ¬ ((4 : Int32) < 0 ∨ 6 ≤ (4 : Int32).toNatClampNeg) by decide) h_x4 dL_law_172 ?_
  refine z_aload_n B dL_law_173 rfl 4 rfl ?_
  refine z_iload B dL_law_174 0 rfl ?_
  refine z_iconst (v := 5) B dL_law_176 (by decide) ?_
  refine z_iadd B dL_law_177 ?_
  refine z_seti (y := 5) (by decide) ?_
  refine z_sld (j := 5) (x := x5) B hX hbl hbA (by decide) (show ¬ ((5 : Int32) < 0 ∨ 6 ≤ (5 : Int32).toNatClampNeg) by decide) h_x5 dL_law_178 ?_
  refine z_aload_n B dL_law_179 rfl 1 rfl ?_
  refine z_cSWi (As := [.ref (b + 0), .int x1, .int x2, .int x3, .int x4, .int x5, .ref (b + 431)]) (rest := []) B cw_L_74 dL_law_180 (ci_L_set_369 l hlt (σ := (ap b σ [] [] [])) (b := b) (lyA hK) x1 x2 x3 x4 x5 q1_x1 q2_x1 (rR_at 0 0 (fz_R hF 0 0 rfl rfl))) rfl (by decide) rfl (Nat.le_of_ble_eq_true rfl) (by decide) (fun r u hu => ?_)
  obtain ⟨hu1, z, hu⟩ := hu
  refine z_eqs (σ' := (ap b (wx_Z σ z) [] [] [])) (hu.trans az_ap) ?_
  show zx p l e _ s m _ below meth c g 8 _ _ _ _ 183 [(4, .int 0), (3, .ref (b + 431)), (2, .ref (b + 405)), (1, .ref (b + 0)), (0, .ref bS)] _
  refine z_seti (y := 1) hu1 ?_
  refine z_istore (lv' := [(5, .int 1), (4, .int 0), (3, .ref (b + 431)), (2, .ref (b + 405)), (1, .ref (b + 0)), (0, .ref bS)]) B dL_law_183 (by decide) rfl ?_
  refine z_aload_n B dL_law_185 rfl 3 rfl ?_
  refine z_aload_n B dL_law_186 rfl 5 rfl ?_
  refine z_iload B dL_law_187 1 rfl ?_
  refine z_iconst (v := 1) B dL_law_189 (by decide) ?_
  refine z_iadd B dL_law_190 ?_
  refine z_seti (y := 1) (by decide) ?_
  refine z_sld (j := 1) (x := x1) B hX hbl hbA (by decide) (show ¬ ((1 : Int32) < 0 ∨ 6 ≤ (1 : Int32).toNatClampNeg) by decide) h_x1 dL_law_191 ?_
  refine z_aload_n B dL_law_192 rfl 5 rfl ?_
  refine z_iload B dL_law_193 1 rfl ?_
  refine z_iconst (v := 2) B dL_law_195 (by decide) ?_
  refine z_iadd B dL_law_196 ?_
  refine z_seti (y := 2) (by decide) ?_
  refine z_sld (j := 2) (x := x2) B hX hbl hbA (by decide) (show ¬ ((2 : Int32) < 0 ∨ 6 ≤ (2 : Int32).toNatClampNeg) by decide) h_x2 dL_law_197 ?_
  refine z_aload_n B dL_law_198 rfl 5 rfl ?_
  refine z_iload B dL_law_199 1 rfl ?_
  refine z_iconst (v := 3) B dL_law_201 (by decide) ?_
  refine z_iadd B dL_law_202 ?_
  refine z_seti (y := 3) (by decide) ?_
  refine z_sld (j := 3) (x := x3) B hX hbl hbA (by decide) (show ¬ ((3 : Int32) < 0 ∨ 6 ≤ (3 : Int32).toNatClampNeg) by decide) h_x3 dL_law_203 ?_
  refine z_aload_n B dL_law_204 rfl 5 rfl ?_
  refine z_iload B dL_law_205 1 rfl ?_
  refine z_iconst (v := 4) B dL_law_207 (by decide) ?_
  refine z_iadd B dL_law_208 ?_
  refine z_seti (y := 4) (by decide) ?_
  refine z_sld (j := 4) (x := x4) B hX hbl hbA (by decide) (show ¬ ((4 : Int32) < 0 ∨ 6 ≤ (4 : Int32).toNatClampNeg) by decide) h_x4 dL_law_209 ?_
  refine z_aload_n B dL_law_210 rfl 5 rfl ?_
  refine z_iload B dL_law_211 1 rfl ?_
  refine z_iconst (v := 5) B dL_law_213 (by decide) ?_
  refine z_iadd B dL_law_214 ?_
  refine z_seti (y := 5) (by decide) ?_
  refine z_sld (j := 5) (x := x5) B hX hbl hbA (by decide) (show ¬ ((5 : Int32) < 0 ∨ 6 ≤ (5 : Int32).toNatClampNeg) by decide) h_x5 dL_law_215 ?_
  refine z_cVi (As := [.int x1, .int x2, .int x3, .int x4, .int x5]) (rest := []) B cw_L_79 cx_10 dL_law_216 (ci_X9_set_375 l (σ := (ap b (wx_Z σ z) [] [] [])) (b := b) (lyA (lyZ hK)) x1 x2 x3 x4 x5 q1_x1 q2_x1 q1_x3 q2_x3 q1_x4 q2_x4 q1_x5 q2_x5) (lKA (lKZ (hk_K hK 405 rfl rfl))) rfl (by decide) rfl (Nat.le_of_ble_eq_true rfl) (by decide) (fun r u hu => ?_)
  refine z_eqs (σ' := (ap b (wx_Z σ z) [(405, 0, 1)] [] [])) (hu.2.trans ap_ap) ?_
  show zx p l e _ s m _ below meth c g 8 _ _ _ _ 219 [(5, .int 1), (4, .int 0), (3, .ref (b + 431)), (2, .ref (b + 405)), (1, .ref (b + 0)), (0, .ref bS)] _
  refine z_seti (y := 0) hu.1 ?_
  refine z_istore (lv' := [(6, .int 0), (5, .int 1), (4, .int 0), (3, .ref (b + 431)), (2, .ref (b + 405)), (1, .ref (b + 0)), (0, .ref bS)]) B dL_law_219 (by decide) rfl ?_
  refine z_aload_n B dL_law_221 rfl 4 rfl ?_
  refine z_cVi (As := []) (rest := []) B cw_L_80 cx_10 dL_law_222 (ci_X9_thrown_31 l (σ := (ap b (wx_Z σ z) [(405, 0, 1)] [] [])) (b := b) (lyA (lyZ hK)) (rI_at 405 0 rfl)) (lKA (lKZ (hk_K hK 405 rfl rfl))) rfl (by decide) rfl (Nat.le_of_ble_eq_true rfl) (by decide) (fun r u hu => ?_)
  refine z_eqs (σ' := (ap b (wx_Z σ z) [(405, 0, 1)] [] [])) hu.2 ?_
  show zx p l e _ s m _ below meth c g 8 _ _ _ _ 225 [(6, .int 0), (5, .int 1), (4, .int 0), (3, .ref (b + 431)), (2, .ref (b + 405)), (1, .ref (b + 0)), (0, .ref bS)] _
  refine z_seti (y := 1) hu.1 ?_
  refine z_iload B dL_law_225 1 rfl ?_
  refine z_icmp_eq (tgt := 232) B dL_law_227 (by decide) (fun _ => ?_) (fun h => absurd (by decide) h)
  refine z_iload B dL_law_232 1 rfl ?_
  refine z_if_ne (tgt := 249) B dL_law_234 (by decide) (fun _ => ?_) (fun h => absurd h (by decide))
  refine z_goto (tgt := 1395) B dL_law_249 (by decide) ?_
  exact z_widen (Nat.le_of_ble_eq_true rfl) (Nat.le_of_ble_eq_true rfl) (z_sub _ [2, 6] rfl (kk _))
set_option maxRecDepth 100000 in
set_option maxHeartbeats 4000000 in
theorem lf_0_137 {p : Program} {l : Launch} {e : Env} {s : State} {m : MethodId} {args : Array Value} {below : List Frame} {meth : Method} {c : Code} {g : gx_T} {Q : State → Prop} {σ : sx_T} {b t bS : Nat} {xs : Nat → Int32} (hlt : l.stackTraces = false) (B : zx_B p s m args meth c code RL 8 g) (hX : va_X bS 6 xs s s.heap) (hbl : bS < s.heap.size) (hbA : ¬ gx_b g ≤ bS) (hF : fz_P b t σ) {x1 : Int32} (h_x1 : xs 1 = x1) (q1_x1 : (6 : Int) ≤ x1.toInt) (q2_x1 : x1.toInt ≤ (2147483647 : Int)) {x2 : Int32} (h_x2 : xs 2 = x2) (q1_x2 : (-2147483648 : Int) ≤ x2.toInt) (q2_x2 : x2.toInt ≤ (2147483647 : Int)) {x3 : Int32} (h_x3 : xs 3 = x3) (q1_x3 : (0 : Int) ≤ x3.toInt) (q2_x3 : x3.toInt ≤ (17 : Int)) {x4 : Int32} (h_x4 : xs 4 = x4) (q1_x4 : (0 : Int) ≤ x4.toInt) (q2_x4 : x4.toInt ≤ (99 : Int)) {x5 : Int32} (h_x5 : xs 5 = x5) (q1_x5 : (100 : Int) ≤ x5.toInt) (q2_x5 : x5.toInt ≤ (2147483647 : Int)) (kk : ∀ σ', zx p l e room_1 s m args below meth c g 8 600002 7302232 Q σ' 1395 [(4, .int 0), (0, .ref bS)] []) : zx p l e room_1 s m args below meth c g 8 500 100000 Q σ 148 [(4, .int 0), (3, .ref (b + 431)), (2, .ref (b + 405)), (1, .ref (b + 0)), (0, .ref bS)] [] := by
  have hK := fz_lay hF
  refine z_eqs (σ' := (ap b σ [] [] [])) rfl ?_
  refine z_aload_n B dL_law_148 rfl 3 rfl ?_
  refine z_aload_n B dL_law_149 rfl 4 rfl ?_
  refine z_iload B dL_law_150 0 rfl ?_
  refine z_iconst (v := 1) B dL_law_152 (by decide) ?_
  refine z_iadd B dL_law_153 ?_
  refine z_seti (y := 1) (by decide) ?_
  refine z_sld (j := 1) (x := x1) B hX hbl hbA (by decide) (show ¬ ((1 : Int32) < 0 ∨ 6 ≤ (1 : Int32).toNatClampNeg) by decide) h_x1 dL_law_154 ?_
  refine z_aload_n B dL_law_155 rfl 4 rfl ?_
  refine z_iload B dL_law_156 0 rfl ?_
  refine z_iconst (v := 2) B dL_law_158 (by decide) ?_
  refine z_iadd B dL_law_159 ?_
  refine z_seti (y := 2) (by decide) ?_
  refine z_sld (j := 2) (x := x2) B hX hbl hbA (by decide) (show ¬ ((2 : Int32) < 0 ∨ 6 ≤ (2 : Int32).toNatClampNeg) by decide) h_x2 dL_law_160 ?_
  refine z_aload_n B dL_law_161 rfl 4 rfl ?_
  refine z_iload B dL_law_162 0 rfl ?_
  refine z_iconst (v := 3) B dL_law_164 (by decide) ?_
  refine z_iadd B dL_law_165 ?_
  refine z_seti (y := 3) (by decide) ?_
  refine z_sld (j := 3) (x := x3) B hX hbl hbA (by decide) (show ¬ ((3 : Int32) < 0 ∨ 6 ≤ (3 : Int32).toNatClampNeg) by decide) h_x3 dL_law_166 ?_
  refine z_aload_n B dL_law_167 rfl 4 rfl ?_
  refine z_iload B dL_law_168 0 rfl ?_
  refine z_iconst (v := 4) B dL_law_170 (by decide) ?_
  refine z_iadd B dL_law_171 ?_
  refine z_seti (y := 4) (by decide) ?_
  refine z_sld (j := 4) (x := x4) B hX hbl hbA (by decide) (show ¬ ((4 : Int32) < 0 ∨ 6 ≤ (4 : Int32).toNatClampNeg) by decide) h_x4 dL_law_172 ?_
  refine z_aload_n B dL_law_173 rfl 4 rfl ?_
  refine z_iload B dL_law_174 0 rfl ?_
  refine z_iconst (v := 5) B dL_law_176 (by decide) ?_
  refine z_iadd B dL_law_177 ?_
  refine z_seti (y := 5) (by decide) ?_
  refine z_sld (j := 5) (x := x5) B hX hbl hbA (by decide) (show ¬ ((5 : Int32) < 0 ∨ 6 ≤ (5 : Int32).toNatClampNeg) by decide) h_x5 dL_law_178 ?_
  refine z_aload_n B dL_law_179 rfl 1 rfl ?_
  refine z_cSWi (As := [.ref (b + 0), .int x1, .int x2, .int x3, .int x4, .int x5, .ref (b + 431)]) (rest := []) B cw_L_74 dL_law_180 (ci_L_set_369 l hlt (σ := (ap b σ [] [] [])) (b := b) (lyA hK) x1 x2 x3 x4 x5 q1_x1 q2_x1 (rR_at 0 0 (fz_R hF 0 0 rfl rfl))) rfl (by decide) rfl (Nat.le_of_ble_eq_true rfl) (by decide) (fun r u hu => ?_)
  obtain ⟨hu1, z, hu⟩ := hu
  refine z_eqs (σ' := (ap b (wx_Z σ z) [] [] [])) (hu.trans az_ap) ?_
  show zx p l e _ s m _ below meth c g 8 _ _ _ _ 183 [(4, .int 0), (3, .ref (b + 431)), (2, .ref (b + 405)), (1, .ref (b + 0)), (0, .ref bS)] _
  refine z_seti (y := 1) hu1 ?_
  refine z_istore (lv' := [(5, .int 1), (4, .int 0), (3, .ref (b + 431)), (2, .ref (b + 405)), (1, .ref (b + 0)), (0, .ref bS)]) B dL_law_183 (by decide) rfl ?_
  refine z_aload_n B dL_law_185 rfl 3 rfl ?_
  refine z_aload_n B dL_law_186 rfl 5 rfl ?_
  refine z_iload B dL_law_187 1 rfl ?_
  refine z_iconst (v := 1) B dL_law_189 (by decide) ?_
  refine z_iadd B dL_law_190 ?_
  refine z_seti (y := 1) (by decide) ?_
  refine z_sld (j := 1) (x := x1) B hX hbl hbA (by decide) (show ¬ ((1 : Int32) < 0 ∨ 6 ≤ (1 : Int32).toNatClampNeg) by decide) h_x1 dL_law_191 ?_
  refine z_aload_n B dL_law_192 rfl 5 rfl ?_
  refine z_iload B dL_law_193 1 rfl ?_
  refine z_iconst (v := 2) B dL_law_195 (by decide) ?_
  refine z_iadd B dL_law_196 ?_
  refine z_seti (y := 2) (by decide) ?_
  refine z_sld (j := 2) (x := x2) B hX hbl hbA (by decide) (show ¬ ((2 : Int32) < 0 ∨ 6 ≤ (2 : Int32).toNatClampNeg) by decide) h_x2 dL_law_197 ?_
  refine z_aload_n B dL_law_198 rfl 5 rfl ?_
  refine z_iload B dL_law_199 1 rfl ?_
  refine z_iconst (v := 3) B dL_law_201 (by decide) ?_
  refine z_iadd B dL_law_202 ?_
  refine z_seti (y := 3) (by decide) ?_
  refine z_sld (j := 3) (x := x3) B hX hbl hbA (by decide) (show ¬ ((3 : Int32) < 0 ∨ 6 ≤ (3 : Int32).toNatClampNeg) by decide) h_x3 dL_law_203 ?_
  refine z_aload_n B dL_law_204 rfl 5 rfl ?_
  refine z_iload B dL_law_205 1 rfl ?_
  refine z_iconst (v := 4) B dL_law_207 (by decide) ?_
  refine z_iadd B dL_law_208 ?_
  refine z_seti (y := 4) (by decide) ?_
  refine z_sld (j := 4) (x := x4) B hX hbl hbA (by decide) (show ¬ ((4 : Int32) < 0 ∨ 6 ≤ (4 : Int32).toNatClampNeg) by decide) h_x4 dL_law_209 ?_
  refine z_aload_n B dL_law_210 rfl 5 rfl ?_
  refine z_iload B dL_law_211 1 rfl ?_
  refine z_iconst (v := 5) B dL_law_213 (by decide) ?_
  refine z_iadd B dL_law_214 ?_
  refine z_seti (y := 5) (by decide) ?_
  refine z_sld (j := 5) (x := x5) B hX hbl hbA (by decide) (show ¬ ((5 : Int32) < 0 ∨ 6 ≤ (5 : Int32).toNatClampNeg) by decide) h_x5 dL_law_215 ?_
  refine z_cVi (As := [.int x1, .int x2, .int x3, .int x4, .int x5]) (rest := []) B cw_L_79 cx_10 dL_law_216 (ci_X9_set_376 l (σ := (ap b (wx_Z σ z) [] [] [])) (b := b) (lyA (lyZ hK)) x1 x2 x3 x4 x5 q1_x1 q2_x1 q1_x3 q2_x3 q1_x4 q2_x4 q1_x5 q2_x5) (lKA (lKZ (hk_K hK 405 rfl rfl))) rfl (by decide) rfl (Nat.le_of_ble_eq_true rfl) (by decide) (fun r u hu => ?_)
  refine z_eqs (σ' := (ap b (wx_Z σ z) [(405, 0, 1)] [] [])) (hu.2.trans ap_ap) ?_
  show zx p l e _ s m _ below meth c g 8 _ _ _ _ 219 [(5, .int 1), (4, .int 0), (3, .ref (b + 431)), (2, .ref (b + 405)), (1, .ref (b + 0)), (0, .ref bS)] _
  refine z_seti (y := 0) hu.1 ?_
  refine z_istore (lv' := [(6, .int 0), (5, .int 1), (4, .int 0), (3, .ref (b + 431)), (2, .ref (b + 405)), (1, .ref (b + 0)), (0, .ref bS)]) B dL_law_219 (by decide) rfl ?_
  refine z_aload_n B dL_law_221 rfl 4 rfl ?_
  refine z_cVi (As := []) (rest := []) B cw_L_80 cx_10 dL_law_222 (ci_X9_thrown_31 l (σ := (ap b (wx_Z σ z) [(405, 0, 1)] [] [])) (b := b) (lyA (lyZ hK)) (rI_at 405 0 rfl)) (lKA (lKZ (hk_K hK 405 rfl rfl))) rfl (by decide) rfl (Nat.le_of_ble_eq_true rfl) (by decide) (fun r u hu => ?_)
  refine z_eqs (σ' := (ap b (wx_Z σ z) [(405, 0, 1)] [] [])) hu.2 ?_
  show zx p l e _ s m _ below meth c g 8 _ _ _ _ 225 [(6, .int 0), (5, .int 1), (4, .int 0), (3, .ref (b + 431)), (2, .ref (b + 405)), (1, .ref (b + 0)), (0, .ref bS)] _
  refine z_seti (y := 1) hu.1 ?_
  refine z_iload B dL_law_225 1 rfl ?_
  refine z_icmp_eq (tgt := 232) B dL_law_227 (by decide) (fun _ => ?_) (fun h => absurd (by decide) h)
  refine z_iload B dL_law_232 1 rfl ?_
  refine z_if_ne (tgt := 249) B dL_law_234 (by decide) (fun _ => ?_) (fun h => absurd h (by decide))
  refine z_goto (tgt := 1395) B dL_law_249 (by decide) ?_
  exact z_widen (Nat.le_of_ble_eq_true rfl) (Nat.le_of_ble_eq_true rfl) (z_sub _ [2, 6] rfl (kk _))
set_option maxRecDepth 100000 in
set_option maxHeartbeats 4000000 in
theorem lf_0_138 {p : Program} {l : Launch} {e : Env} {s : State} {m : MethodId} {args : Array Value} {below : List Frame} {meth : Method} {c : Code} {g : gx_T} {Q : State → Prop} {σ : sx_T} {b t bS : Nat} {xs : Nat → Int32} (hlt : l.stackTraces = false) (B : zx_B p s m args meth c code RL 8 g) (hX : va_X bS 6 xs s s.heap) (hbl : bS < s.heap.size) (hbA : ¬ gx_b g ≤ bS) (hF : fz_P b t σ) {x1 : Int32} (h_x1 : xs 1 = x1) (q1_x1 : (6 : Int) ≤ x1.toInt) (q2_x1 : x1.toInt ≤ (2147483647 : Int)) {x2 : Int32} (h_x2 : xs 2 = x2) (q1_x2 : (-2147483648 : Int) ≤ x2.toInt) (q2_x2 : x2.toInt ≤ (2147483647 : Int)) {x3 : Int32} (h_x3 : xs 3 = x3) (q1_x3 : (0 : Int) ≤ x3.toInt) (q2_x3 : x3.toInt ≤ (17 : Int)) {x4 : Int32} (h_x4 : xs 4 = x4) (q1_x4 : (100 : Int) ≤ x4.toInt) (q2_x4 : x4.toInt ≤ (2147483647 : Int)) {x5 : Int32} (h_x5 : xs 5 = x5) (q1_x5 : (-2147483648 : Int) ≤ x5.toInt) (q2_x5 : x5.toInt ≤ (2147483647 : Int)) (kk : ∀ σ', zx p l e room_1 s m args below meth c g 8 600002 7302232 Q σ' 1395 [(4, .int 0), (0, .ref bS)] []) : zx p l e room_1 s m args below meth c g 8 500 100000 Q σ 148 [(4, .int 0), (3, .ref (b + 431)), (2, .ref (b + 405)), (1, .ref (b + 0)), (0, .ref bS)] [] := by
  have hK := fz_lay hF
  refine z_eqs (σ' := (ap b σ [] [] [])) rfl ?_
  refine z_aload_n B dL_law_148 rfl 3 rfl ?_
  refine z_aload_n B dL_law_149 rfl 4 rfl ?_
  refine z_iload B dL_law_150 0 rfl ?_
  refine z_iconst (v := 1) B dL_law_152 (by decide) ?_
  refine z_iadd B dL_law_153 ?_
  refine z_seti (y := 1) (by decide) ?_
  refine z_sld (j := 1) (x := x1) B hX hbl hbA (by decide) (show ¬ ((1 : Int32) < 0 ∨ 6 ≤ (1 : Int32).toNatClampNeg) by decide) h_x1 dL_law_154 ?_
  refine z_aload_n B dL_law_155 rfl 4 rfl ?_
  refine z_iload B dL_law_156 0 rfl ?_
  refine z_iconst (v := 2) B dL_law_158 (by decide) ?_
  refine z_iadd B dL_law_159 ?_
  refine z_seti (y := 2) (by decide) ?_
  refine z_sld (j := 2) (x := x2) B hX hbl hbA (by decide) (show ¬ ((2 : Int32) < 0 ∨ 6 ≤ (2 : Int32).toNatClampNeg) by decide) h_x2 dL_law_160 ?_
  refine z_aload_n B dL_law_161 rfl 4 rfl ?_
  refine z_iload B dL_law_162 0 rfl ?_
  refine z_iconst (v := 3) B dL_law_164 (by decide) ?_
  refine z_iadd B dL_law_165 ?_
  refine z_seti (y := 3) (by decide) ?_
  refine z_sld (j := 3) (x := x3) B hX hbl hbA (by decide) (show ¬ ((3 : Int32) < 0 ∨ 6 ≤ (3 : Int32).toNatClampNeg) by decide) h_x3 dL_law_166 ?_
  refine z_aload_n B dL_law_167 rfl 4 rfl ?_
  refine z_iload B dL_law_168 0 rfl ?_
  refine z_iconst (v := 4) B dL_law_170 (by decide) ?_
  refine z_iadd B dL_law_171 ?_
  refine z_seti (y := 4) (by decide) ?_
  refine z_sld (j := 4) (x := x4) B hX hbl hbA (by decide) (show ¬ ((4 : Int32) < 0 ∨ 6 ≤ (4 : Int32).toNatClampNeg) by decide) h_x4 dL_law_172 ?_
  refine z_aload_n B dL_law_173 rfl 4 rfl ?_
  refine z_iload B dL_law_174 0 rfl ?_
  refine z_iconst (v := 5) B dL_law_176 (by decide) ?_
  refine z_iadd B dL_law_177 ?_
  refine z_seti (y := 5) (by decide) ?_
  refine z_sld (j := 5) (x := x5) B hX hbl hbA (by decide) (show ¬ ((5 : Int32) < 0 ∨ 6 ≤ (5 : Int32).toNatClampNeg) by decide) h_x5 dL_law_178 ?_
  refine z_aload_n B dL_law_179 rfl 1 rfl ?_
  refine z_cSWi (As := [.ref (b + 0), .int x1, .int x2, .int x3, .int x4, .int x5, .ref (b + 431)]) (rest := []) B cw_L_74 dL_law_180 (ci_L_set_369 l hlt (σ := (ap b σ [] [] [])) (b := b) (lyA hK) x1 x2 x3 x4 x5 q1_x1 q2_x1 (rR_at 0 0 (fz_R hF 0 0 rfl rfl))) rfl (by decide) rfl (Nat.le_of_ble_eq_true rfl) (by decide) (fun r u hu => ?_)
  obtain ⟨hu1, z, hu⟩ := hu
  refine z_eqs (σ' := (ap b (wx_Z σ z) [] [] [])) (hu.trans az_ap) ?_
  show zx p l e _ s m _ below meth c g 8 _ _ _ _ 183 [(4, .int 0), (3, .ref (b + 431)), (2, .ref (b + 405)), (1, .ref (b + 0)), (0, .ref bS)] _
  refine z_seti (y := 1) hu1 ?_
  refine z_istore (lv' := [(5, .int 1), (4, .int 0), (3, .ref (b + 431)), (2, .ref (b + 405)), (1, .ref (b + 0)), (0, .ref bS)]) B dL_law_183 (by decide) rfl ?_
  refine z_aload_n B dL_law_185 rfl 3 rfl ?_
  refine z_aload_n B dL_law_186 rfl 5 rfl ?_
  refine z_iload B dL_law_187 1 rfl ?_
  refine z_iconst (v := 1) B dL_law_189 (by decide) ?_
  refine z_iadd B dL_law_190 ?_
  refine z_seti (y := 1) (by decide) ?_
  refine z_sld (j := 1) (x := x1) B hX hbl hbA (by decide) (show ¬ ((1 : Int32) < 0 ∨ 6 ≤ (1 : Int32).toNatClampNeg) by decide) h_x1 dL_law_191 ?_
  refine z_aload_n B dL_law_192 rfl 5 rfl ?_
  refine z_iload B dL_law_193 1 rfl ?_
  refine z_iconst (v := 2) B dL_law_195 (by decide) ?_
  refine z_iadd B dL_law_196 ?_
  refine z_seti (y := 2) (by decide) ?_
  refine z_sld (j := 2) (x := x2) B hX hbl hbA (by decide) (show ¬ ((2 : Int32) < 0 ∨ 6 ≤ (2 : Int32).toNatClampNeg) by decide) h_x2 dL_law_197 ?_
  refine z_aload_n B dL_law_198 rfl 5 rfl ?_
  refine z_iload B dL_law_199 1 rfl ?_
  refine z_iconst (v := 3) B dL_law_201 (by decide) ?_
  refine z_iadd B dL_law_202 ?_
  refine z_seti (y := 3) (by decide) ?_
  refine z_sld (j := 3) (x := x3) B hX hbl hbA (by decide) (show ¬ ((3 : Int32) < 0 ∨ 6 ≤ (3 : Int32).toNatClampNeg) by decide) h_x3 dL_law_203 ?_
  refine z_aload_n B dL_law_204 rfl 5 rfl ?_
  refine z_iload B dL_law_205 1 rfl ?_
  refine z_iconst (v := 4) B dL_law_207 (by decide) ?_
  refine z_iadd B dL_law_208 ?_
  refine z_seti (y := 4) (by decide) ?_
  refine z_sld (j := 4) (x := x4) B hX hbl hbA (by decide) (show ¬ ((4 : Int32) < 0 ∨ 6 ≤ (4 : Int32).toNatClampNeg) by decide) h_x4 dL_law_209 ?_
  refine z_aload_n B dL_law_210 rfl 5 rfl ?_
  refine z_iload B dL_law_211 1 rfl ?_
  refine z_iconst (v := 5) B dL_law_213 (by decide) ?_
  refine z_iadd B dL_law_214 ?_
  refine z_seti (y := 5) (by decide) ?_
  refine z_sld (j := 5) (x := x5) B hX hbl hbA (by decide) (show ¬ ((5 : Int32) < 0 ∨ 6 ≤ (5 : Int32).toNatClampNeg) by decide) h_x5 dL_law_215 ?_
  refine z_cVi (As := [.int x1, .int x2, .int x3, .int x4, .int x5]) (rest := []) B cw_L_79 cx_10 dL_law_216 (ci_X9_set_377 l (σ := (ap b (wx_Z σ z) [] [] [])) (b := b) (lyA (lyZ hK)) x1 x2 x3 x4 x5 q1_x1 q2_x1 q1_x3 q2_x3 q1_x4 q2_x4) (lKA (lKZ (hk_K hK 405 rfl rfl))) rfl (by decide) rfl (Nat.le_of_ble_eq_true rfl) (by decide) (fun r u hu => ?_)
  refine z_eqs (σ' := (ap b (wx_Z σ z) [(405, 0, 1)] [] [])) (hu.2.trans ap_ap) ?_
  show zx p l e _ s m _ below meth c g 8 _ _ _ _ 219 [(5, .int 1), (4, .int 0), (3, .ref (b + 431)), (2, .ref (b + 405)), (1, .ref (b + 0)), (0, .ref bS)] _
  refine z_seti (y := 0) hu.1 ?_
  refine z_istore (lv' := [(6, .int 0), (5, .int 1), (4, .int 0), (3, .ref (b + 431)), (2, .ref (b + 405)), (1, .ref (b + 0)), (0, .ref bS)]) B dL_law_219 (by decide) rfl ?_
  refine z_aload_n B dL_law_221 rfl 4 rfl ?_
  refine z_cVi (As := []) (rest := []) B cw_L_80 cx_10 dL_law_222 (ci_X9_thrown_31 l (σ := (ap b (wx_Z σ z) [(405, 0, 1)] [] [])) (b := b) (lyA (lyZ hK)) (rI_at 405 0 rfl)) (lKA (lKZ (hk_K hK 405 rfl rfl))) rfl (by decide) rfl (Nat.le_of_ble_eq_true rfl) (by decide) (fun r u hu => ?_)
  refine z_eqs (σ' := (ap b (wx_Z σ z) [(405, 0, 1)] [] [])) hu.2 ?_
  show zx p l e _ s m _ below meth c g 8 _ _ _ _ 225 [(6, .int 0), (5, .int 1), (4, .int 0), (3, .ref (b + 431)), (2, .ref (b + 405)), (1, .ref (b + 0)), (0, .ref bS)] _
  refine z_seti (y := 1) hu.1 ?_
  refine z_iload B dL_law_225 1 rfl ?_
  refine z_icmp_eq (tgt := 232) B dL_law_227 (by decide) (fun _ => ?_) (fun h => absurd (by decide) h)
  refine z_iload B dL_law_232 1 rfl ?_
  refine z_if_ne (tgt := 249) B dL_law_234 (by decide) (fun _ => ?_) (fun h => absurd h (by decide))
  refine z_goto (tgt := 1395) B dL_law_249 (by decide) ?_
  exact z_widen (Nat.le_of_ble_eq_true rfl) (Nat.le_of_ble_eq_true rfl) (z_sub _ [2, 6] rfl (kk _))
set_option maxRecDepth 100000 in
set_option maxHeartbeats 4000000 in
theorem lf_0_139 {p : Program} {l : Launch} {e : Env} {s : State} {m : MethodId} {args : Array Value} {below : List Frame} {meth : Method} {c : Code} {g : gx_T} {Q : State → Prop} {σ : sx_T} {b t bS : Nat} {xs : Nat → Int32} (hlt : l.stackTraces = false) (B : zx_B p s m args meth c code RL 8 g) (hX : va_X bS 6 xs s s.heap) (hbl : bS < s.heap.size) (hbA : ¬ gx_b g ≤ bS) (hF : fz_P b t σ) {x1 : Int32} (h_x1 : xs 1 = x1) (q1_x1 : (6 : Int) ≤ x1.toInt) (q2_x1 : x1.toInt ≤ (2147483647 : Int)) {x2 : Int32} (h_x2 : xs 2 = x2) (q1_x2 : (-2147483648 : Int) ≤ x2.toInt) (q2_x2 : x2.toInt ≤ (2147483647 : Int)) {x3 : Int32} (h_x3 : xs 3 = x3) (q1_x3 : (18 : Int) ≤ x3.toInt) (q2_x3 : x3.toInt ≤ (2147483647 : Int)) {x4 : Int32} (h_x4 : xs 4 = x4) (q1_x4 : (-2147483648 : Int) ≤ x4.toInt) (q2_x4 : x4.toInt ≤ (2147483647 : Int)) {x5 : Int32} (h_x5 : xs 5 = x5) (q1_x5 : (-2147483648 : Int) ≤ x5.toInt) (q2_x5 : x5.toInt ≤ (2147483647 : Int)) (kk : ∀ σ', zx p l e room_1 s m args below meth c g 8 600002 7302232 Q σ' 1395 [(4, .int 0), (0, .ref bS)] []) : zx p l e room_1 s m args below meth c g 8 500 100000 Q σ 148 [(4, .int 0), (3, .ref (b + 431)), (2, .ref (b + 405)), (1, .ref (b + 0)), (0, .ref bS)] [] := by
  have hK := fz_lay hF
  refine z_eqs (σ' := (ap b σ [] [] [])) rfl ?_
  refine z_aload_n B dL_law_148 rfl 3 rfl ?_
  refine z_aload_n B dL_law_149 rfl 4 rfl ?_
  refine z_iload B dL_law_150 0 rfl ?_
  refine z_iconst (v := 1) B dL_law_152 (by decide) ?_
  refine z_iadd B dL_law_153 ?_
  refine z_seti (y := 1) (by decide) ?_
  refine z_sld (j := 1) (x := x1) B hX hbl hbA (by decide) (show ¬ ((1 : Int32) < 0 ∨ 6 ≤ (1 : Int32).toNatClampNeg) by decide) h_x1 dL_law_154 ?_
  refine z_aload_n B dL_law_155 rfl 4 rfl ?_
  refine z_iload B dL_law_156 0 rfl ?_
  refine z_iconst (v := 2) B dL_law_158 (by decide) ?_
  refine z_iadd B dL_law_159 ?_
  refine z_seti (y := 2) (by decide) ?_
  refine z_sld (j := 2) (x := x2) B hX hbl hbA (by decide) (show ¬ ((2 : Int32) < 0 ∨ 6 ≤ (2 : Int32).toNatClampNeg) by decide) h_x2 dL_law_160 ?_
  refine z_aload_n B dL_law_161 rfl 4 rfl ?_
  refine z_iload B dL_law_162 0 rfl ?_
  refine z_iconst (v := 3) B dL_law_164 (by decide) ?_
  refine z_iadd B dL_law_165 ?_
  refine z_seti (y := 3) (by decide) ?_
  refine z_sld (j := 3) (x := x3) B hX hbl hbA (by decide) (show ¬ ((3 : Int32) < 0 ∨ 6 ≤ (3 : Int32).toNatClampNeg) by decide) h_x3 dL_law_166 ?_
  refine z_aload_n B dL_law_167 rfl 4 rfl ?_
  refine z_iload B dL_law_168 0 rfl ?_
  refine z_iconst (v := 4) B dL_law_170 (by decide) ?_
  refine z_iadd B dL_law_171 ?_
  refine z_seti (y := 4) (by decide) ?_
  refine z_sld (j := 4) (x := x4) B hX hbl hbA (by decide) (show ¬ ((4 : Int32) < 0 ∨ 6 ≤ (4 : Int32).toNatClampNeg) by decide) h_x4 dL_law_172 ?_
  refine z_aload_n B dL_law_173 rfl 4 rfl ?_
  refine z_iload B dL_law_174 0 rfl ?_
  refine z_iconst (v := 5) B dL_law_176 (by decide) ?_
  refine z_iadd B dL_law_177 ?_
  refine z_seti (y := 5) (by decide) ?_
  refine z_sld (j := 5) (x := x5) B hX hbl hbA (by decide) (show ¬ ((5 : Int32) < 0 ∨ 6 ≤ (5 : Int32).toNatClampNeg) by decide) h_x5 dL_law_178 ?_
  refine z_aload_n B dL_law_179 rfl 1 rfl ?_
  refine z_cSWi (As := [.ref (b + 0), .int x1, .int x2, .int x3, .int x4, .int x5, .ref (b + 431)]) (rest := []) B cw_L_74 dL_law_180 (ci_L_set_369 l hlt (σ := (ap b σ [] [] [])) (b := b) (lyA hK) x1 x2 x3 x4 x5 q1_x1 q2_x1 (rR_at 0 0 (fz_R hF 0 0 rfl rfl))) rfl (by decide) rfl (Nat.le_of_ble_eq_true rfl) (by decide) (fun r u hu => ?_)
  obtain ⟨hu1, z, hu⟩ := hu
  refine z_eqs (σ' := (ap b (wx_Z σ z) [] [] [])) (hu.trans az_ap) ?_
  show zx p l e _ s m _ below meth c g 8 _ _ _ _ 183 [(4, .int 0), (3, .ref (b + 431)), (2, .ref (b + 405)), (1, .ref (b + 0)), (0, .ref bS)] _
  refine z_seti (y := 1) hu1 ?_
  refine z_istore (lv' := [(5, .int 1), (4, .int 0), (3, .ref (b + 431)), (2, .ref (b + 405)), (1, .ref (b + 0)), (0, .ref bS)]) B dL_law_183 (by decide) rfl ?_
  refine z_aload_n B dL_law_185 rfl 3 rfl ?_
  refine z_aload_n B dL_law_186 rfl 5 rfl ?_
  refine z_iload B dL_law_187 1 rfl ?_
  refine z_iconst (v := 1) B dL_law_189 (by decide) ?_
  refine z_iadd B dL_law_190 ?_
  refine z_seti (y := 1) (by decide) ?_
  refine z_sld (j := 1) (x := x1) B hX hbl hbA (by decide) (show ¬ ((1 : Int32) < 0 ∨ 6 ≤ (1 : Int32).toNatClampNeg) by decide) h_x1 dL_law_191 ?_
  refine z_aload_n B dL_law_192 rfl 5 rfl ?_
  refine z_iload B dL_law_193 1 rfl ?_
  refine z_iconst (v := 2) B dL_law_195 (by decide) ?_
  refine z_iadd B dL_law_196 ?_
  refine z_seti (y := 2) (by decide) ?_
  refine z_sld (j := 2) (x := x2) B hX hbl hbA (by decide) (show ¬ ((2 : Int32) < 0 ∨ 6 ≤ (2 : Int32).toNatClampNeg) by decide) h_x2 dL_law_197 ?_
  refine z_aload_n B dL_law_198 rfl 5 rfl ?_
  refine z_iload B dL_law_199 1 rfl ?_
  refine z_iconst (v := 3) B dL_law_201 (by decide) ?_
  refine z_iadd B dL_law_202 ?_
  refine z_seti (y := 3) (by decide) ?_
  refine z_sld (j := 3) (x := x3) B hX hbl hbA (by decide) (show ¬ ((3 : Int32) < 0 ∨ 6 ≤ (3 : Int32).toNatClampNeg) by decide) h_x3 dL_law_203 ?_
  refine z_aload_n B dL_law_204 rfl 5 rfl ?_
  refine z_iload B dL_law_205 1 rfl ?_
  refine z_iconst (v := 4) B dL_law_207 (by decide) ?_
  refine z_iadd B dL_law_208 ?_
  refine z_seti (y := 4) (by decide) ?_
  refine z_sld (j := 4) (x := x4) B hX hbl hbA (by decide) (show ¬ ((4 : Int32) < 0 ∨ 6 ≤ (4 : Int32).toNatClampNeg) by decide) h_x4 dL_law_209 ?_
  refine z_aload_n B dL_law_210 rfl 5 rfl ?_
  refine z_iload B dL_law_211 1 rfl ?_
  refine z_iconst (v := 5) B dL_law_213 (by decide) ?_
  refine z_iadd B dL_law_214 ?_
  refine z_seti (y := 5) (by decide) ?_
  refine z_sld (j := 5) (x := x5) B hX hbl hbA (by decide) (show ¬ ((5 : Int32) < 0 ∨ 6 ≤ (5 : Int32).toNatClampNeg) by decide) h_x5 dL_law_215 ?_
  refine z_cVi (As := [.int x1, .int x2, .int x3, .int x4, .int x5]) (rest := []) B cw_L_79 cx_10 dL_law_216 (ci_X9_set_378 l (σ := (ap b (wx_Z σ z) [] [] [])) (b := b) (lyA (lyZ hK)) x1 x2 x3 x4 x5 q1_x1 q2_x1 q1_x3 q2_x3) (lKA (lKZ (hk_K hK 405 rfl rfl))) rfl (by decide) rfl (Nat.le_of_ble_eq_true rfl) (by decide) (fun r u hu => ?_)
  refine z_eqs (σ' := (ap b (wx_Z σ z) [(405, 0, 1)] [] [])) (hu.2.trans ap_ap) ?_
  show zx p l e _ s m _ below meth c g 8 _ _ _ _ 219 [(5, .int 1), (4, .int 0), (3, .ref (b + 431)), (2, .ref (b + 405)), (1, .ref (b + 0)), (0, .ref bS)] _
  refine z_seti (y := 0) hu.1 ?_
  refine z_istore (lv' := [(6, .int 0), (5, .int 1), (4, .int 0), (3, .ref (b + 431)), (2, .ref (b + 405)), (1, .ref (b + 0)), (0, .ref bS)]) B dL_law_219 (by decide) rfl ?_
  refine z_aload_n B dL_law_221 rfl 4 rfl ?_
  refine z_cVi (As := []) (rest := []) B cw_L_80 cx_10 dL_law_222 (ci_X9_thrown_31 l (σ := (ap b (wx_Z σ z) [(405, 0, 1)] [] [])) (b := b) (lyA (lyZ hK)) (rI_at 405 0 rfl)) (lKA (lKZ (hk_K hK 405 rfl rfl))) rfl (by decide) rfl (Nat.le_of_ble_eq_true rfl) (by decide) (fun r u hu => ?_)
  refine z_eqs (σ' := (ap b (wx_Z σ z) [(405, 0, 1)] [] [])) hu.2 ?_
  show zx p l e _ s m _ below meth c g 8 _ _ _ _ 225 [(6, .int 0), (5, .int 1), (4, .int 0), (3, .ref (b + 431)), (2, .ref (b + 405)), (1, .ref (b + 0)), (0, .ref bS)] _
  refine z_seti (y := 1) hu.1 ?_
  refine z_iload B dL_law_225 1 rfl ?_
  refine z_icmp_eq (tgt := 232) B dL_law_227 (by decide) (fun _ => ?_) (fun h => absurd (by decide) h)
  refine z_iload B dL_law_232 1 rfl ?_
  refine z_if_ne (tgt := 249) B dL_law_234 (by decide) (fun _ => ?_) (fun h => absurd h (by decide))
  refine z_goto (tgt := 1395) B dL_law_249 (by decide) ?_
  exact z_widen (Nat.le_of_ble_eq_true rfl) (Nat.le_of_ble_eq_true rfl) (z_sub _ [2, 6] rfl (kk _))
set_option maxRecDepth 100000 in
set_option maxHeartbeats 4000000 in
theorem lf_1_140 {p : Program} {l : Launch} {e : Env} {s : State} {m : MethodId} {args : Array Value} {below : List Frame} {meth : Method} {c : Code} {g : gx_T} {Q : State → Prop} {σ : sx_T} {b t bS : Nat} {xs : Nat → Int32} (hlt : l.stackTraces = false) (B : zx_B p s m args meth c code RL 8 g) (hX : va_X bS 6 xs s s.heap) (hbl : bS < s.heap.size) (hbA : ¬ gx_b g ≤ bS) (hF : fz_P b t σ) {x1 : Int32} (h_x1 : xs 1 = x1) (q1_x1 : (-2147483648 : Int) ≤ x1.toInt) (q2_x1 : x1.toInt ≤ (-1 : Int)) {x2 : Int32} (h_x2 : xs 2 = x2) (q1_x2 : (-2147483648 : Int) ≤ x2.toInt) (q2_x2 : x2.toInt ≤ (2147483647 : Int)) {x3 : Int32} (h_x3 : xs 3 = x3) (q1_x3 : (-2147483648 : Int) ≤ x3.toInt) (q2_x3 : x3.toInt ≤ (-1 : Int)) {x4 : Int32} (h_x4 : xs 4 = x4) (q1_x4 : (-2147483648 : Int) ≤ x4.toInt) (q2_x4 : x4.toInt ≤ (2147483647 : Int)) {x5 : Int32} (h_x5 : xs 5 = x5) (q1_x5 : (-2147483648 : Int) ≤ x5.toInt) (q2_x5 : x5.toInt ≤ (2147483647 : Int)) (kk : ∀ σ', zx p l e room_1 s m args below meth c g 8 600002 7302232 Q σ' 1395 [(4, .int 0), (0, .ref bS)] []) : zx p l e room_1 s m args below meth c g 8 500 100000 Q σ 252 [(4, .int 0), (3, .ref (b + 431)), (2, .ref (b + 405)), (1, .ref (b + 0)), (0, .ref bS)] [] := by
  have hK := fz_lay hF
  refine z_eqs (σ' := (ap b σ [] [] [])) rfl ?_
  refine z_aload_n B dL_law_252 rfl 3 rfl ?_
  refine z_aload_n B dL_law_253 rfl 4 rfl ?_
  refine z_iload B dL_law_254 0 rfl ?_
  refine z_iconst (v := 1) B dL_law_256 (by decide) ?_
  refine z_iadd B dL_law_257 ?_
  refine z_seti (y := 1) (by decide) ?_
  refine z_sld (j := 1) (x := x1) B hX hbl hbA (by decide) (show ¬ ((1 : Int32) < 0 ∨ 6 ≤ (1 : Int32).toNatClampNeg) by decide) h_x1 dL_law_258 ?_
  refine z_aload_n B dL_law_259 rfl 4 rfl ?_
  refine z_iload B dL_law_260 0 rfl ?_
  refine z_iconst (v := 2) B dL_law_262 (by decide) ?_
  refine z_iadd B dL_law_263 ?_
  refine z_seti (y := 2) (by decide) ?_
  refine z_sld (j := 2) (x := x2) B hX hbl hbA (by decide) (show ¬ ((2 : Int32) < 0 ∨ 6 ≤ (2 : Int32).toNatClampNeg) by decide) h_x2 dL_law_264 ?_
  refine z_aload_n B dL_law_265 rfl 4 rfl ?_
  refine z_iload B dL_law_266 0 rfl ?_
  refine z_iconst (v := 3) B dL_law_268 (by decide) ?_
  refine z_iadd B dL_law_269 ?_
  refine z_seti (y := 3) (by decide) ?_
  refine z_sld (j := 3) (x := x3) B hX hbl hbA (by decide) (show ¬ ((3 : Int32) < 0 ∨ 6 ≤ (3 : Int32).toNatClampNeg) by decide) h_x3 dL_law_270 ?_
  refine z_aload_n B dL_law_271 rfl 4 rfl ?_
  refine z_iload B dL_law_272 0 rfl ?_
  refine z_iconst (v := 4) B dL_law_274 (by decide) ?_
  refine z_iadd B dL_law_275 ?_
  refine z_seti (y := 4) (by decide) ?_
  refine z_sld (j := 4) (x := x4) B hX hbl hbA (by decide) (show ¬ ((4 : Int32) < 0 ∨ 6 ≤ (4 : Int32).toNatClampNeg) by decide) h_x4 dL_law_276 ?_
  refine z_aload_n B dL_law_277 rfl 4 rfl ?_
  refine z_iload B dL_law_278 0 rfl ?_
  refine z_iconst (v := 5) B dL_law_280 (by decide) ?_
  refine z_iadd B dL_law_281 ?_
  refine z_seti (y := 5) (by decide) ?_
  refine z_sld (j := 5) (x := x5) B hX hbl hbA (by decide) (show ¬ ((5 : Int32) < 0 ∨ 6 ≤ (5 : Int32).toNatClampNeg) by decide) h_x5 dL_law_282 ?_
  refine z_aload_n B dL_law_283 rfl 1 rfl ?_
  refine z_cSWi (As := [.ref (b + 0), .int x1, .int x2, .int x3, .int x4, .int x5, .ref (b + 431)]) (rest := []) B cw_L_84 dL_law_284 (ci_L_check_380 l hlt (σ := (ap b σ [] [] [])) (b := b) (lyA hK) x1 x2 x3 x4 x5 q1_x1 q2_x1) rfl (by decide) rfl (Nat.le_of_ble_eq_true rfl) (by decide) (fun r u hu => ?_)
  obtain ⟨hu1, z, hu⟩ := hu
  refine z_eqs (σ' := (ap b (wx_Z σ z) [] [] [])) (hu.trans az_ap) ?_
  show zx p l e _ s m _ below meth c g 8 _ _ _ _ 287 [(4, .int 0), (3, .ref (b + 431)), (2, .ref (b + 405)), (1, .ref (b + 0)), (0, .ref bS)] _
  refine z_seti (y := 1) hu1 ?_
  refine z_istore (lv' := [(5, .int 1), (4, .int 0), (3, .ref (b + 431)), (2, .ref (b + 405)), (1, .ref (b + 0)), (0, .ref bS)]) B dL_law_287 (by decide) rfl ?_
  refine z_aload_n B dL_law_289 rfl 3 rfl ?_
  refine z_aload_n B dL_law_290 rfl 5 rfl ?_
  refine z_iload B dL_law_291 1 rfl ?_
  refine z_iconst (v := 1) B dL_law_293 (by decide) ?_
  refine z_iadd B dL_law_294 ?_
  refine z_seti (y := 1) (by decide) ?_
  refine z_sld (j := 1) (x := x1) B hX hbl hbA (by decide) (show ¬ ((1 : Int32) < 0 ∨ 6 ≤ (1 : Int32).toNatClampNeg) by decide) h_x1 dL_law_295 ?_
  refine z_aload_n B dL_law_296 rfl 5 rfl ?_
  refine z_iload B dL_law_297 1 rfl ?_
  refine z_iconst (v := 2) B dL_law_299 (by decide) ?_
  refine z_iadd B dL_law_300 ?_
  refine z_seti (y := 2) (by decide) ?_
  refine z_sld (j := 2) (x := x2) B hX hbl hbA (by decide) (show ¬ ((2 : Int32) < 0 ∨ 6 ≤ (2 : Int32).toNatClampNeg) by decide) h_x2 dL_law_301 ?_
  refine z_aload_n B dL_law_302 rfl 5 rfl ?_
  refine z_iload B dL_law_303 1 rfl ?_
  refine z_iconst (v := 3) B dL_law_305 (by decide) ?_
  refine z_iadd B dL_law_306 ?_
  refine z_seti (y := 3) (by decide) ?_
  refine z_sld (j := 3) (x := x3) B hX hbl hbA (by decide) (show ¬ ((3 : Int32) < 0 ∨ 6 ≤ (3 : Int32).toNatClampNeg) by decide) h_x3 dL_law_307 ?_
  refine z_aload_n B dL_law_308 rfl 5 rfl ?_
  refine z_iload B dL_law_309 1 rfl ?_
  refine z_iconst (v := 4) B dL_law_311 (by decide) ?_
  refine z_iadd B dL_law_312 ?_
  refine z_seti (y := 4) (by decide) ?_
  refine z_sld (j := 4) (x := x4) B hX hbl hbA (by decide) (show ¬ ((4 : Int32) < 0 ∨ 6 ≤ (4 : Int32).toNatClampNeg) by decide) h_x4 dL_law_313 ?_
  refine z_aload_n B dL_law_314 rfl 5 rfl ?_
  refine z_iload B dL_law_315 1 rfl ?_
  refine z_iconst (v := 5) B dL_law_317 (by decide) ?_
  refine z_iadd B dL_law_318 ?_
  refine z_seti (y := 5) (by decide) ?_
  refine z_sld (j := 5) (x := x5) B hX hbl hbA (by decide) (show ¬ ((5 : Int32) < 0 ∨ 6 ≤ (5 : Int32).toNatClampNeg) by decide) h_x5 dL_law_319 ?_
  refine z_cVi (As := [.int x1, .int x2, .int x3, .int x4, .int x5]) (rest := []) B cw_L_86 cx_10 dL_law_320 (ci_X9_check_381 l (σ := (ap b (wx_Z σ z) [] [] [])) (b := b) (lyA (lyZ hK)) x1 x2 x3 x4 x5 q1_x1 q2_x1 q1_x3 q2_x3) (lKA (lKZ (hk_K hK 405 rfl rfl))) rfl (by decide) rfl (Nat.le_of_ble_eq_true rfl) (by decide) (fun r u hu => ?_)
  refine z_eqs (σ' := (ap b (wx_Z σ z) [(405, 0, 1)] [] [])) (hu.2.trans ap_ap) ?_
  show zx p l e _ s m _ below meth c g 8 _ _ _ _ 323 [(5, .int 1), (4, .int 0), (3, .ref (b + 431)), (2, .ref (b + 405)), (1, .ref (b + 0)), (0, .ref bS)] _
  refine z_seti (y := 0) hu.1 ?_
  refine z_istore (lv' := [(6, .int 0), (5, .int 1), (4, .int 0), (3, .ref (b + 431)), (2, .ref (b + 405)), (1, .ref (b + 0)), (0, .ref bS)]) B dL_law_323 (by decide) rfl ?_
  refine z_aload_n B dL_law_325 rfl 4 rfl ?_
  refine z_cVi (As := []) (rest := []) B cw_L_80 cx_10 dL_law_326 (ci_X9_thrown_31 l (σ := (ap b (wx_Z σ z) [(405, 0, 1)] [] [])) (b := b) (lyA (lyZ hK)) (rI_at 405 0 rfl)) (lKA (lKZ (hk_K hK 405 rfl rfl))) rfl (by decide) rfl (Nat.le_of_ble_eq_true rfl) (by decide) (fun r u hu => ?_)
  refine z_eqs (σ' := (ap b (wx_Z σ z) [(405, 0, 1)] [] [])) hu.2 ?_
  show zx p l e _ s m _ below meth c g 8 _ _ _ _ 329 [(6, .int 0), (5, .int 1), (4, .int 0), (3, .ref (b + 431)), (2, .ref (b + 405)), (1, .ref (b + 0)), (0, .ref bS)] _
  refine z_seti (y := 1) hu.1 ?_
  refine z_iload B dL_law_329 1 rfl ?_
  refine z_icmp_eq (tgt := 336) B dL_law_331 (by decide) (fun _ => ?_) (fun h => absurd (by decide) h)
  refine z_iload B dL_law_336 1 rfl ?_
  refine z_if_ne (tgt := 353) B dL_law_338 (by decide) (fun _ => ?_) (fun h => absurd h (by decide))
  refine z_goto (tgt := 1395) B dL_law_353 (by decide) ?_
  exact z_widen (Nat.le_of_ble_eq_true rfl) (Nat.le_of_ble_eq_true rfl) (z_sub _ [2, 6] rfl (kk _))
set_option maxRecDepth 100000 in
set_option maxHeartbeats 4000000 in
theorem lf_1_141 {p : Program} {l : Launch} {e : Env} {s : State} {m : MethodId} {args : Array Value} {below : List Frame} {meth : Method} {c : Code} {g : gx_T} {Q : State → Prop} {σ : sx_T} {b t bS : Nat} {xs : Nat → Int32} (hlt : l.stackTraces = false) (B : zx_B p s m args meth c code RL 8 g) (hX : va_X bS 6 xs s s.heap) (hbl : bS < s.heap.size) (hbA : ¬ gx_b g ≤ bS) (hF : fz_P b t σ) {x1 : Int32} (h_x1 : xs 1 = x1) (q1_x1 : (-2147483648 : Int) ≤ x1.toInt) (q2_x1 : x1.toInt ≤ (-1 : Int)) {x2 : Int32} (h_x2 : xs 2 = x2) (q1_x2 : (-2147483648 : Int) ≤ x2.toInt) (q2_x2 : x2.toInt ≤ (2147483647 : Int)) {x3 : Int32} (h_x3 : xs 3 = x3) (q1_x3 : (0 : Int) ≤ x3.toInt) (q2_x3 : x3.toInt ≤ (17 : Int)) {x4 : Int32} (h_x4 : xs 4 = x4) (q1_x4 : (-2147483648 : Int) ≤ x4.toInt) (q2_x4 : x4.toInt ≤ (-1 : Int)) {x5 : Int32} (h_x5 : xs 5 = x5) (q1_x5 : (-2147483648 : Int) ≤ x5.toInt) (q2_x5 : x5.toInt ≤ (2147483647 : Int)) (kk : ∀ σ', zx p l e room_1 s m args below meth c g 8 600002 7302232 Q σ' 1395 [(4, .int 0), (0, .ref bS)] []) : zx p l e room_1 s m args below meth c g 8 500 100000 Q σ 252 [(4, .int 0), (3, .ref (b + 431)), (2, .ref (b + 405)), (1, .ref (b + 0)), (0, .ref bS)] [] := by
  have hK := fz_lay hF
  refine z_eqs (σ' := (ap b σ [] [] [])) rfl ?_
  refine z_aload_n B dL_law_252 rfl 3 rfl ?_
  refine z_aload_n B dL_law_253 rfl 4 rfl ?_
  refine z_iload B dL_law_254 0 rfl ?_
  refine z_iconst (v := 1) B dL_law_256 (by decide) ?_
  refine z_iadd B dL_law_257 ?_
  refine z_seti (y := 1) (by decide) ?_
  refine z_sld (j := 1) (x := x1) B hX hbl hbA (by decide) (show ¬ ((1 : Int32) < 0 ∨ 6 ≤ (1 : Int32).toNatClampNeg) by decide) h_x1 dL_law_258 ?_
  refine z_aload_n B dL_law_259 rfl 4 rfl ?_
  refine z_iload B dL_law_260 0 rfl ?_
  refine z_iconst (v := 2) B dL_law_262 (by decide) ?_
  refine z_iadd B dL_law_263 ?_
  refine z_seti (y := 2) (by decide) ?_
  refine z_sld (j := 2) (x := x2) B hX hbl hbA (by decide) (show ¬ ((2 : Int32) < 0 ∨ 6 ≤ (2 : Int32).toNatClampNeg) by decide) h_x2 dL_law_264 ?_
  refine z_aload_n B dL_law_265 rfl 4 rfl ?_
  refine z_iload B dL_law_266 0 rfl ?_
  refine z_iconst (v := 3) B dL_law_268 (by decide) ?_
  refine z_iadd B dL_law_269 ?_
  refine z_seti (y := 3) (by decide) ?_
  refine z_sld (j := 3) (x := x3) B hX hbl hbA (by decide) (show ¬ ((3 : Int32) < 0 ∨ 6 ≤ (3 : Int32).toNatClampNeg) by decide) h_x3 dL_law_270 ?_
  refine z_aload_n B dL_law_271 rfl 4 rfl ?_
  refine z_iload B dL_law_272 0 rfl ?_
  refine z_iconst (v := 4) B dL_law_274 (by decide) ?_
  refine z_iadd B dL_law_275 ?_
  refine z_seti (y := 4) (by decide) ?_
  refine z_sld (j := 4) (x := x4) B hX hbl hbA (by decide) (show ¬ ((4 : Int32) < 0 ∨ 6 ≤ (4 : Int32).toNatClampNeg) by decide) h_x4 dL_law_276 ?_
  refine z_aload_n B dL_law_277 rfl 4 rfl ?_
  refine z_iload B dL_law_278 0 rfl ?_
  refine z_iconst (v := 5) B dL_law_280 (by decide) ?_
  refine z_iadd B dL_law_281 ?_
  refine z_seti (y := 5) (by decide) ?_
  refine z_sld (j := 5) (x := x5) B hX hbl hbA (by decide) (show ¬ ((5 : Int32) < 0 ∨ 6 ≤ (5 : Int32).toNatClampNeg) by decide) h_x5 dL_law_282 ?_
  refine z_aload_n B dL_law_283 rfl 1 rfl ?_
  refine z_cSWi (As := [.ref (b + 0), .int x1, .int x2, .int x3, .int x4, .int x5, .ref (b + 431)]) (rest := []) B cw_L_84 dL_law_284 (ci_L_check_380 l hlt (σ := (ap b σ [] [] [])) (b := b) (lyA hK) x1 x2 x3 x4 x5 q1_x1 q2_x1) rfl (by decide) rfl (Nat.le_of_ble_eq_true rfl) (by decide) (fun r u hu => ?_)
  obtain ⟨hu1, z, hu⟩ := hu
  refine z_eqs (σ' := (ap b (wx_Z σ z) [] [] [])) (hu.trans az_ap) ?_
  show zx p l e _ s m _ below meth c g 8 _ _ _ _ 287 [(4, .int 0), (3, .ref (b + 431)), (2, .ref (b + 405)), (1, .ref (b + 0)), (0, .ref bS)] _
  refine z_seti (y := 1) hu1 ?_
  refine z_istore (lv' := [(5, .int 1), (4, .int 0), (3, .ref (b + 431)), (2, .ref (b + 405)), (1, .ref (b + 0)), (0, .ref bS)]) B dL_law_287 (by decide) rfl ?_
  refine z_aload_n B dL_law_289 rfl 3 rfl ?_
  refine z_aload_n B dL_law_290 rfl 5 rfl ?_
  refine z_iload B dL_law_291 1 rfl ?_
  refine z_iconst (v := 1) B dL_law_293 (by decide) ?_
  refine z_iadd B dL_law_294 ?_
  refine z_seti (y := 1) (by decide) ?_
  refine z_sld (j := 1) (x := x1) B hX hbl hbA (by decide) (show ¬ ((1 : Int32) < 0 ∨ 6 ≤ (1 : Int32).toNatClampNeg) by decide) h_x1 dL_law_295 ?_
  refine z_aload_n B dL_law_296 rfl 5 rfl ?_
  refine z_iload B dL_law_297 1 rfl ?_
  refine z_iconst (v := 2) B dL_law_299 (by decide) ?_
  refine z_iadd B dL_law_300 ?_
  refine z_seti (y := 2) (by decide) ?_
  refine z_sld (j := 2) (x := x2) B hX hbl hbA (by decide) (show ¬ ((2 : Int32) < 0 ∨ 6 ≤ (2 : Int32).toNatClampNeg) by decide) h_x2 dL_law_301 ?_
  refine z_aload_n B dL_law_302 rfl 5 rfl ?_
  refine z_iload B dL_law_303 1 rfl ?_
  refine z_iconst (v := 3) B dL_law_305 (by decide) ?_
  refine z_iadd B dL_law_306 ?_
  refine z_seti (y := 3) (by decide) ?_
  refine z_sld (j := 3) (x := x3) B hX hbl hbA (by decide) (show ¬ ((3 : Int32) < 0 ∨ 6 ≤ (3 : Int32).toNatClampNeg) by decide) h_x3 dL_law_307 ?_
  refine z_aload_n B dL_law_308 rfl 5 rfl ?_
  refine z_iload B dL_law_309 1 rfl ?_
  refine z_iconst (v := 4) B dL_law_311 (by decide) ?_
  refine z_iadd B dL_law_312 ?_
  refine z_seti (y := 4) (by decide) ?_
  refine z_sld (j := 4) (x := x4) B hX hbl hbA (by decide) (show ¬ ((4 : Int32) < 0 ∨ 6 ≤ (4 : Int32).toNatClampNeg) by decide) h_x4 dL_law_313 ?_
  refine z_aload_n B dL_law_314 rfl 5 rfl ?_
  refine z_iload B dL_law_315 1 rfl ?_
  refine z_iconst (v := 5) B dL_law_317 (by decide) ?_
  refine z_iadd B dL_law_318 ?_
  refine z_seti (y := 5) (by decide) ?_
  refine z_sld (j := 5) (x := x5) B hX hbl hbA (by decide) (show ¬ ((5 : Int32) < 0 ∨ 6 ≤ (5 : Int32).toNatClampNeg) by decide) h_x5 dL_law_319 ?_
  refine z_cVi (As := [.int x1, .int x2, .int x3, .int x4, .int x5]) (rest := []) B cw_L_86 cx_10 dL_law_320 (ci_X9_check_382 l (σ := (ap b (wx_Z σ z) [] [] [])) (b := b) (lyA (lyZ hK)) x1 x2 x3 x4 x5 q1_x1 q2_x1 q1_x3 q2_x3 q1_x4 q2_x4) (lKA (lKZ (hk_K hK 405 rfl rfl))) rfl (by decide) rfl (Nat.le_of_ble_eq_true rfl) (by decide) (fun r u hu => ?_)
  refine z_eqs (σ' := (ap b (wx_Z σ z) [(405, 0, 1)] [] [])) (hu.2.trans ap_ap) ?_
  show zx p l e _ s m _ below meth c g 8 _ _ _ _ 323 [(5, .int 1), (4, .int 0), (3, .ref (b + 431)), (2, .ref (b + 405)), (1, .ref (b + 0)), (0, .ref bS)] _
  refine z_seti (y := 0) hu.1 ?_
  refine z_istore (lv' := [(6, .int 0), (5, .int 1), (4, .int 0), (3, .ref (b + 431)), (2, .ref (b + 405)), (1, .ref (b + 0)), (0, .ref bS)]) B dL_law_323 (by decide) rfl ?_
  refine z_aload_n B dL_law_325 rfl 4 rfl ?_
  refine z_cVi (As := []) (rest := []) B cw_L_80 cx_10 dL_law_326 (ci_X9_thrown_31 l (σ := (ap b (wx_Z σ z) [(405, 0, 1)] [] [])) (b := b) (lyA (lyZ hK)) (rI_at 405 0 rfl)) (lKA (lKZ (hk_K hK 405 rfl rfl))) rfl (by decide) rfl (Nat.le_of_ble_eq_true rfl) (by decide) (fun r u hu => ?_)
  refine z_eqs (σ' := (ap b (wx_Z σ z) [(405, 0, 1)] [] [])) hu.2 ?_
  show zx p l e _ s m _ below meth c g 8 _ _ _ _ 329 [(6, .int 0), (5, .int 1), (4, .int 0), (3, .ref (b + 431)), (2, .ref (b + 405)), (1, .ref (b + 0)), (0, .ref bS)] _
  refine z_seti (y := 1) hu.1 ?_
  refine z_iload B dL_law_329 1 rfl ?_
  refine z_icmp_eq (tgt := 336) B dL_law_331 (by decide) (fun _ => ?_) (fun h => absurd (by decide) h)
  refine z_iload B dL_law_336 1 rfl ?_
  refine z_if_ne (tgt := 353) B dL_law_338 (by decide) (fun _ => ?_) (fun h => absurd h (by decide))
  refine z_goto (tgt := 1395) B dL_law_353 (by decide) ?_
  exact z_widen (Nat.le_of_ble_eq_true rfl) (Nat.le_of_ble_eq_true rfl) (z_sub _ [2, 6] rfl (kk _))
set_option maxRecDepth 100000 in
set_option maxHeartbeats 4000000 in
theorem lf_1_142 {p : Program} {l : Launch} {e : Env} {s : State} {m : MethodId} {args : Array Value} {below : List Frame} {meth : Method} {c : Code} {g : gx_T} {Q : State → Prop} {σ : sx_T} {b t bS : Nat} {xs : Nat → Int32} (hlt : l.stackTraces = false) (B : zx_B p s m args meth c code RL 8 g) (hX : va_X bS 6 xs s s.heap) (hbl : bS < s.heap.size) (hbA : ¬ gx_b g ≤ bS) (hF : fz_P b t σ) {x1 : Int32} (h_x1 : xs 1 = x1) (q1_x1 : (-2147483648 : Int) ≤ x1.toInt) (q2_x1 : x1.toInt ≤ (-1 : Int)) {x2 : Int32} (h_x2 : xs 2 = x2) (q1_x2 : (-2147483648 : Int) ≤ x2.toInt) (q2_x2 : x2.toInt ≤ (2147483647 : Int)) {x3 : Int32} (h_x3 : xs 3 = x3) (q1_x3 : (0 : Int) ≤ x3.toInt) (q2_x3 : x3.toInt ≤ (17 : Int)) {x4 : Int32} (h_x4 : xs 4 = x4) (q1_x4 : (0 : Int) ≤ x4.toInt) (q2_x4 : x4.toInt ≤ (99 : Int)) {x5 : Int32} (h_x5 : xs 5 = x5) (q1_x5 : (-2147483648 : Int) ≤ x5.toInt) (q2_x5 : x5.toInt ≤ (-1 : Int)) (kk : ∀ σ', zx p l e room_1 s m args below meth c g 8 600002 7302232 Q σ' 1395 [(4, .int 0), (0, .ref bS)] []) : zx p l e room_1 s m args below meth c g 8 500 100000 Q σ 252 [(4, .int 0), (3, .ref (b + 431)), (2, .ref (b + 405)), (1, .ref (b + 0)), (0, .ref bS)] [] := by
  have hK := fz_lay hF
  refine z_eqs (σ' := (ap b σ [] [] [])) rfl ?_
  refine z_aload_n B dL_law_252 rfl 3 rfl ?_
  refine z_aload_n B dL_law_253 rfl 4 rfl ?_
  refine z_iload B dL_law_254 0 rfl ?_
  refine z_iconst (v := 1) B dL_law_256 (by decide) ?_
  refine z_iadd B dL_law_257 ?_
  refine z_seti (y := 1) (by decide) ?_
  refine z_sld (j := 1) (x := x1) B hX hbl hbA (by decide) (show ¬ ((1 : Int32) < 0 ∨ 6 ≤ (1 : Int32).toNatClampNeg) by decide) h_x1 dL_law_258 ?_
  refine z_aload_n B dL_law_259 rfl 4 rfl ?_
  refine z_iload B dL_law_260 0 rfl ?_
  refine z_iconst (v := 2) B dL_law_262 (by decide) ?_
  refine z_iadd B dL_law_263 ?_
  refine z_seti (y := 2) (by decide) ?_
  refine z_sld (j := 2) (x := x2) B hX hbl hbA (by decide) (show ¬ ((2 : Int32) < 0 ∨ 6 ≤ (2 : Int32).toNatClampNeg) by decide) h_x2 dL_law_264 ?_
  refine z_aload_n B dL_law_265 rfl 4 rfl ?_
  refine z_iload B dL_law_266 0 rfl ?_
  refine z_iconst (v := 3) B dL_law_268 (by decide) ?_
  refine z_iadd B dL_law_269 ?_
  refine z_seti (y := 3) (by decide) ?_
  refine z_sld (j := 3) (x := x3) B hX hbl hbA (by decide) (show ¬ ((3 : Int32) < 0 ∨ 6 ≤ (3 : Int32).toNatClampNeg) by decide) h_x3 dL_law_270 ?_
  refine z_aload_n B dL_law_271 rfl 4 rfl ?_
  refine z_iload B dL_law_272 0 rfl ?_
  refine z_iconst (v := 4) B dL_law_274 (by decide) ?_
  refine z_iadd B dL_law_275 ?_
  refine z_seti (y := 4) (by decide) ?_
  refine z_sld (j := 4) (x := x4) B hX hbl hbA (by decide) (show ¬ ((4 : Int32) < 0 ∨ 6 ≤ (4 : Int32).toNatClampNeg) by decide) h_x4 dL_law_276 ?_
  refine z_aload_n B dL_law_277 rfl 4 rfl ?_
  refine z_iload B dL_law_278 0 rfl ?_
  refine z_iconst (v := 5) B dL_law_280 (by decide) ?_
  refine z_iadd B dL_law_281 ?_
  refine z_seti (y := 5) (by decide) ?_
  refine z_sld (j := 5) (x := x5) B hX hbl hbA (by decide) (show ¬ ((5 : Int32) < 0 ∨ 6 ≤ (5 : Int32).toNatClampNeg) by decide) h_x5 dL_law_282 ?_
  refine z_aload_n B dL_law_283 rfl 1 rfl ?_
  refine z_cSWi (As := [.ref (b + 0), .int x1, .int x2, .int x3, .int x4, .int x5, .ref (b + 431)]) (rest := []) B cw_L_84 dL_law_284 (ci_L_check_380 l hlt (σ := (ap b σ [] [] [])) (b := b) (lyA hK) x1 x2 x3 x4 x5 q1_x1 q2_x1) rfl (by decide) rfl (Nat.le_of_ble_eq_true rfl) (by decide) (fun r u hu => ?_)
  obtain ⟨hu1, z, hu⟩ := hu
  refine z_eqs (σ' := (ap b (wx_Z σ z) [] [] [])) (hu.trans az_ap) ?_
  show zx p l e _ s m _ below meth c g 8 _ _ _ _ 287 [(4, .int 0), (3, .ref (b + 431)), (2, .ref (b + 405)), (1, .ref (b + 0)), (0, .ref bS)] _
  refine z_seti (y := 1) hu1 ?_
  refine z_istore (lv' := [(5, .int 1), (4, .int 0), (3, .ref (b + 431)), (2, .ref (b + 405)), (1, .ref (b + 0)), (0, .ref bS)]) B dL_law_287 (by decide) rfl ?_
  refine z_aload_n B dL_law_289 rfl 3 rfl ?_
  refine z_aload_n B dL_law_290 rfl 5 rfl ?_
  refine z_iload B dL_law_291 1 rfl ?_
  refine z_iconst (v := 1) B dL_law_293 (by decide) ?_
  refine z_iadd B dL_law_294 ?_
  refine z_seti (y := 1) (by decide) ?_
  refine z_sld (j := 1) (x := x1) B hX hbl hbA (by decide) (show ¬ ((1 : Int32) < 0 ∨ 6 ≤ (1 : Int32).toNatClampNeg) by decide) h_x1 dL_law_295 ?_
  refine z_aload_n B dL_law_296 rfl 5 rfl ?_
  refine z_iload B dL_law_297 1 rfl ?_
  refine z_iconst (v := 2) B dL_law_299 (by decide) ?_
  refine z_iadd B dL_law_300 ?_
  refine z_seti (y := 2) (by decide) ?_
  refine z_sld (j := 2) (x := x2) B hX hbl hbA (by decide) (show ¬ ((2 : Int32) < 0 ∨ 6 ≤ (2 : Int32).toNatClampNeg) by decide) h_x2 dL_law_301 ?_
  refine z_aload_n B dL_law_302 rfl 5 rfl ?_
  refine z_iload B dL_law_303 1 rfl ?_
  refine z_iconst (v := 3) B dL_law_305 (by decide) ?_
  refine z_iadd B dL_law_306 ?_
  refine z_seti (y := 3) (by decide) ?_
  refine z_sld (j := 3) (x := x3) B hX hbl hbA (by decide) (show ¬ ((3 : Int32) < 0 ∨ 6 ≤ (3 : Int32).toNatClampNeg) by decide) h_x3 dL_law_307 ?_
  refine z_aload_n B dL_law_308 rfl 5 rfl ?_
  refine z_iload B dL_law_309 1 rfl ?_
  refine z_iconst (v := 4) B dL_law_311 (by decide) ?_
  refine z_iadd B dL_law_312 ?_
  refine z_seti (y := 4) (by decide) ?_
  refine z_sld (j := 4) (x := x4) B hX hbl hbA (by decide) (show ¬ ((4 : Int32) < 0 ∨ 6 ≤ (4 : Int32).toNatClampNeg) by decide) h_x4 dL_law_313 ?_
  refine z_aload_n B dL_law_314 rfl 5 rfl ?_
  refine z_iload B dL_law_315 1 rfl ?_
  refine z_iconst (v := 5) B dL_law_317 (by decide) ?_
  refine z_iadd B dL_law_318 ?_
  refine z_seti (y := 5) (by decide) ?_
  refine z_sld (j := 5) (x := x5) B hX hbl hbA (by decide) (show ¬ ((5 : Int32) < 0 ∨ 6 ≤ (5 : Int32).toNatClampNeg) by decide) h_x5 dL_law_319 ?_
  refine z_cVi (As := [.int x1, .int x2, .int x3, .int x4, .int x5]) (rest := []) B cw_L_86 cx_10 dL_law_320 (ci_X9_check_383 l (σ := (ap b (wx_Z σ z) [] [] [])) (b := b) (lyA (lyZ hK)) x1 x2 x3 x4 x5 q1_x1 q2_x1 q1_x3 q2_x3 q1_x4 q2_x4 q1_x5 q2_x5) (lKA (lKZ (hk_K hK 405 rfl rfl))) rfl (by decide) rfl (Nat.le_of_ble_eq_true rfl) (by decide) (fun r u hu => ?_)
  refine z_eqs (σ' := (ap b (wx_Z σ z) [(405, 0, 1)] [] [])) (hu.2.trans ap_ap) ?_
  show zx p l e _ s m _ below meth c g 8 _ _ _ _ 323 [(5, .int 1), (4, .int 0), (3, .ref (b + 431)), (2, .ref (b + 405)), (1, .ref (b + 0)), (0, .ref bS)] _
  refine z_seti (y := 0) hu.1 ?_
  refine z_istore (lv' := [(6, .int 0), (5, .int 1), (4, .int 0), (3, .ref (b + 431)), (2, .ref (b + 405)), (1, .ref (b + 0)), (0, .ref bS)]) B dL_law_323 (by decide) rfl ?_
  refine z_aload_n B dL_law_325 rfl 4 rfl ?_
  refine z_cVi (As := []) (rest := []) B cw_L_80 cx_10 dL_law_326 (ci_X9_thrown_31 l (σ := (ap b (wx_Z σ z) [(405, 0, 1)] [] [])) (b := b) (lyA (lyZ hK)) (rI_at 405 0 rfl)) (lKA (lKZ (hk_K hK 405 rfl rfl))) rfl (by decide) rfl (Nat.le_of_ble_eq_true rfl) (by decide) (fun r u hu => ?_)
  refine z_eqs (σ' := (ap b (wx_Z σ z) [(405, 0, 1)] [] [])) hu.2 ?_
  show zx p l e _ s m _ below meth c g 8 _ _ _ _ 329 [(6, .int 0), (5, .int 1), (4, .int 0), (3, .ref (b + 431)), (2, .ref (b + 405)), (1, .ref (b + 0)), (0, .ref bS)] _
  refine z_seti (y := 1) hu.1 ?_
  refine z_iload B dL_law_329 1 rfl ?_
  refine z_icmp_eq (tgt := 336) B dL_law_331 (by decide) (fun _ => ?_) (fun h => absurd (by decide) h)
  refine z_iload B dL_law_336 1 rfl ?_
  refine z_if_ne (tgt := 353) B dL_law_338 (by decide) (fun _ => ?_) (fun h => absurd h (by decide))
  refine z_goto (tgt := 1395) B dL_law_353 (by decide) ?_
  exact z_widen (Nat.le_of_ble_eq_true rfl) (Nat.le_of_ble_eq_true rfl) (z_sub _ [2, 6] rfl (kk _))
set_option maxRecDepth 100000 in
set_option maxHeartbeats 4000000 in
theorem lf_1_143 {p : Program} {l : Launch} {e : Env} {s : State} {m : MethodId} {args : Array Value} {below : List Frame} {meth : Method} {c : Code} {g : gx_T} {Q : State → Prop} {σ : sx_T} {b t bS : Nat} {xs : Nat → Int32} (hlt : l.stackTraces = false) (B : zx_B p s m args meth c code RL 8 g) (hX : va_X bS 6 xs s s.heap) (hbl : bS < s.heap.size) (hbA : ¬ gx_b g ≤ bS) (hF : fz_P b t σ) {x1 : Int32} (h_x1 : xs 1 = x1) (q1_x1 : (-2147483648 : Int) ≤ x1.toInt) (q2_x1 : x1.toInt ≤ (-1 : Int)) {x2 : Int32} (h_x2 : xs 2 = x2) (q1_x2 : (-2147483648 : Int) ≤ x2.toInt) (q2_x2 : x2.toInt ≤ (2147483647 : Int)) {x3 : Int32} (h_x3 : xs 3 = x3) (q1_x3 : (0 : Int) ≤ x3.toInt) (q2_x3 : x3.toInt ≤ (17 : Int)) {x4 : Int32} (h_x4 : xs 4 = x4) (q1_x4 : (0 : Int) ≤ x4.toInt) (q2_x4 : x4.toInt ≤ (99 : Int)) {x5 : Int32} (h_x5 : xs 5 = x5) (q1_x5 : (0 : Int) ≤ x5.toInt) (q2_x5 : x5.toInt ≤ (99 : Int)) (kk : ∀ σ', zx p l e room_1 s m args below meth c g 8 600002 7302232 Q σ' 1395 [(4, .int 0), (0, .ref bS)] []) : zx p l e room_1 s m args below meth c g 8 500 100000 Q σ 252 [(4, .int 0), (3, .ref (b + 431)), (2, .ref (b + 405)), (1, .ref (b + 0)), (0, .ref bS)] [] := by
  have hK := fz_lay hF
  refine z_eqs (σ' := (ap b σ [] [] [])) rfl ?_
  refine z_aload_n B dL_law_252 rfl 3 rfl ?_
  refine z_aload_n B dL_law_253 rfl 4 rfl ?_
  refine z_iload B dL_law_254 0 rfl ?_
  refine z_iconst (v := 1) B dL_law_256 (by decide) ?_
  refine z_iadd B dL_law_257 ?_
  refine z_seti (y := 1) (by decide) ?_
  refine z_sld (j := 1) (x := x1) B hX hbl hbA (by decide) (show ¬ ((1 : Int32) < 0 ∨ 6 ≤ (1 : Int32).toNatClampNeg) by decide) h_x1 dL_law_258 ?_
  refine z_aload_n B dL_law_259 rfl 4 rfl ?_
  refine z_iload B dL_law_260 0 rfl ?_
  refine z_iconst (v := 2) B dL_law_262 (by decide) ?_
  refine z_iadd B dL_law_263 ?_
  refine z_seti (y := 2) (by decide) ?_
  refine z_sld (j := 2) (x := x2) B hX hbl hbA (by decide) (show ¬ ((2 : Int32) < 0 ∨ 6 ≤ (2 : Int32).toNatClampNeg) by decide) h_x2 dL_law_264 ?_
  refine z_aload_n B dL_law_265 rfl 4 rfl ?_
  refine z_iload B dL_law_266 0 rfl ?_
  refine z_iconst (v := 3) B dL_law_268 (by decide) ?_
  refine z_iadd B dL_law_269 ?_
  refine z_seti (y := 3) (by decide) ?_
  refine z_sld (j := 3) (x := x3) B hX hbl hbA (by decide) (show ¬ ((3 : Int32) < 0 ∨ 6 ≤ (3 : Int32).toNatClampNeg) by decide) h_x3 dL_law_270 ?_
  refine z_aload_n B dL_law_271 rfl 4 rfl ?_
  refine z_iload B dL_law_272 0 rfl ?_
  refine z_iconst (v := 4) B dL_law_274 (by decide) ?_
  refine z_iadd B dL_law_275 ?_
  refine z_seti (y := 4) (by decide) ?_
  refine z_sld (j := 4) (x := x4) B hX hbl hbA (by decide) (show ¬ ((4 : Int32) < 0 ∨ 6 ≤ (4 : Int32).toNatClampNeg) by decide) h_x4 dL_law_276 ?_
  refine z_aload_n B dL_law_277 rfl 4 rfl ?_
  refine z_iload B dL_law_278 0 rfl ?_
  refine z_iconst (v := 5) B dL_law_280 (by decide) ?_
  refine z_iadd B dL_law_281 ?_
  refine z_seti (y := 5) (by decide) ?_
  refine z_sld (j := 5) (x := x5) B hX hbl hbA (by decide) (show ¬ ((5 : Int32) < 0 ∨ 6 ≤ (5 : Int32).toNatClampNeg) by decide) h_x5 dL_law_282 ?_
  refine z_aload_n B dL_law_283 rfl 1 rfl ?_
  refine z_cSWi (As := [.ref (b + 0), .int x1, .int x2, .int x3, .int x4, .int x5, .ref (b + 431)]) (rest := []) B cw_L_84 dL_law_284 (ci_L_check_380 l hlt (σ := (ap b σ [] [] [])) (b := b) (lyA hK) x1 x2 x3 x4 x5 q1_x1 q2_x1) rfl (by decide) rfl (Nat.le_of_ble_eq_true rfl) (by decide) (fun r u hu => ?_)
  obtain ⟨hu1, z, hu⟩ := hu
  refine z_eqs (σ' := (ap b (wx_Z σ z) [] [] [])) (hu.trans az_ap) ?_
  show zx p l e _ s m _ below meth c g 8 _ _ _ _ 287 [(4, .int 0), (3, .ref (b + 431)), (2, .ref (b + 405)), (1, .ref (b + 0)), (0, .ref bS)] _
  refine z_seti (y := 1) hu1 ?_
  refine z_istore (lv' := [(5, .int 1), (4, .int 0), (3, .ref (b + 431)), (2, .ref (b + 405)), (1, .ref (b + 0)), (0, .ref bS)]) B dL_law_287 (by decide) rfl ?_
  refine z_aload_n B dL_law_289 rfl 3 rfl ?_
  refine z_aload_n B dL_law_290 rfl 5 rfl ?_
  refine z_iload B dL_law_291 1 rfl ?_
  refine z_iconst (v := 1) B dL_law_293 (by decide) ?_
  refine z_iadd B dL_law_294 ?_
  refine z_seti (y := 1) (by decide) ?_
  refine z_sld (j := 1) (x := x1) B hX hbl hbA (by decide) (show ¬ ((1 : Int32) < 0 ∨ 6 ≤ (1 : Int32).toNatClampNeg) by decide) h_x1 dL_law_295 ?_
  refine z_aload_n B dL_law_296 rfl 5 rfl ?_
  refine z_iload B dL_law_297 1 rfl ?_
  refine z_iconst (v := 2) B dL_law_299 (by decide) ?_
  refine z_iadd B dL_law_300 ?_
  refine z_seti (y := 2) (by decide) ?_
  refine z_sld (j := 2) (x := x2) B hX hbl hbA (by decide) (show ¬ ((2 : Int32) < 0 ∨ 6 ≤ (2 : Int32).toNatClampNeg) by decide) h_x2 dL_law_301 ?_
  refine z_aload_n B dL_law_302 rfl 5 rfl ?_
  refine z_iload B dL_law_303 1 rfl ?_
  refine z_iconst (v := 3) B dL_law_305 (by decide) ?_
  refine z_iadd B dL_law_306 ?_
  refine z_seti (y := 3) (by decide) ?_
  refine z_sld (j := 3) (x := x3) B hX hbl hbA (by decide) (show ¬ ((3 : Int32) < 0 ∨ 6 ≤ (3 : Int32).toNatClampNeg) by decide) h_x3 dL_law_307 ?_
  refine z_aload_n B dL_law_308 rfl 5 rfl ?_
  refine z_iload B dL_law_309 1 rfl ?_
  refine z_iconst (v := 4) B dL_law_311 (by decide) ?_
  refine z_iadd B dL_law_312 ?_
  refine z_seti (y := 4) (by decide) ?_
  refine z_sld (j := 4) (x := x4) B hX hbl hbA (by decide) (show ¬ ((4 : Int32) < 0 ∨ 6 ≤ (4 : Int32).toNatClampNeg) by decide) h_x4 dL_law_313 ?_
  refine z_aload_n B dL_law_314 rfl 5 rfl ?_
  refine z_iload B dL_law_315 1 rfl ?_
  refine z_iconst (v := 5) B dL_law_317 (by decide) ?_
  refine z_iadd B dL_law_318 ?_
  refine z_seti (y := 5) (by decide) ?_
  refine z_sld (j := 5) (x := x5) B hX hbl hbA (by decide) (show ¬ ((5 : Int32) < 0 ∨ 6 ≤ (5 : Int32).toNatClampNeg) by decide) h_x5 dL_law_319 ?_
  refine z_cVi (As := [.int x1, .int x2, .int x3, .int x4, .int x5]) (rest := []) B cw_L_86 cx_10 dL_law_320 (ci_X9_check_384 l (σ := (ap b (wx_Z σ z) [] [] [])) (b := b) (lyA (lyZ hK)) x1 x2 x3 x4 x5 q1_x1 q2_x1 q1_x3 q2_x3 q1_x4 q2_x4 q1_x5 q2_x5) (lKA (lKZ (hk_K hK 405 rfl rfl))) rfl (by decide) rfl (Nat.le_of_ble_eq_true rfl) (by decide) (fun r u hu => ?_)
  refine z_eqs (σ' := (ap b (wx_Z σ z) [(405, 0, 1)] [] [])) (hu.2.trans ap_ap) ?_
  show zx p l e _ s m _ below meth c g 8 _ _ _ _ 323 [(5, .int 1), (4, .int 0), (3, .ref (b + 431)), (2, .ref (b + 405)), (1, .ref (b + 0)), (0, .ref bS)] _
  refine z_seti (y := 0) hu.1 ?_
  refine z_istore (lv' := [(6, .int 0), (5, .int 1), (4, .int 0), (3, .ref (b + 431)), (2, .ref (b + 405)), (1, .ref (b + 0)), (0, .ref bS)]) B dL_law_323 (by decide) rfl ?_
  refine z_aload_n B dL_law_325 rfl 4 rfl ?_
  refine z_cVi (As := []) (rest := []) B cw_L_80 cx_10 dL_law_326 (ci_X9_thrown_31 l (σ := (ap b (wx_Z σ z) [(405, 0, 1)] [] [])) (b := b) (lyA (lyZ hK)) (rI_at 405 0 rfl)) (lKA (lKZ (hk_K hK 405 rfl rfl))) rfl (by decide) rfl (Nat.le_of_ble_eq_true rfl) (by decide) (fun r u hu => ?_)
  refine z_eqs (σ' := (ap b (wx_Z σ z) [(405, 0, 1)] [] [])) hu.2 ?_
  show zx p l e _ s m _ below meth c g 8 _ _ _ _ 329 [(6, .int 0), (5, .int 1), (4, .int 0), (3, .ref (b + 431)), (2, .ref (b + 405)), (1, .ref (b + 0)), (0, .ref bS)] _
  refine z_seti (y := 1) hu.1 ?_
  refine z_iload B dL_law_329 1 rfl ?_
  refine z_icmp_eq (tgt := 336) B dL_law_331 (by decide) (fun _ => ?_) (fun h => absurd (by decide) h)
  refine z_iload B dL_law_336 1 rfl ?_
  refine z_if_ne (tgt := 353) B dL_law_338 (by decide) (fun _ => ?_) (fun h => absurd h (by decide))
  refine z_goto (tgt := 1395) B dL_law_353 (by decide) ?_
  exact z_widen (Nat.le_of_ble_eq_true rfl) (Nat.le_of_ble_eq_true rfl) (z_sub _ [2, 6] rfl (kk _))
set_option maxRecDepth 100000 in
set_option maxHeartbeats 4000000 in
theorem lf_1_144 {p : Program} {l : Launch} {e : Env} {s : State} {m : MethodId} {args : Array Value} {below : List Frame} {meth : Method} {c : Code} {g : gx_T} {Q : State → Prop} {σ : sx_T} {b t bS : Nat} {xs : Nat → Int32} (hlt : l.stackTraces = false) (B : zx_B p s m args meth c code RL 8 g) (hX : va_X bS 6 xs s s.heap) (hbl : bS < s.heap.size) (hbA : ¬ gx_b g ≤ bS) (hF : fz_P b t σ) {x1 : Int32} (h_x1 : xs 1 = x1) (q1_x1 : (-2147483648 : Int) ≤ x1.toInt) (q2_x1 : x1.toInt ≤ (-1 : Int)) {x2 : Int32} (h_x2 : xs 2 = x2) (q1_x2 : (-2147483648 : Int) ≤ x2.toInt) (q2_x2 : x2.toInt ≤ (2147483647 : Int)) {x3 : Int32} (h_x3 : xs 3 = x3) (q1_x3 : (0 : Int) ≤ x3.toInt) (q2_x3 : x3.toInt ≤ (17 : Int)) {x4 : Int32} (h_x4 : xs 4 = x4) (q1_x4 : (0 : Int) ≤ x4.toInt) (q2_x4 : x4.toInt ≤ (99 : Int)) {x5 : Int32} (h_x5 : xs 5 = x5) (q1_x5 : (100 : Int) ≤ x5.toInt) (q2_x5 : x5.toInt ≤ (2147483647 : Int)) (kk : ∀ σ', zx p l e room_1 s m args below meth c g 8 600002 7302232 Q σ' 1395 [(4, .int 0), (0, .ref bS)] []) : zx p l e room_1 s m args below meth c g 8 500 100000 Q σ 252 [(4, .int 0), (3, .ref (b + 431)), (2, .ref (b + 405)), (1, .ref (b + 0)), (0, .ref bS)] [] := by
  have hK := fz_lay hF
  refine z_eqs (σ' := (ap b σ [] [] [])) rfl ?_
  refine z_aload_n B dL_law_252 rfl 3 rfl ?_
  refine z_aload_n B dL_law_253 rfl 4 rfl ?_
  refine z_iload B dL_law_254 0 rfl ?_
  refine z_iconst (v := 1) B dL_law_256 (by decide) ?_
  refine z_iadd B dL_law_257 ?_
  refine z_seti (y := 1) (by decide) ?_
  refine z_sld (j := 1) (x := x1) B hX hbl hbA (by decide) (show ¬ ((1 : Int32) < 0 ∨ 6 ≤ (1 : Int32).toNatClampNeg) by decide) h_x1 dL_law_258 ?_
  refine z_aload_n B dL_law_259 rfl 4 rfl ?_
  refine z_iload B dL_law_260 0 rfl ?_
  refine z_iconst (v := 2) B dL_law_262 (by decide) ?_
  refine z_iadd B dL_law_263 ?_
  refine z_seti (y := 2) (by decide) ?_
  refine z_sld (j := 2) (x := x2) B hX hbl hbA (by decide) (show ¬ ((2 : Int32) < 0 ∨ 6 ≤ (2 : Int32).toNatClampNeg) by decide) h_x2 dL_law_264 ?_
  refine z_aload_n B dL_law_265 rfl 4 rfl ?_
  refine z_iload B dL_law_266 0 rfl ?_
  refine z_iconst (v := 3) B dL_law_268 (by decide) ?_
  refine z_iadd B dL_law_269 ?_
  refine z_seti (y := 3) (by decide) ?_
  refine z_sld (j := 3) (x := x3) B hX hbl hbA (by decide) (show ¬ ((3 : Int32) < 0 ∨ 6 ≤ (3 : Int32).toNatClampNeg) by decide) h_x3 dL_law_270 ?_
  refine z_aload_n B dL_law_271 rfl 4 rfl ?_
  refine z_iload B dL_law_272 0 rfl ?_
  refine z_iconst (v := 4) B dL_law_274 (by decide) ?_
  refine z_iadd B dL_law_275 ?_
  refine z_seti (y := 4) (by decide) ?_
  refine z_sld (j := 4) (x := x4) B hX hbl hbA (by decide) (show ¬ ((4 : Int32) < 0 ∨ 6 ≤ (4 : Int32).toNatClampNeg) by decide) h_x4 dL_law_276 ?_
  refine z_aload_n B dL_law_277 rfl 4 rfl ?_
  refine z_iload B dL_law_278 0 rfl ?_
  refine z_iconst (v := 5) B dL_law_280 (by decide) ?_
  refine z_iadd B dL_law_281 ?_
  refine z_seti (y := 5) (by decide) ?_
  refine z_sld (j := 5) (x := x5) B hX hbl hbA (by decide) (show ¬ ((5 : Int32) < 0 ∨ 6 ≤ (5 : Int32).toNatClampNeg) by decide) h_x5 dL_law_282 ?_
  refine z_aload_n B dL_law_283 rfl 1 rfl ?_
  refine z_cSWi (As := [.ref (b + 0), .int x1, .int x2, .int x3, .int x4, .int x5, .ref (b + 431)]) (rest := []) B cw_L_84 dL_law_284 (ci_L_check_380 l hlt (σ := (ap b σ [] [] [])) (b := b) (lyA hK) x1 x2 x3 x4 x5 q1_x1 q2_x1) rfl (by decide) rfl (Nat.le_of_ble_eq_true rfl) (by decide) (fun r u hu => ?_)
  obtain ⟨hu1, z, hu⟩ := hu
  refine z_eqs (σ' := (ap b (wx_Z σ z) [] [] [])) (hu.trans az_ap) ?_
  show zx p l e _ s m _ below meth c g 8 _ _ _ _ 287 [(4, .int 0), (3, .ref (b + 431)), (2, .ref (b + 405)), (1, .ref (b + 0)), (0, .ref bS)] _
  refine z_seti (y := 1) hu1 ?_
  refine z_istore (lv' := [(5, .int 1), (4, .int 0), (3, .ref (b + 431)), (2, .ref (b + 405)), (1, .ref (b + 0)), (0, .ref bS)]) B dL_law_287 (by decide) rfl ?_
  refine z_aload_n B dL_law_289 rfl 3 rfl ?_
  refine z_aload_n B dL_law_290 rfl 5 rfl ?_
  refine z_iload B dL_law_291 1 rfl ?_
  refine z_iconst (v := 1) B dL_law_293 (by decide) ?_
  refine z_iadd B dL_law_294 ?_
  refine z_seti (y := 1) (by decide) ?_
  refine z_sld (j := 1) (x := x1) B hX hbl hbA (by decide) (show ¬ ((1 : Int32) < 0 ∨ 6 ≤ (1 : Int32).toNatClampNeg) by decide) h_x1 dL_law_295 ?_
  refine z_aload_n B dL_law_296 rfl 5 rfl ?_
  refine z_iload B dL_law_297 1 rfl ?_
  refine z_iconst (v := 2) B dL_law_299 (by decide) ?_
  refine z_iadd B dL_law_300 ?_
  refine z_seti (y := 2) (by decide) ?_
  refine z_sld (j := 2) (x := x2) B hX hbl hbA (by decide) (show ¬ ((2 : Int32) < 0 ∨ 6 ≤ (2 : Int32).toNatClampNeg) by decide) h_x2 dL_law_301 ?_
  refine z_aload_n B dL_law_302 rfl 5 rfl ?_
  refine z_iload B dL_law_303 1 rfl ?_
  refine z_iconst (v := 3) B dL_law_305 (by decide) ?_
  refine z_iadd B dL_law_306 ?_
  refine z_seti (y := 3) (by decide) ?_
  refine z_sld (j := 3) (x := x3) B hX hbl hbA (by decide) (show ¬ ((3 : Int32) < 0 ∨ 6 ≤ (3 : Int32).toNatClampNeg) by decide) h_x3 dL_law_307 ?_
  refine z_aload_n B dL_law_308 rfl 5 rfl ?_
  refine z_iload B dL_law_309 1 rfl ?_
  refine z_iconst (v := 4) B dL_law_311 (by decide) ?_
  refine z_iadd B dL_law_312 ?_
  refine z_seti (y := 4) (by decide) ?_
  refine z_sld (j := 4) (x := x4) B hX hbl hbA (by decide) (show ¬ ((4 : Int32) < 0 ∨ 6 ≤ (4 : Int32).toNatClampNeg) by decide) h_x4 dL_law_313 ?_
  refine z_aload_n B dL_law_314 rfl 5 rfl ?_
  refine z_iload B dL_law_315 1 rfl ?_
  refine z_iconst (v := 5) B dL_law_317 (by decide) ?_
  refine z_iadd B dL_law_318 ?_
  refine z_seti (y := 5) (by decide) ?_
  refine z_sld (j := 5) (x := x5) B hX hbl hbA (by decide) (show ¬ ((5 : Int32) < 0 ∨ 6 ≤ (5 : Int32).toNatClampNeg) by decide) h_x5 dL_law_319 ?_
  refine z_cVi (As := [.int x1, .int x2, .int x3, .int x4, .int x5]) (rest := []) B cw_L_86 cx_10 dL_law_320 (ci_X9_check_385 l (σ := (ap b (wx_Z σ z) [] [] [])) (b := b) (lyA (lyZ hK)) x1 x2 x3 x4 x5 q1_x1 q2_x1 q1_x3 q2_x3 q1_x4 q2_x4 q1_x5 q2_x5) (lKA (lKZ (hk_K hK 405 rfl rfl))) rfl (by decide) rfl (Nat.le_of_ble_eq_true rfl) (by decide) (fun r u hu => ?_)
  refine z_eqs (σ' := (ap b (wx_Z σ z) [(405, 0, 1)] [] [])) (hu.2.trans ap_ap) ?_
  show zx p l e _ s m _ below meth c g 8 _ _ _ _ 323 [(5, .int 1), (4, .int 0), (3, .ref (b + 431)), (2, .ref (b + 405)), (1, .ref (b + 0)), (0, .ref bS)] _
  refine z_seti (y := 0) hu.1 ?_
  refine z_istore (lv' := [(6, .int 0), (5, .int 1), (4, .int 0), (3, .ref (b + 431)), (2, .ref (b + 405)), (1, .ref (b + 0)), (0, .ref bS)]) B dL_law_323 (by decide) rfl ?_
  refine z_aload_n B dL_law_325 rfl 4 rfl ?_
  refine z_cVi (As := []) (rest := []) B cw_L_80 cx_10 dL_law_326 (ci_X9_thrown_31 l (σ := (ap b (wx_Z σ z) [(405, 0, 1)] [] [])) (b := b) (lyA (lyZ hK)) (rI_at 405 0 rfl)) (lKA (lKZ (hk_K hK 405 rfl rfl))) rfl (by decide) rfl (Nat.le_of_ble_eq_true rfl) (by decide) (fun r u hu => ?_)
  refine z_eqs (σ' := (ap b (wx_Z σ z) [(405, 0, 1)] [] [])) hu.2 ?_
  show zx p l e _ s m _ below meth c g 8 _ _ _ _ 329 [(6, .int 0), (5, .int 1), (4, .int 0), (3, .ref (b + 431)), (2, .ref (b + 405)), (1, .ref (b + 0)), (0, .ref bS)] _
  refine z_seti (y := 1) hu.1 ?_
  refine z_iload B dL_law_329 1 rfl ?_
  refine z_icmp_eq (tgt := 336) B dL_law_331 (by decide) (fun _ => ?_) (fun h => absurd (by decide) h)
  refine z_iload B dL_law_336 1 rfl ?_
  refine z_if_ne (tgt := 353) B dL_law_338 (by decide) (fun _ => ?_) (fun h => absurd h (by decide))
  refine z_goto (tgt := 1395) B dL_law_353 (by decide) ?_
  exact z_widen (Nat.le_of_ble_eq_true rfl) (Nat.le_of_ble_eq_true rfl) (z_sub _ [2, 6] rfl (kk _))
set_option maxRecDepth 100000 in
set_option maxHeartbeats 4000000 in
theorem lf_1_145 {p : Program} {l : Launch} {e : Env} {s : State} {m : MethodId} {args : Array Value} {below : List Frame} {meth : Method} {c : Code} {g : gx_T} {Q : State → Prop} {σ : sx_T} {b t bS : Nat} {xs : Nat → Int32} (hlt : l.stackTraces = false) (B : zx_B p s m args meth c code RL 8 g) (hX : va_X bS 6 xs s s.heap) (hbl : bS < s.heap.size) (hbA : ¬ gx_b g ≤ bS) (hF : fz_P b t σ) {x1 : Int32} (h_x1 : xs 1 = x1) (q1_x1 : (-2147483648 : Int) ≤ x1.toInt) (q2_x1 : x1.toInt ≤ (-1 : Int)) {x2 : Int32} (h_x2 : xs 2 = x2) (q1_x2 : (-2147483648 : Int) ≤ x2.toInt) (q2_x2 : x2.toInt ≤ (2147483647 : Int)) {x3 : Int32} (h_x3 : xs 3 = x3) (q1_x3 : (0 : Int) ≤ x3.toInt) (q2_x3 : x3.toInt ≤ (17 : Int)) {x4 : Int32} (h_x4 : xs 4 = x4) (q1_x4 : (100 : Int) ≤ x4.toInt) (q2_x4 : x4.toInt ≤ (2147483647 : Int)) {x5 : Int32} (h_x5 : xs 5 = x5) (q1_x5 : (-2147483648 : Int) ≤ x5.toInt) (q2_x5 : x5.toInt ≤ (2147483647 : Int)) (kk : ∀ σ', zx p l e room_1 s m args below meth c g 8 600002 7302232 Q σ' 1395 [(4, .int 0), (0, .ref bS)] []) : zx p l e room_1 s m args below meth c g 8 500 100000 Q σ 252 [(4, .int 0), (3, .ref (b + 431)), (2, .ref (b + 405)), (1, .ref (b + 0)), (0, .ref bS)] [] := by
  have hK := fz_lay hF
  refine z_eqs (σ' := (ap b σ [] [] [])) rfl ?_
  refine z_aload_n B dL_law_252 rfl 3 rfl ?_
  refine z_aload_n B dL_law_253 rfl 4 rfl ?_
  refine z_iload B dL_law_254 0 rfl ?_
  refine z_iconst (v := 1) B dL_law_256 (by decide) ?_
  refine z_iadd B dL_law_257 ?_
  refine z_seti (y := 1) (by decide) ?_
  refine z_sld (j := 1) (x := x1) B hX hbl hbA (by decide) (show ¬ ((1 : Int32) < 0 ∨ 6 ≤ (1 : Int32).toNatClampNeg) by decide) h_x1 dL_law_258 ?_
  refine z_aload_n B dL_law_259 rfl 4 rfl ?_
  refine z_iload B dL_law_260 0 rfl ?_
  refine z_iconst (v := 2) B dL_law_262 (by decide) ?_
  refine z_iadd B dL_law_263 ?_
  refine z_seti (y := 2) (by decide) ?_
  refine z_sld (j := 2) (x := x2) B hX hbl hbA (by decide) (show ¬ ((2 : Int32) < 0 ∨ 6 ≤ (2 : Int32).toNatClampNeg) by decide) h_x2 dL_law_264 ?_
  refine z_aload_n B dL_law_265 rfl 4 rfl ?_
  refine z_iload B dL_law_266 0 rfl ?_
  refine z_iconst (v := 3) B dL_law_268 (by decide) ?_
  refine z_iadd B dL_law_269 ?_
  refine z_seti (y := 3) (by decide) ?_
  refine z_sld (j := 3) (x := x3) B hX hbl hbA (by decide) (show ¬ ((3 : Int32) < 0 ∨ 6 ≤ (3 : Int32).toNatClampNeg) by decide) h_x3 dL_law_270 ?_
  refine z_aload_n B dL_law_271 rfl 4 rfl ?_
  refine z_iload B dL_law_272 0 rfl ?_
  refine z_iconst (v := 4) B dL_law_274 (by decide) ?_
  refine z_iadd B dL_law_275 ?_
  refine z_seti (y := 4) (by decide) ?_
  refine z_sld (j := 4) (x := x4) B hX hbl hbA (by decide) (show ¬ ((4 : Int32) < 0 ∨ 6 ≤ (4 : Int32).toNatClampNeg) by decide) h_x4 dL_law_276 ?_
  refine z_aload_n B dL_law_277 rfl 4 rfl ?_
  refine z_iload B dL_law_278 0 rfl ?_
  refine z_iconst (v := 5) B dL_law_280 (by decide) ?_
  refine z_iadd B dL_law_281 ?_
  refine z_seti (y := 5) (by decide) ?_
  refine z_sld (j := 5) (x := x5) B hX hbl hbA (by decide) (show ¬ ((5 : Int32) < 0 ∨ 6 ≤ (5 : Int32).toNatClampNeg) by decide) h_x5 dL_law_282 ?_
  refine z_aload_n B dL_law_283 rfl 1 rfl ?_
  refine z_cSWi (As := [.ref (b + 0), .int x1, .int x2, .int x3, .int x4, .int x5, .ref (b + 431)]) (rest := []) B cw_L_84 dL_law_284 (ci_L_check_380 l hlt (σ := (ap b σ [] [] [])) (b := b) (lyA hK) x1 x2 x3 x4 x5 q1_x1 q2_x1) rfl (by decide) rfl (Nat.le_of_ble_eq_true rfl) (by decide) (fun r u hu => ?_)
  obtain ⟨hu1, z, hu⟩ := hu
  refine z_eqs (σ' := (ap b (wx_Z σ z) [] [] [])) (hu.trans az_ap) ?_
  show zx p l e _ s m _ below meth c g 8 _ _ _ _ 287 [(4, .int 0), (3, .ref (b + 431)), (2, .ref (b + 405)), (1, .ref (b + 0)), (0, .ref bS)] _
  refine z_seti (y := 1) hu1 ?_
  refine z_istore (lv' := [(5, .int 1), (4, .int 0), (3, .ref (b + 431)), (2, .ref (b + 405)), (1, .ref (b + 0)), (0, .ref bS)]) B dL_law_287 (by decide) rfl ?_
  refine z_aload_n B dL_law_289 rfl 3 rfl ?_
  refine z_aload_n B dL_law_290 rfl 5 rfl ?_
  refine z_iload B dL_law_291 1 rfl ?_
  refine z_iconst (v := 1) B dL_law_293 (by decide) ?_
  refine z_iadd B dL_law_294 ?_
  refine z_seti (y := 1) (by decide) ?_
  refine z_sld (j := 1) (x := x1) B hX hbl hbA (by decide) (show ¬ ((1 : Int32) < 0 ∨ 6 ≤ (1 : Int32).toNatClampNeg) by decide) h_x1 dL_law_295 ?_
  refine z_aload_n B dL_law_296 rfl 5 rfl ?_
  refine z_iload B dL_law_297 1 rfl ?_
  refine z_iconst (v := 2) B dL_law_299 (by decide) ?_
  refine z_iadd B dL_law_300 ?_
  refine z_seti (y := 2) (by decide) ?_
  refine z_sld (j := 2) (x := x2) B hX hbl hbA (by decide) (show ¬ ((2 : Int32) < 0 ∨ 6 ≤ (2 : Int32).toNatClampNeg) by decide) h_x2 dL_law_301 ?_
  refine z_aload_n B dL_law_302 rfl 5 rfl ?_
  refine z_iload B dL_law_303 1 rfl ?_
  refine z_iconst (v := 3) B dL_law_305 (by decide) ?_
  refine z_iadd B dL_law_306 ?_
  refine z_seti (y := 3) (by decide) ?_
  refine z_sld (j := 3) (x := x3) B hX hbl hbA (by decide) (show ¬ ((3 : Int32) < 0 ∨ 6 ≤ (3 : Int32).toNatClampNeg) by decide) h_x3 dL_law_307 ?_
  refine z_aload_n B dL_law_308 rfl 5 rfl ?_
  refine z_iload B dL_law_309 1 rfl ?_
  refine z_iconst (v := 4) B dL_law_311 (by decide) ?_
  refine z_iadd B dL_law_312 ?_
  refine z_seti (y := 4) (by decide) ?_
  refine z_sld (j := 4) (x := x4) B hX hbl hbA (by decide) (show ¬ ((4 : Int32) < 0 ∨ 6 ≤ (4 : Int32).toNatClampNeg) by decide) h_x4 dL_law_313 ?_
  refine z_aload_n B dL_law_314 rfl 5 rfl ?_
  refine z_iload B dL_law_315 1 rfl ?_
  refine z_iconst (v := 5) B dL_law_317 (by decide) ?_
  refine z_iadd B dL_law_318 ?_
  refine z_seti (y := 5) (by decide) ?_
  refine z_sld (j := 5) (x := x5) B hX hbl hbA (by decide) (show ¬ ((5 : Int32) < 0 ∨ 6 ≤ (5 : Int32).toNatClampNeg) by decide) h_x5 dL_law_319 ?_
  refine z_cVi (As := [.int x1, .int x2, .int x3, .int x4, .int x5]) (rest := []) B cw_L_86 cx_10 dL_law_320 (ci_X9_check_386 l (σ := (ap b (wx_Z σ z) [] [] [])) (b := b) (lyA (lyZ hK)) x1 x2 x3 x4 x5 q1_x1 q2_x1 q1_x3 q2_x3 q1_x4 q2_x4) (lKA (lKZ (hk_K hK 405 rfl rfl))) rfl (by decide) rfl (Nat.le_of_ble_eq_true rfl) (by decide) (fun r u hu => ?_)
  refine z_eqs (σ' := (ap b (wx_Z σ z) [(405, 0, 1)] [] [])) (hu.2.trans ap_ap) ?_
  show zx p l e _ s m _ below meth c g 8 _ _ _ _ 323 [(5, .int 1), (4, .int 0), (3, .ref (b + 431)), (2, .ref (b + 405)), (1, .ref (b + 0)), (0, .ref bS)] _
  refine z_seti (y := 0) hu.1 ?_
  refine z_istore (lv' := [(6, .int 0), (5, .int 1), (4, .int 0), (3, .ref (b + 431)), (2, .ref (b + 405)), (1, .ref (b + 0)), (0, .ref bS)]) B dL_law_323 (by decide) rfl ?_
  refine z_aload_n B dL_law_325 rfl 4 rfl ?_
  refine z_cVi (As := []) (rest := []) B cw_L_80 cx_10 dL_law_326 (ci_X9_thrown_31 l (σ := (ap b (wx_Z σ z) [(405, 0, 1)] [] [])) (b := b) (lyA (lyZ hK)) (rI_at 405 0 rfl)) (lKA (lKZ (hk_K hK 405 rfl rfl))) rfl (by decide) rfl (Nat.le_of_ble_eq_true rfl) (by decide) (fun r u hu => ?_)
  refine z_eqs (σ' := (ap b (wx_Z σ z) [(405, 0, 1)] [] [])) hu.2 ?_
  show zx p l e _ s m _ below meth c g 8 _ _ _ _ 329 [(6, .int 0), (5, .int 1), (4, .int 0), (3, .ref (b + 431)), (2, .ref (b + 405)), (1, .ref (b + 0)), (0, .ref bS)] _
  refine z_seti (y := 1) hu.1 ?_
  refine z_iload B dL_law_329 1 rfl ?_
  refine z_icmp_eq (tgt := 336) B dL_law_331 (by decide) (fun _ => ?_) (fun h => absurd (by decide) h)
  refine z_iload B dL_law_336 1 rfl ?_
  refine z_if_ne (tgt := 353) B dL_law_338 (by decide) (fun _ => ?_) (fun h => absurd h (by decide))
  refine z_goto (tgt := 1395) B dL_law_353 (by decide) ?_
  exact z_widen (Nat.le_of_ble_eq_true rfl) (Nat.le_of_ble_eq_true rfl) (z_sub _ [2, 6] rfl (kk _))
set_option maxRecDepth 100000 in
set_option maxHeartbeats 4000000 in
theorem lf_1_146 {p : Program} {l : Launch} {e : Env} {s : State} {m : MethodId} {args : Array Value} {below : List Frame} {meth : Method} {c : Code} {g : gx_T} {Q : State → Prop} {σ : sx_T} {b t bS : Nat} {xs : Nat → Int32} (hlt : l.stackTraces = false) (B : zx_B p s m args meth c code RL 8 g) (hX : va_X bS 6 xs s s.heap) (hbl : bS < s.heap.size) (hbA : ¬ gx_b g ≤ bS) (hF : fz_P b t σ) {x1 : Int32} (h_x1 : xs 1 = x1) (q1_x1 : (-2147483648 : Int) ≤ x1.toInt) (q2_x1 : x1.toInt ≤ (-1 : Int)) {x2 : Int32} (h_x2 : xs 2 = x2) (q1_x2 : (-2147483648 : Int) ≤ x2.toInt) (q2_x2 : x2.toInt ≤ (2147483647 : Int)) {x3 : Int32} (h_x3 : xs 3 = x3) (q1_x3 : (18 : Int) ≤ x3.toInt) (q2_x3 : x3.toInt ≤ (2147483647 : Int)) {x4 : Int32} (h_x4 : xs 4 = x4) (q1_x4 : (-2147483648 : Int) ≤ x4.toInt) (q2_x4 : x4.toInt ≤ (2147483647 : Int)) {x5 : Int32} (h_x5 : xs 5 = x5) (q1_x5 : (-2147483648 : Int) ≤ x5.toInt) (q2_x5 : x5.toInt ≤ (2147483647 : Int)) (kk : ∀ σ', zx p l e room_1 s m args below meth c g 8 600002 7302232 Q σ' 1395 [(4, .int 0), (0, .ref bS)] []) : zx p l e room_1 s m args below meth c g 8 500 100000 Q σ 252 [(4, .int 0), (3, .ref (b + 431)), (2, .ref (b + 405)), (1, .ref (b + 0)), (0, .ref bS)] [] := by
  have hK := fz_lay hF
  refine z_eqs (σ' := (ap b σ [] [] [])) rfl ?_
  refine z_aload_n B dL_law_252 rfl 3 rfl ?_
  refine z_aload_n B dL_law_253 rfl 4 rfl ?_
  refine z_iload B dL_law_254 0 rfl ?_
  refine z_iconst (v := 1) B dL_law_256 (by decide) ?_
  refine z_iadd B dL_law_257 ?_
  refine z_seti (y := 1) (by decide) ?_
  refine z_sld (j := 1) (x := x1) B hX hbl hbA (by decide) (show ¬ ((1 : Int32) < 0 ∨ 6 ≤ (1 : Int32).toNatClampNeg) by decide) h_x1 dL_law_258 ?_
  refine z_aload_n B dL_law_259 rfl 4 rfl ?_
  refine z_iload B dL_law_260 0 rfl ?_
  refine z_iconst (v := 2) B dL_law_262 (by decide) ?_
  refine z_iadd B dL_law_263 ?_
  refine z_seti (y := 2) (by decide) ?_
  refine z_sld (j := 2) (x := x2) B hX hbl hbA (by decide) (show ¬ ((2 : Int32) < 0 ∨ 6 ≤ (2 : Int32).toNatClampNeg) by decide) h_x2 dL_law_264 ?_
  refine z_aload_n B dL_law_265 rfl 4 rfl ?_
  refine z_iload B dL_law_266 0 rfl ?_
  refine z_iconst (v := 3) B dL_law_268 (by decide) ?_
  refine z_iadd B dL_law_269 ?_
  refine z_seti (y := 3) (by decide) ?_
  refine z_sld (j := 3) (x := x3) B hX hbl hbA (by decide) (show ¬ ((3 : Int32) < 0 ∨ 6 ≤ (3 : Int32).toNatClampNeg) by decide) h_x3 dL_law_270 ?_
  refine z_aload_n B dL_law_271 rfl 4 rfl ?_
  refine z_iload B dL_law_272 0 rfl ?_
  refine z_iconst (v := 4) B dL_law_274 (by decide) ?_
  refine z_iadd B dL_law_275 ?_
  refine z_seti (y := 4) (by decide) ?_
  refine z_sld (j := 4) (x := x4) B hX hbl hbA (by decide) (show ¬ ((4 : Int32) < 0 ∨ 6 ≤ (4 : Int32).toNatClampNeg) by decide) h_x4 dL_law_276 ?_
  refine z_aload_n B dL_law_277 rfl 4 rfl ?_
  refine z_iload B dL_law_278 0 rfl ?_
  refine z_iconst (v := 5) B dL_law_280 (by decide) ?_
  refine z_iadd B dL_law_281 ?_
  refine z_seti (y := 5) (by decide) ?_
  refine z_sld (j := 5) (x := x5) B hX hbl hbA (by decide) (show ¬ ((5 : Int32) < 0 ∨ 6 ≤ (5 : Int32).toNatClampNeg) by decide) h_x5 dL_law_282 ?_
  refine z_aload_n B dL_law_283 rfl 1 rfl ?_
  refine z_cSWi (As := [.ref (b + 0), .int x1, .int x2, .int x3, .int x4, .int x5, .ref (b + 431)]) (rest := []) B cw_L_84 dL_law_284 (ci_L_check_380 l hlt (σ := (ap b σ [] [] [])) (b := b) (lyA hK) x1 x2 x3 x4 x5 q1_x1 q2_x1) rfl (by decide) rfl (Nat.le_of_ble_eq_true rfl) (by decide) (fun r u hu => ?_)
  obtain ⟨hu1, z, hu⟩ := hu
  refine z_eqs (σ' := (ap b (wx_Z σ z) [] [] [])) (hu.trans az_ap) ?_
  show zx p l e _ s m _ below meth c g 8 _ _ _ _ 287 [(4, .int 0), (3, .ref (b + 431)), (2, .ref (b + 405)), (1, .ref (b + 0)), (0, .ref bS)] _
  refine z_seti (y := 1) hu1 ?_
  refine z_istore (lv' := [(5, .int 1), (4, .int 0), (3, .ref (b + 431)), (2, .ref (b + 405)), (1, .ref (b + 0)), (0, .ref bS)]) B dL_law_287 (by decide) rfl ?_
  refine z_aload_n B dL_law_289 rfl 3 rfl ?_
  refine z_aload_n B dL_law_290 rfl 5 rfl ?_
  refine z_iload B dL_law_291 1 rfl ?_
  refine z_iconst (v := 1) B dL_law_293 (by decide) ?_
  refine z_iadd B dL_law_294 ?_
  refine z_seti (y := 1) (by decide) ?_
  refine z_sld (j := 1) (x := x1) B hX hbl hbA (by decide) (show ¬ ((1 : Int32) < 0 ∨ 6 ≤ (1 : Int32).toNatClampNeg) by decide) h_x1 dL_law_295 ?_
  refine z_aload_n B dL_law_296 rfl 5 rfl ?_
  refine z_iload B dL_law_297 1 rfl ?_
  refine z_iconst (v := 2) B dL_law_299 (by decide) ?_
  refine z_iadd B dL_law_300 ?_
  refine z_seti (y := 2) (by decide) ?_
  refine z_sld (j := 2) (x := x2) B hX hbl hbA (by decide) (show ¬ ((2 : Int32) < 0 ∨ 6 ≤ (2 : Int32).toNatClampNeg) by decide) h_x2 dL_law_301 ?_
  refine z_aload_n B dL_law_302 rfl 5 rfl ?_
  refine z_iload B dL_law_303 1 rfl ?_
  refine z_iconst (v := 3) B dL_law_305 (by decide) ?_
  refine z_iadd B dL_law_306 ?_
  refine z_seti (y := 3) (by decide) ?_
  refine z_sld (j := 3) (x := x3) B hX hbl hbA (by decide) (show ¬ ((3 : Int32) < 0 ∨ 6 ≤ (3 : Int32).toNatClampNeg) by decide) h_x3 dL_law_307 ?_
  refine z_aload_n B dL_law_308 rfl 5 rfl ?_
  refine z_iload B dL_law_309 1 rfl ?_
  refine z_iconst (v := 4) B dL_law_311 (by decide) ?_
  refine z_iadd B dL_law_312 ?_
  refine z_seti (y := 4) (by decide) ?_
  refine z_sld (j := 4) (x := x4) B hX hbl hbA (by decide) (show ¬ ((4 : Int32) < 0 ∨ 6 ≤ (4 : Int32).toNatClampNeg) by decide) h_x4 dL_law_313 ?_
  refine z_aload_n B dL_law_314 rfl 5 rfl ?_
  refine z_iload B dL_law_315 1 rfl ?_
  refine z_iconst (v := 5) B dL_law_317 (by decide) ?_
  refine z_iadd B dL_law_318 ?_
  refine z_seti (y := 5) (by decide) ?_
  refine z_sld (j := 5) (x := x5) B hX hbl hbA (by decide) (show ¬ ((5 : Int32) < 0 ∨ 6 ≤ (5 : Int32).toNatClampNeg) by decide) h_x5 dL_law_319 ?_
  refine z_cVi (As := [.int x1, .int x2, .int x3, .int x4, .int x5]) (rest := []) B cw_L_86 cx_10 dL_law_320 (ci_X9_check_387 l (σ := (ap b (wx_Z σ z) [] [] [])) (b := b) (lyA (lyZ hK)) x1 x2 x3 x4 x5 q1_x1 q2_x1 q1_x3 q2_x3) (lKA (lKZ (hk_K hK 405 rfl rfl))) rfl (by decide) rfl (Nat.le_of_ble_eq_true rfl) (by decide) (fun r u hu => ?_)
  refine z_eqs (σ' := (ap b (wx_Z σ z) [(405, 0, 1)] [] [])) (hu.2.trans ap_ap) ?_
  show zx p l e _ s m _ below meth c g 8 _ _ _ _ 323 [(5, .int 1), (4, .int 0), (3, .ref (b + 431)), (2, .ref (b + 405)), (1, .ref (b + 0)), (0, .ref bS)] _
  refine z_seti (y := 0) hu.1 ?_
  refine z_istore (lv' := [(6, .int 0), (5, .int 1), (4, .int 0), (3, .ref (b + 431)), (2, .ref (b + 405)), (1, .ref (b + 0)), (0, .ref bS)]) B dL_law_323 (by decide) rfl ?_
  refine z_aload_n B dL_law_325 rfl 4 rfl ?_
  refine z_cVi (As := []) (rest := []) B cw_L_80 cx_10 dL_law_326 (ci_X9_thrown_31 l (σ := (ap b (wx_Z σ z) [(405, 0, 1)] [] [])) (b := b) (lyA (lyZ hK)) (rI_at 405 0 rfl)) (lKA (lKZ (hk_K hK 405 rfl rfl))) rfl (by decide) rfl (Nat.le_of_ble_eq_true rfl) (by decide) (fun r u hu => ?_)
  refine z_eqs (σ' := (ap b (wx_Z σ z) [(405, 0, 1)] [] [])) hu.2 ?_
  show zx p l e _ s m _ below meth c g 8 _ _ _ _ 329 [(6, .int 0), (5, .int 1), (4, .int 0), (3, .ref (b + 431)), (2, .ref (b + 405)), (1, .ref (b + 0)), (0, .ref bS)] _
  refine z_seti (y := 1) hu.1 ?_
  refine z_iload B dL_law_329 1 rfl ?_
  refine z_icmp_eq (tgt := 336) B dL_law_331 (by decide) (fun _ => ?_) (fun h => absurd (by decide) h)
  refine z_iload B dL_law_336 1 rfl ?_
  refine z_if_ne (tgt := 353) B dL_law_338 (by decide) (fun _ => ?_) (fun h => absurd h (by decide))
  refine z_goto (tgt := 1395) B dL_law_353 (by decide) ?_
  exact z_widen (Nat.le_of_ble_eq_true rfl) (Nat.le_of_ble_eq_true rfl) (z_sub _ [2, 6] rfl (kk _))
set_option maxRecDepth 100000 in
set_option maxHeartbeats 4000000 in
theorem lf_1_147 {p : Program} {l : Launch} {e : Env} {s : State} {m : MethodId} {args : Array Value} {below : List Frame} {meth : Method} {c : Code} {g : gx_T} {Q : State → Prop} {σ : sx_T} {b t bS : Nat} {xs : Nat → Int32} (hlt : l.stackTraces = false) (B : zx_B p s m args meth c code RL 8 g) (hX : va_X bS 6 xs s s.heap) (hbl : bS < s.heap.size) (hbA : ¬ gx_b g ≤ bS) (hF : fz_P b t σ) (h_x1 : xs 1 = 0) {x2 : Int32} (h_x2 : xs 2 = x2) (q1_x2 : (-2147483648 : Int) ≤ x2.toInt) (q2_x2 : x2.toInt ≤ (-1 : Int)) {x3 : Int32} (h_x3 : xs 3 = x3) (q1_x3 : (-2147483648 : Int) ≤ x3.toInt) (q2_x3 : x3.toInt ≤ (-1 : Int)) {x4 : Int32} (h_x4 : xs 4 = x4) (q1_x4 : (-2147483648 : Int) ≤ x4.toInt) (q2_x4 : x4.toInt ≤ (2147483647 : Int)) {x5 : Int32} (h_x5 : xs 5 = x5) (q1_x5 : (-2147483648 : Int) ≤ x5.toInt) (q2_x5 : x5.toInt ≤ (2147483647 : Int)) (kk : ∀ σ', zx p l e room_1 s m args below meth c g 8 600002 7302232 Q σ' 1395 [(4, .int 0), (0, .ref bS)] []) : zx p l e room_1 s m args below meth c g 8 500 100000 Q σ 252 [(4, .int 0), (3, .ref (b + 431)), (2, .ref (b + 405)), (1, .ref (b + 0)), (0, .ref bS)] [] := by
  have hK := fz_lay hF
  refine z_eqs (σ' := (ap b σ [] [] [])) rfl ?_
  refine z_aload_n B dL_law_252 rfl 3 rfl ?_
  refine z_aload_n B dL_law_253 rfl 4 rfl ?_
  refine z_iload B dL_law_254 0 rfl ?_
  refine z_iconst (v := 1) B dL_law_256 (by decide) ?_
  refine z_iadd B dL_law_257 ?_
  refine z_seti (y := 1) (by decide) ?_
  refine z_sld (j := 1) (x := 0) B hX hbl hbA (by decide) (show ¬ ((1 : Int32) < 0 ∨ 6 ≤ (1 : Int32).toNatClampNeg) by decide) h_x1 dL_law_258 ?_
  refine z_aload_n B dL_law_259 rfl 4 rfl ?_
  refine z_iload B dL_law_260 0 rfl ?_
  refine z_iconst (v := 2) B dL_law_262 (by decide) ?_
  refine z_iadd B dL_law_263 ?_
  refine z_seti (y := 2) (by decide) ?_
  refine z_sld (j := 2) (x := x2) B hX hbl hbA (by decide) (show ¬ ((2 : Int32) < 0 ∨ 6 ≤ (2 : Int32).toNatClampNeg) by decide) h_x2 dL_law_264 ?_
  refine z_aload_n B dL_law_265 rfl 4 rfl ?_
  refine z_iload B dL_law_266 0 rfl ?_
  refine z_iconst (v := 3) B dL_law_268 (by decide) ?_
  refine z_iadd B dL_law_269 ?_
  refine z_seti (y := 3) (by decide) ?_
  refine z_sld (j := 3) (x := x3) B hX hbl hbA (by decide) (show ¬ ((3 : Int32) < 0 ∨ 6 ≤ (3 : Int32).toNatClampNeg) by decide) h_x3 dL_law_270 ?_
  refine z_aload_n B dL_law_271 rfl 4 rfl ?_
  refine z_iload B dL_law_272 0 rfl ?_
  refine z_iconst (v := 4) B dL_law_274 (by decide) ?_
  refine z_iadd B dL_law_275 ?_
  refine z_seti (y := 4) (by decide) ?_
  refine z_sld (j := 4) (x := x4) B hX hbl hbA (by decide) (show ¬ ((4 : Int32) < 0 ∨ 6 ≤ (4 : Int32).toNatClampNeg) by decide) h_x4 dL_law_276 ?_
  refine z_aload_n B dL_law_277 rfl 4 rfl ?_
  refine z_iload B dL_law_278 0 rfl ?_
  refine z_iconst (v := 5) B dL_law_280 (by decide) ?_
  refine z_iadd B dL_law_281 ?_
  refine z_seti (y := 5) (by decide) ?_
  refine z_sld (j := 5) (x := x5) B hX hbl hbA (by decide) (show ¬ ((5 : Int32) < 0 ∨ 6 ≤ (5 : Int32).toNatClampNeg) by decide) h_x5 dL_law_282 ?_
  refine z_aload_n B dL_law_283 rfl 1 rfl ?_
  refine z_cSWi (As := [.ref (b + 0), .int 0, .int x2, .int x3, .int x4, .int x5, .ref (b + 431)]) (rest := []) B cw_L_84 dL_law_284 (ci_L_check_389 l hlt (σ := (ap b σ [] [] [])) (b := b) (lyA hK) x2 x3 x4 x5 q1_x2 q2_x2 (rR_at 0 0 (fz_R hF 0 0 rfl rfl)) (rR_at 1 0 (fz_R hF 1 0 rfl rfl))) rfl (by decide) rfl (Nat.le_of_ble_eq_true rfl) (by decide) (fun r u hu => ?_)
  obtain ⟨hu1, z, hu⟩ := hu
  refine z_eqs (σ' := (ap b (wx_Z σ z) [] [] [])) (hu.trans az_ap) ?_
  show zx p l e _ s m _ below meth c g 8 _ _ _ _ 287 [(4, .int 0), (3, .ref (b + 431)), (2, .ref (b + 405)), (1, .ref (b + 0)), (0, .ref bS)] _
  refine z_seti (y := 1) hu1 ?_
  refine z_istore (lv' := [(5, .int 1), (4, .int 0), (3, .ref (b + 431)), (2, .ref (b + 405)), (1, .ref (b + 0)), (0, .ref bS)]) B dL_law_287 (by decide) rfl ?_
  refine z_aload_n B dL_law_289 rfl 3 rfl ?_
  refine z_aload_n B dL_law_290 rfl 5 rfl ?_
  refine z_iload B dL_law_291 1 rfl ?_
  refine z_iconst (v := 1) B dL_law_293 (by decide) ?_
  refine z_iadd B dL_law_294 ?_
  refine z_seti (y := 1) (by decide) ?_
  refine z_sld (j := 1) (x := 0) B hX hbl hbA (by decide) (show ¬ ((1 : Int32) < 0 ∨ 6 ≤ (1 : Int32).toNatClampNeg) by decide) h_x1 dL_law_295 ?_
  refine z_aload_n B dL_law_296 rfl 5 rfl ?_
  refine z_iload B dL_law_297 1 rfl ?_
  refine z_iconst (v := 2) B dL_law_299 (by decide) ?_
  refine z_iadd B dL_law_300 ?_
  refine z_seti (y := 2) (by decide) ?_
  refine z_sld (j := 2) (x := x2) B hX hbl hbA (by decide) (show ¬ ((2 : Int32) < 0 ∨ 6 ≤ (2 : Int32).toNatClampNeg) by decide) h_x2 dL_law_301 ?_
  refine z_aload_n B dL_law_302 rfl 5 rfl ?_
  refine z_iload B dL_law_303 1 rfl ?_
  refine z_iconst (v := 3) B dL_law_305 (by decide) ?_
  refine z_iadd B dL_law_306 ?_
  refine z_seti (y := 3) (by decide) ?_
  refine z_sld (j := 3) (x := x3) B hX hbl hbA (by decide) (show ¬ ((3 : Int32) < 0 ∨ 6 ≤ (3 : Int32).toNatClampNeg) by decide) h_x3 dL_law_307 ?_
  refine z_aload_n B dL_law_308 rfl 5 rfl ?_
  refine z_iload B dL_law_309 1 rfl ?_
  refine z_iconst (v := 4) B dL_law_311 (by decide) ?_
  refine z_iadd B dL_law_312 ?_
  refine z_seti (y := 4) (by decide) ?_
  refine z_sld (j := 4) (x := x4) B hX hbl hbA (by decide) (show ¬ ((4 : Int32) < 0 ∨ 6 ≤ (4 : Int32).toNatClampNeg) by decide) h_x4 dL_law_313 ?_
  refine z_aload_n B dL_law_314 rfl 5 rfl ?_
  refine z_iload B dL_law_315 1 rfl ?_
  refine z_iconst (v := 5) B dL_law_317 (by decide) ?_
  refine z_iadd B dL_law_318 ?_
  refine z_seti (y := 5) (by decide) ?_
  refine z_sld (j := 5) (x := x5) B hX hbl hbA (by decide) (show ¬ ((5 : Int32) < 0 ∨ 6 ≤ (5 : Int32).toNatClampNeg) by decide) h_x5 dL_law_319 ?_
  refine z_cVi (As := [.int 0, .int x2, .int x3, .int x4, .int x5]) (rest := []) B cw_L_86 cx_10 dL_law_320 (ci_X9_check_390 l (σ := (ap b (wx_Z σ z) [] [] [])) (b := b) (lyA (lyZ hK)) x2 x3 x4 x5 q1_x2 q2_x2 q1_x3 q2_x3) (lKA (lKZ (hk_K hK 405 rfl rfl))) rfl (by decide) rfl (Nat.le_of_ble_eq_true rfl) (by decide) (fun r u hu => ?_)
  refine z_eqs (σ' := (ap b (wx_Z σ z) [(405, 0, 1)] [] [])) (hu.2.trans ap_ap) ?_
  show zx p l e _ s m _ below meth c g 8 _ _ _ _ 323 [(5, .int 1), (4, .int 0), (3, .ref (b + 431)), (2, .ref (b + 405)), (1, .ref (b + 0)), (0, .ref bS)] _
  refine z_seti (y := 0) hu.1 ?_
  refine z_istore (lv' := [(6, .int 0), (5, .int 1), (4, .int 0), (3, .ref (b + 431)), (2, .ref (b + 405)), (1, .ref (b + 0)), (0, .ref bS)]) B dL_law_323 (by decide) rfl ?_
  refine z_aload_n B dL_law_325 rfl 4 rfl ?_
  refine z_cVi (As := []) (rest := []) B cw_L_80 cx_10 dL_law_326 (ci_X9_thrown_31 l (σ := (ap b (wx_Z σ z) [(405, 0, 1)] [] [])) (b := b) (lyA (lyZ hK)) (rI_at 405 0 rfl)) (lKA (lKZ (hk_K hK 405 rfl rfl))) rfl (by decide) rfl (Nat.le_of_ble_eq_true rfl) (by decide) (fun r u hu => ?_)
  refine z_eqs (σ' := (ap b (wx_Z σ z) [(405, 0, 1)] [] [])) hu.2 ?_
  show zx p l e _ s m _ below meth c g 8 _ _ _ _ 329 [(6, .int 0), (5, .int 1), (4, .int 0), (3, .ref (b + 431)), (2, .ref (b + 405)), (1, .ref (b + 0)), (0, .ref bS)] _
  refine z_seti (y := 1) hu.1 ?_
  refine z_iload B dL_law_329 1 rfl ?_
  refine z_icmp_eq (tgt := 336) B dL_law_331 (by decide) (fun _ => ?_) (fun h => absurd (by decide) h)
  refine z_iload B dL_law_336 1 rfl ?_
  refine z_if_ne (tgt := 353) B dL_law_338 (by decide) (fun _ => ?_) (fun h => absurd h (by decide))
  refine z_goto (tgt := 1395) B dL_law_353 (by decide) ?_
  exact z_widen (Nat.le_of_ble_eq_true rfl) (Nat.le_of_ble_eq_true rfl) (z_sub _ [2, 6] rfl (kk _))
set_option maxRecDepth 100000 in
set_option maxHeartbeats 4000000 in
theorem lf_1_148 {p : Program} {l : Launch} {e : Env} {s : State} {m : MethodId} {args : Array Value} {below : List Frame} {meth : Method} {c : Code} {g : gx_T} {Q : State → Prop} {σ : sx_T} {b t bS : Nat} {xs : Nat → Int32} (hlt : l.stackTraces = false) (B : zx_B p s m args meth c code RL 8 g) (hX : va_X bS 6 xs s s.heap) (hbl : bS < s.heap.size) (hbA : ¬ gx_b g ≤ bS) (hF : fz_P b t σ) (h_x1 : xs 1 = 0) {x2 : Int32} (h_x2 : xs 2 = x2) (q1_x2 : (-2147483648 : Int) ≤ x2.toInt) (q2_x2 : x2.toInt ≤ (-1 : Int)) {x3 : Int32} (h_x3 : xs 3 = x3) (q1_x3 : (0 : Int) ≤ x3.toInt) (q2_x3 : x3.toInt ≤ (17 : Int)) {x4 : Int32} (h_x4 : xs 4 = x4) (q1_x4 : (-2147483648 : Int) ≤ x4.toInt) (q2_x4 : x4.toInt ≤ (-1 : Int)) {x5 : Int32} (h_x5 : xs 5 = x5) (q1_x5 : (-2147483648 : Int) ≤ x5.toInt) (q2_x5 : x5.toInt ≤ (2147483647 : Int)) (kk : ∀ σ', zx p l e room_1 s m args below meth c g 8 600002 7302232 Q σ' 1395 [(4, .int 0), (0, .ref bS)] []) : zx p l e room_1 s m args below meth c g 8 500 100000 Q σ 252 [(4, .int 0), (3, .ref (b + 431)), (2, .ref (b + 405)), (1, .ref (b + 0)), (0, .ref bS)] [] := by
  have hK := fz_lay hF
  refine z_eqs (σ' := (ap b σ [] [] [])) rfl ?_
  refine z_aload_n B dL_law_252 rfl 3 rfl ?_
  refine z_aload_n B dL_law_253 rfl 4 rfl ?_
  refine z_iload B dL_law_254 0 rfl ?_
  refine z_iconst (v := 1) B dL_law_256 (by decide) ?_
  refine z_iadd B dL_law_257 ?_
  refine z_seti (y := 1) (by decide) ?_
  refine z_sld (j := 1) (x := 0) B hX hbl hbA (by decide) (show ¬ ((1 : Int32) < 0 ∨ 6 ≤ (1 : Int32).toNatClampNeg) by decide) h_x1 dL_law_258 ?_
  refine z_aload_n B dL_law_259 rfl 4 rfl ?_
  refine z_iload B dL_law_260 0 rfl ?_
  refine z_iconst (v := 2) B dL_law_262 (by decide) ?_
  refine z_iadd B dL_law_263 ?_
  refine z_seti (y := 2) (by decide) ?_
  refine z_sld (j := 2) (x := x2) B hX hbl hbA (by decide) (show ¬ ((2 : Int32) < 0 ∨ 6 ≤ (2 : Int32).toNatClampNeg) by decide) h_x2 dL_law_264 ?_
  refine z_aload_n B dL_law_265 rfl 4 rfl ?_
  refine z_iload B dL_law_266 0 rfl ?_
  refine z_iconst (v := 3) B dL_law_268 (by decide) ?_
  refine z_iadd B dL_law_269 ?_
  refine z_seti (y := 3) (by decide) ?_
  refine z_sld (j := 3) (x := x3) B hX hbl hbA (by decide) (show ¬ ((3 : Int32) < 0 ∨ 6 ≤ (3 : Int32).toNatClampNeg) by decide) h_x3 dL_law_270 ?_
  refine z_aload_n B dL_law_271 rfl 4 rfl ?_
  refine z_iload B dL_law_272 0 rfl ?_
  refine z_iconst (v := 4) B dL_law_274 (by decide) ?_
  refine z_iadd B dL_law_275 ?_
  refine z_seti (y := 4) (by decide) ?_
  refine z_sld (j := 4) (x := x4) B hX hbl hbA (by decide) (show ¬ ((4 : Int32) < 0 ∨ 6 ≤ (4 : Int32).toNatClampNeg) by decide) h_x4 dL_law_276 ?_
  refine z_aload_n B dL_law_277 rfl 4 rfl ?_
  refine z_iload B dL_law_278 0 rfl ?_
  refine z_iconst (v := 5) B dL_law_280 (by decide) ?_
  refine z_iadd B dL_law_281 ?_
  refine z_seti (y := 5) (by decide) ?_
  refine z_sld (j := 5) (x := x5) B hX hbl hbA (by decide) (show ¬ ((5 : Int32) < 0 ∨ 6 ≤ (5 : Int32).toNatClampNeg) by decide) h_x5 dL_law_282 ?_
  refine z_aload_n B dL_law_283 rfl 1 rfl ?_
  refine z_cSWi (As := [.ref (b + 0), .int 0, .int x2, .int x3, .int x4, .int x5, .ref (b + 431)]) (rest := []) B cw_L_84 dL_law_284 (ci_L_check_389 l hlt (σ := (ap b σ [] [] [])) (b := b) (lyA hK) x2 x3 x4 x5 q1_x2 q2_x2 (rR_at 0 0 (fz_R hF 0 0 rfl rfl)) (rR_at 1 0 (fz_R hF 1 0 rfl rfl))) rfl (by decide) rfl (Nat.le_of_ble_eq_true rfl) (by decide) (fun r u hu => ?_)
  obtain ⟨hu1, z, hu⟩ := hu
  refine z_eqs (σ' := (ap b (wx_Z σ z) [] [] [])) (hu.trans az_ap) ?_
  show zx p l e _ s m _ below meth c g 8 _ _ _ _ 287 [(4, .int 0), (3, .ref (b + 431)), (2, .ref (b + 405)), (1, .ref (b + 0)), (0, .ref bS)] _
  refine z_seti (y := 1) hu1 ?_
  refine z_istore (lv' := [(5, .int 1), (4, .int 0), (3, .ref (b + 431)), (2, .ref (b + 405)), (1, .ref (b + 0)), (0, .ref bS)]) B dL_law_287 (by decide) rfl ?_
  refine z_aload_n B dL_law_289 rfl 3 rfl ?_
  refine z_aload_n B dL_law_290 rfl 5 rfl ?_
  refine z_iload B dL_law_291 1 rfl ?_
  refine z_iconst (v := 1) B dL_law_293 (by decide) ?_
  refine z_iadd B dL_law_294 ?_
  refine z_seti (y := 1) (by decide) ?_
  refine z_sld (j := 1) (x := 0) B hX hbl hbA (by decide) (show ¬ ((1 : Int32) < 0 ∨ 6 ≤ (1 : Int32).toNatClampNeg) by decide) h_x1 dL_law_295 ?_
  refine z_aload_n B dL_law_296 rfl 5 rfl ?_
  refine z_iload B dL_law_297 1 rfl ?_
  refine z_iconst (v := 2) B dL_law_299 (by decide) ?_
  refine z_iadd B dL_law_300 ?_
  refine z_seti (y := 2) (by decide) ?_
  refine z_sld (j := 2) (x := x2) B hX hbl hbA (by decide) (show ¬ ((2 : Int32) < 0 ∨ 6 ≤ (2 : Int32).toNatClampNeg) by decide) h_x2 dL_law_301 ?_
  refine z_aload_n B dL_law_302 rfl 5 rfl ?_
  refine z_iload B dL_law_303 1 rfl ?_
  refine z_iconst (v := 3) B dL_law_305 (by decide) ?_
  refine z_iadd B dL_law_306 ?_
  refine z_seti (y := 3) (by decide) ?_
  refine z_sld (j := 3) (x := x3) B hX hbl hbA (by decide) (show ¬ ((3 : Int32) < 0 ∨ 6 ≤ (3 : Int32).toNatClampNeg) by decide) h_x3 dL_law_307 ?_
  refine z_aload_n B dL_law_308 rfl 5 rfl ?_
  refine z_iload B dL_law_309 1 rfl ?_
  refine z_iconst (v := 4) B dL_law_311 (by decide) ?_
  refine z_iadd B dL_law_312 ?_
  refine z_seti (y := 4) (by decide) ?_
  refine z_sld (j := 4) (x := x4) B hX hbl hbA (by decide) (show ¬ ((4 : Int32) < 0 ∨ 6 ≤ (4 : Int32).toNatClampNeg) by decide) h_x4 dL_law_313 ?_
  refine z_aload_n B dL_law_314 rfl 5 rfl ?_
  refine z_iload B dL_law_315 1 rfl ?_
  refine z_iconst (v := 5) B dL_law_317 (by decide) ?_
  refine z_iadd B dL_law_318 ?_
  refine z_seti (y := 5) (by decide) ?_
  refine z_sld (j := 5) (x := x5) B hX hbl hbA (by decide) (show ¬ ((5 : Int32) < 0 ∨ 6 ≤ (5 : Int32).toNatClampNeg) by decide) h_x5 dL_law_319 ?_
  refine z_cVi (As := [.int 0, .int x2, .int x3, .int x4, .int x5]) (rest := []) B cw_L_86 cx_10 dL_law_320 (ci_X9_check_391 l (σ := (ap b (wx_Z σ z) [] [] [])) (b := b) (lyA (lyZ hK)) x2 x3 x4 x5 q1_x2 q2_x2 q1_x3 q2_x3 q1_x4 q2_x4) (lKA (lKZ (hk_K hK 405 rfl rfl))) rfl (by decide) rfl (Nat.le_of_ble_eq_true rfl) (by decide) (fun r u hu => ?_)
  refine z_eqs (σ' := (ap b (wx_Z σ z) [(405, 0, 1)] [] [])) (hu.2.trans ap_ap) ?_
  show zx p l e _ s m _ below meth c g 8 _ _ _ _ 323 [(5, .int 1), (4, .int 0), (3, .ref (b + 431)), (2, .ref (b + 405)), (1, .ref (b + 0)), (0, .ref bS)] _
  refine z_seti (y := 0) hu.1 ?_
  refine z_istore (lv' := [(6, .int 0), (5, .int 1), (4, .int 0), (3, .ref (b + 431)), (2, .ref (b + 405)), (1, .ref (b + 0)), (0, .ref bS)]) B dL_law_323 (by decide) rfl ?_
  refine z_aload_n B dL_law_325 rfl 4 rfl ?_
  refine z_cVi (As := []) (rest := []) B cw_L_80 cx_10 dL_law_326 (ci_X9_thrown_31 l (σ := (ap b (wx_Z σ z) [(405, 0, 1)] [] [])) (b := b) (lyA (lyZ hK)) (rI_at 405 0 rfl)) (lKA (lKZ (hk_K hK 405 rfl rfl))) rfl (by decide) rfl (Nat.le_of_ble_eq_true rfl) (by decide) (fun r u hu => ?_)
  refine z_eqs (σ' := (ap b (wx_Z σ z) [(405, 0, 1)] [] [])) hu.2 ?_
  show zx p l e _ s m _ below meth c g 8 _ _ _ _ 329 [(6, .int 0), (5, .int 1), (4, .int 0), (3, .ref (b + 431)), (2, .ref (b + 405)), (1, .ref (b + 0)), (0, .ref bS)] _
  refine z_seti (y := 1) hu.1 ?_
  refine z_iload B dL_law_329 1 rfl ?_
  refine z_icmp_eq (tgt := 336) B dL_law_331 (by decide) (fun _ => ?_) (fun h => absurd (by decide) h)
  refine z_iload B dL_law_336 1 rfl ?_
  refine z_if_ne (tgt := 353) B dL_law_338 (by decide) (fun _ => ?_) (fun h => absurd h (by decide))
  refine z_goto (tgt := 1395) B dL_law_353 (by decide) ?_
  exact z_widen (Nat.le_of_ble_eq_true rfl) (Nat.le_of_ble_eq_true rfl) (z_sub _ [2, 6] rfl (kk _))
set_option maxRecDepth 100000 in
set_option maxHeartbeats 4000000 in
theorem lf_1_149 {p : Program} {l : Launch} {e : Env} {s : State} {m : MethodId} {args : Array Value} {below : List Frame} {meth : Method} {c : Code} {g : gx_T} {Q : State → Prop} {σ : sx_T} {b t bS : Nat} {xs : Nat → Int32} (hlt : l.stackTraces = false) (B : zx_B p s m args meth c code RL 8 g) (hX : va_X bS 6 xs s s.heap) (hbl : bS < s.heap.size) (hbA : ¬ gx_b g ≤ bS) (hF : fz_P b t σ) (h_x1 : xs 1 = 0) {x2 : Int32} (h_x2 : xs 2 = x2) (q1_x2 : (-2147483648 : Int) ≤ x2.toInt) (q2_x2 : x2.toInt ≤ (-1 : Int)) {x3 : Int32} (h_x3 : xs 3 = x3) (q1_x3 : (0 : Int) ≤ x3.toInt) (q2_x3 : x3.toInt ≤ (17 : Int)) {x4 : Int32} (h_x4 : xs 4 = x4) (q1_x4 : (0 : Int) ≤ x4.toInt) (q2_x4 : x4.toInt ≤ (99 : Int)) {x5 : Int32} (h_x5 : xs 5 = x5) (q1_x5 : (-2147483648 : Int) ≤ x5.toInt) (q2_x5 : x5.toInt ≤ (-1 : Int)) (kk : ∀ σ', zx p l e room_1 s m args below meth c g 8 600002 7302232 Q σ' 1395 [(4, .int 0), (0, .ref bS)] []) : zx p l e room_1 s m args below meth c g 8 500 100000 Q σ 252 [(4, .int 0), (3, .ref (b + 431)), (2, .ref (b + 405)), (1, .ref (b + 0)), (0, .ref bS)] [] := by
  have hK := fz_lay hF
  refine z_eqs (σ' := (ap b σ [] [] [])) rfl ?_
  refine z_aload_n B dL_law_252 rfl 3 rfl ?_
  refine z_aload_n B dL_law_253 rfl 4 rfl ?_
  refine z_iload B dL_law_254 0 rfl ?_
  refine z_iconst (v := 1) B dL_law_256 (by decide) ?_
  refine z_iadd B dL_law_257 ?_
  refine z_seti (y := 1) (by decide) ?_
  refine z_sld (j := 1) (x := 0) B hX hbl hbA (by decide) (show ¬ ((1 : Int32) < 0 ∨ 6 ≤ (1 : Int32).toNatClampNeg) by decide) h_x1 dL_law_258 ?_
  refine z_aload_n B dL_law_259 rfl 4 rfl ?_
  refine z_iload B dL_law_260 0 rfl ?_
  refine z_iconst (v := 2) B dL_law_262 (by decide) ?_
  refine z_iadd B dL_law_263 ?_
  refine z_seti (y := 2) (by decide) ?_
  refine z_sld (j := 2) (x := x2) B hX hbl hbA (by decide) (show ¬ ((2 : Int32) < 0 ∨ 6 ≤ (2 : Int32).toNatClampNeg) by decide) h_x2 dL_law_264 ?_
  refine z_aload_n B dL_law_265 rfl 4 rfl ?_
  refine z_iload B dL_law_266 0 rfl ?_
  refine z_iconst (v := 3) B dL_law_268 (by decide) ?_
  refine z_iadd B dL_law_269 ?_
  refine z_seti (y := 3) (by decide) ?_
  refine z_sld (j := 3) (x := x3) B hX hbl hbA (by decide) (show ¬ ((3 : Int32) < 0 ∨ 6 ≤ (3 : Int32).toNatClampNeg) by decide) h_x3 dL_law_270 ?_
  refine z_aload_n B dL_law_271 rfl 4 rfl ?_
  refine z_iload B dL_law_272 0 rfl ?_
  refine z_iconst (v := 4) B dL_law_274 (by decide) ?_
  refine z_iadd B dL_law_275 ?_
  refine z_seti (y := 4) (by decide) ?_
  refine z_sld (j := 4) (x := x4) B hX hbl hbA (by decide) (show ¬ ((4 : Int32) < 0 ∨ 6 ≤ (4 : Int32).toNatClampNeg) by decide) h_x4 dL_law_276 ?_
  refine z_aload_n B dL_law_277 rfl 4 rfl ?_
  refine z_iload B dL_law_278 0 rfl ?_
  refine z_iconst (v := 5) B dL_law_280 (by decide) ?_
  refine z_iadd B dL_law_281 ?_
  refine z_seti (y := 5) (by decide) ?_
  refine z_sld (j := 5) (x := x5) B hX hbl hbA (by decide) (show ¬ ((5 : Int32) < 0 ∨ 6 ≤ (5 : Int32).toNatClampNeg) by decide) h_x5 dL_law_282 ?_
  refine z_aload_n B dL_law_283 rfl 1 rfl ?_
  refine z_cSWi (As := [.ref (b + 0), .int 0, .int x2, .int x3, .int x4, .int x5, .ref (b + 431)]) (rest := []) B cw_L_84 dL_law_284 (ci_L_check_389 l hlt (σ := (ap b σ [] [] [])) (b := b) (lyA hK) x2 x3 x4 x5 q1_x2 q2_x2 (rR_at 0 0 (fz_R hF 0 0 rfl rfl)) (rR_at 1 0 (fz_R hF 1 0 rfl rfl))) rfl (by decide) rfl (Nat.le_of_ble_eq_true rfl) (by decide) (fun r u hu => ?_)
  obtain ⟨hu1, z, hu⟩ := hu
  refine z_eqs (σ' := (ap b (wx_Z σ z) [] [] [])) (hu.trans az_ap) ?_
  show zx p l e _ s m _ below meth c g 8 _ _ _ _ 287 [(4, .int 0), (3, .ref (b + 431)), (2, .ref (b + 405)), (1, .ref (b + 0)), (0, .ref bS)] _
  refine z_seti (y := 1) hu1 ?_
  refine z_istore (lv' := [(5, .int 1), (4, .int 0), (3, .ref (b + 431)), (2, .ref (b + 405)), (1, .ref (b + 0)), (0, .ref bS)]) B dL_law_287 (by decide) rfl ?_
  refine z_aload_n B dL_law_289 rfl 3 rfl ?_
  refine z_aload_n B dL_law_290 rfl 5 rfl ?_
  refine z_iload B dL_law_291 1 rfl ?_
  refine z_iconst (v := 1) B dL_law_293 (by decide) ?_
  refine z_iadd B dL_law_294 ?_
  refine z_seti (y := 1) (by decide) ?_
  refine z_sld (j := 1) (x := 0) B hX hbl hbA (by decide) (show ¬ ((1 : Int32) < 0 ∨ 6 ≤ (1 : Int32).toNatClampNeg) by decide) h_x1 dL_law_295 ?_
  refine z_aload_n B dL_law_296 rfl 5 rfl ?_
  refine z_iload B dL_law_297 1 rfl ?_
  refine z_iconst (v := 2) B dL_law_299 (by decide) ?_
  refine z_iadd B dL_law_300 ?_
  refine z_seti (y := 2) (by decide) ?_
  refine z_sld (j := 2) (x := x2) B hX hbl hbA (by decide) (show ¬ ((2 : Int32) < 0 ∨ 6 ≤ (2 : Int32).toNatClampNeg) by decide) h_x2 dL_law_301 ?_
  refine z_aload_n B dL_law_302 rfl 5 rfl ?_
  refine z_iload B dL_law_303 1 rfl ?_
  refine z_iconst (v := 3) B dL_law_305 (by decide) ?_
  refine z_iadd B dL_law_306 ?_
  refine z_seti (y := 3) (by decide) ?_
  refine z_sld (j := 3) (x := x3) B hX hbl hbA (by decide) (show ¬ ((3 : Int32) < 0 ∨ 6 ≤ (3 : Int32).toNatClampNeg) by decide) h_x3 dL_law_307 ?_
  refine z_aload_n B dL_law_308 rfl 5 rfl ?_
  refine z_iload B dL_law_309 1 rfl ?_
  refine z_iconst (v := 4) B dL_law_311 (by decide) ?_
  refine z_iadd B dL_law_312 ?_
  refine z_seti (y := 4) (by decide) ?_
  refine z_sld (j := 4) (x := x4) B hX hbl hbA (by decide) (show ¬ ((4 : Int32) < 0 ∨ 6 ≤ (4 : Int32).toNatClampNeg) by decide) h_x4 dL_law_313 ?_
  refine z_aload_n B dL_law_314 rfl 5 rfl ?_
  refine z_iload B dL_law_315 1 rfl ?_
  refine z_iconst (v := 5) B dL_law_317 (by decide) ?_
  refine z_iadd B dL_law_318 ?_
  refine z_seti (y := 5) (by decide) ?_
  refine z_sld (j := 5) (x := x5) B hX hbl hbA (by decide) (show ¬ ((5 : Int32) < 0 ∨ 6 ≤ (5 : Int32).toNatClampNeg) by decide) h_x5 dL_law_319 ?_
  refine z_cVi (As := [.int 0, .int x2, .int x3, .int x4, .int x5]) (rest := []) B cw_L_86 cx_10 dL_law_320 (ci_X9_check_392 l (σ := (ap b (wx_Z σ z) [] [] [])) (b := b) (lyA (lyZ hK)) x2 x3 x4 x5 q1_x2 q2_x2 q1_x3 q2_x3 q1_x4 q2_x4 q1_x5 q2_x5) (lKA (lKZ (hk_K hK 405 rfl rfl))) rfl (by decide) rfl (Nat.le_of_ble_eq_true rfl) (by decide) (fun r u hu => ?_)
  refine z_eqs (σ' := (ap b (wx_Z σ z) [(405, 0, 1)] [] [])) (hu.2.trans ap_ap) ?_
  show zx p l e _ s m _ below meth c g 8 _ _ _ _ 323 [(5, .int 1), (4, .int 0), (3, .ref (b + 431)), (2, .ref (b + 405)), (1, .ref (b + 0)), (0, .ref bS)] _
  refine z_seti (y := 0) hu.1 ?_
  refine z_istore (lv' := [(6, .int 0), (5, .int 1), (4, .int 0), (3, .ref (b + 431)), (2, .ref (b + 405)), (1, .ref (b + 0)), (0, .ref bS)]) B dL_law_323 (by decide) rfl ?_
  refine z_aload_n B dL_law_325 rfl 4 rfl ?_
  refine z_cVi (As := []) (rest := []) B cw_L_80 cx_10 dL_law_326 (ci_X9_thrown_31 l (σ := (ap b (wx_Z σ z) [(405, 0, 1)] [] [])) (b := b) (lyA (lyZ hK)) (rI_at 405 0 rfl)) (lKA (lKZ (hk_K hK 405 rfl rfl))) rfl (by decide) rfl (Nat.le_of_ble_eq_true rfl) (by decide) (fun r u hu => ?_)
  refine z_eqs (σ' := (ap b (wx_Z σ z) [(405, 0, 1)] [] [])) hu.2 ?_
  show zx p l e _ s m _ below meth c g 8 _ _ _ _ 329 [(6, .int 0), (5, .int 1), (4, .int 0), (3, .ref (b + 431)), (2, .ref (b + 405)), (1, .ref (b + 0)), (0, .ref bS)] _
  refine z_seti (y := 1) hu.1 ?_
  refine z_iload B dL_law_329 1 rfl ?_
  refine z_icmp_eq (tgt := 336) B dL_law_331 (by decide) (fun _ => ?_) (fun h => absurd (by decide) h)
  refine z_iload B dL_law_336 1 rfl ?_
  refine z_if_ne (tgt := 353) B dL_law_338 (by decide) (fun _ => ?_) (fun h => absurd h (by decide))
  refine z_goto (tgt := 1395) B dL_law_353 (by decide) ?_
  exact z_widen (Nat.le_of_ble_eq_true rfl) (Nat.le_of_ble_eq_true rfl) (z_sub _ [2, 6] rfl (kk _))
set_option maxRecDepth 100000 in
set_option maxHeartbeats 4000000 in
theorem lf_1_150 {p : Program} {l : Launch} {e : Env} {s : State} {m : MethodId} {args : Array Value} {below : List Frame} {meth : Method} {c : Code} {g : gx_T} {Q : State → Prop} {σ : sx_T} {b t bS : Nat} {xs : Nat → Int32} (hlt : l.stackTraces = false) (B : zx_B p s m args meth c code RL 8 g) (hX : va_X bS 6 xs s s.heap) (hbl : bS < s.heap.size) (hbA : ¬ gx_b g ≤ bS) (hF : fz_P b t σ) (h_x1 : xs 1 = 0) {x2 : Int32} (h_x2 : xs 2 = x2) (q1_x2 : (-2147483648 : Int) ≤ x2.toInt) (q2_x2 : x2.toInt ≤ (-1 : Int)) {x3 : Int32} (h_x3 : xs 3 = x3) (q1_x3 : (0 : Int) ≤ x3.toInt) (q2_x3 : x3.toInt ≤ (17 : Int)) {x4 : Int32} (h_x4 : xs 4 = x4) (q1_x4 : (0 : Int) ≤ x4.toInt) (q2_x4 : x4.toInt ≤ (99 : Int)) {x5 : Int32} (h_x5 : xs 5 = x5) (q1_x5 : (0 : Int) ≤ x5.toInt) (q2_x5 : x5.toInt ≤ (99 : Int)) (kk : ∀ σ', zx p l e room_1 s m args below meth c g 8 600002 7302232 Q σ' 1395 [(4, .int 0), (0, .ref bS)] []) : zx p l e room_1 s m args below meth c g 8 500 100000 Q σ 252 [(4, .int 0), (3, .ref (b + 431)), (2, .ref (b + 405)), (1, .ref (b + 0)), (0, .ref bS)] [] := by
  have hK := fz_lay hF
  refine z_eqs (σ' := (ap b σ [] [] [])) rfl ?_
  refine z_aload_n B dL_law_252 rfl 3 rfl ?_
  refine z_aload_n B dL_law_253 rfl 4 rfl ?_
  refine z_iload B dL_law_254 0 rfl ?_
  refine z_iconst (v := 1) B dL_law_256 (by decide) ?_
  refine z_iadd B dL_law_257 ?_
  refine z_seti (y := 1) (by decide) ?_
  refine z_sld (j := 1) (x := 0) B hX hbl hbA (by decide) (show ¬ ((1 : Int32) < 0 ∨ 6 ≤ (1 : Int32).toNatClampNeg) by decide) h_x1 dL_law_258 ?_
  refine z_aload_n B dL_law_259 rfl 4 rfl ?_
  refine z_iload B dL_law_260 0 rfl ?_
  refine z_iconst (v := 2) B dL_law_262 (by decide) ?_
  refine z_iadd B dL_law_263 ?_
  refine z_seti (y := 2) (by decide) ?_
  refine z_sld (j := 2) (x := x2) B hX hbl hbA (by decide) (show ¬ ((2 : Int32) < 0 ∨ 6 ≤ (2 : Int32).toNatClampNeg) by decide) h_x2 dL_law_264 ?_
  refine z_aload_n B dL_law_265 rfl 4 rfl ?_
  refine z_iload B dL_law_266 0 rfl ?_
  refine z_iconst (v := 3) B dL_law_268 (by decide) ?_
  refine z_iadd B dL_law_269 ?_
  refine z_seti (y := 3) (by decide) ?_
  refine z_sld (j := 3) (x := x3) B hX hbl hbA (by decide) (show ¬ ((3 : Int32) < 0 ∨ 6 ≤ (3 : Int32).toNatClampNeg) by decide) h_x3 dL_law_270 ?_
  refine z_aload_n B dL_law_271 rfl 4 rfl ?_
  refine z_iload B dL_law_272 0 rfl ?_
  refine z_iconst (v := 4) B dL_law_274 (by decide) ?_
  refine z_iadd B dL_law_275 ?_
  refine z_seti (y := 4) (by decide) ?_
  refine z_sld (j := 4) (x := x4) B hX hbl hbA (by decide) (show ¬ ((4 : Int32) < 0 ∨ 6 ≤ (4 : Int32).toNatClampNeg) by decide) h_x4 dL_law_276 ?_
  refine z_aload_n B dL_law_277 rfl 4 rfl ?_
  refine z_iload B dL_law_278 0 rfl ?_
  refine z_iconst (v := 5) B dL_law_280 (by decide) ?_
  refine z_iadd B dL_law_281 ?_
  refine z_seti (y := 5) (by decide) ?_
  refine z_sld (j := 5) (x := x5) B hX hbl hbA (by decide) (show ¬ ((5 : Int32) < 0 ∨ 6 ≤ (5 : Int32).toNatClampNeg) by decide) h_x5 dL_law_282 ?_
  refine z_aload_n B dL_law_283 rfl 1 rfl ?_
  refine z_cSWi (As := [.ref (b + 0), .int 0, .int x2, .int x3, .int x4, .int x5, .ref (b + 431)]) (rest := []) B cw_L_84 dL_law_284 (ci_L_check_389 l hlt (σ := (ap b σ [] [] [])) (b := b) (lyA hK) x2 x3 x4 x5 q1_x2 q2_x2 (rR_at 0 0 (fz_R hF 0 0 rfl rfl)) (rR_at 1 0 (fz_R hF 1 0 rfl rfl))) rfl (by decide) rfl (Nat.le_of_ble_eq_true rfl) (by decide) (fun r u hu => ?_)
  obtain ⟨hu1, z, hu⟩ := hu
  refine z_eqs (σ' := (ap b (wx_Z σ z) [] [] [])) (hu.trans az_ap) ?_
  show zx p l e _ s m _ below meth c g 8 _ _ _ _ 287 [(4, .int 0), (3, .ref (b + 431)), (2, .ref (b + 405)), (1, .ref (b + 0)), (0, .ref bS)] _
  refine z_seti (y := 1) hu1 ?_
  refine z_istore (lv' := [(5, .int 1), (4, .int 0), (3, .ref (b + 431)), (2, .ref (b + 405)), (1, .ref (b + 0)), (0, .ref bS)]) B dL_law_287 (by decide) rfl ?_
  refine z_aload_n B dL_law_289 rfl 3 rfl ?_
  refine z_aload_n B dL_law_290 rfl 5 rfl ?_
  refine z_iload B dL_law_291 1 rfl ?_
  refine z_iconst (v := 1) B dL_law_293 (by decide) ?_
  refine z_iadd B dL_law_294 ?_
  refine z_seti (y := 1) (by decide) ?_
  refine z_sld (j := 1) (x := 0) B hX hbl hbA (by decide) (show ¬ ((1 : Int32) < 0 ∨ 6 ≤ (1 : Int32).toNatClampNeg) by decide) h_x1 dL_law_295 ?_
  refine z_aload_n B dL_law_296 rfl 5 rfl ?_
  refine z_iload B dL_law_297 1 rfl ?_
  refine z_iconst (v := 2) B dL_law_299 (by decide) ?_
  refine z_iadd B dL_law_300 ?_
  refine z_seti (y := 2) (by decide) ?_
  refine z_sld (j := 2) (x := x2) B hX hbl hbA (by decide) (show ¬ ((2 : Int32) < 0 ∨ 6 ≤ (2 : Int32).toNatClampNeg) by decide) h_x2 dL_law_301 ?_
  refine z_aload_n B dL_law_302 rfl 5 rfl ?_
  refine z_iload B dL_law_303 1 rfl ?_
  refine z_iconst (v := 3) B dL_law_305 (by decide) ?_
  refine z_iadd B dL_law_306 ?_
  refine z_seti (y := 3) (by decide) ?_
  refine z_sld (j := 3) (x := x3) B hX hbl hbA (by decide) (show ¬ ((3 : Int32) < 0 ∨ 6 ≤ (3 : Int32).toNatClampNeg) by decide) h_x3 dL_law_307 ?_
  refine z_aload_n B dL_law_308 rfl 5 rfl ?_
  refine z_iload B dL_law_309 1 rfl ?_
  refine z_iconst (v := 4) B dL_law_311 (by decide) ?_
  refine z_iadd B dL_law_312 ?_
  refine z_seti (y := 4) (by decide) ?_
  refine z_sld (j := 4) (x := x4) B hX hbl hbA (by decide) (show ¬ ((4 : Int32) < 0 ∨ 6 ≤ (4 : Int32).toNatClampNeg) by decide) h_x4 dL_law_313 ?_
  refine z_aload_n B dL_law_314 rfl 5 rfl ?_
  refine z_iload B dL_law_315 1 rfl ?_
  refine z_iconst (v := 5) B dL_law_317 (by decide) ?_
  refine z_iadd B dL_law_318 ?_
  refine z_seti (y := 5) (by decide) ?_
  refine z_sld (j := 5) (x := x5) B hX hbl hbA (by decide) (show ¬ ((5 : Int32) < 0 ∨ 6 ≤ (5 : Int32).toNatClampNeg) by decide) h_x5 dL_law_319 ?_
  refine z_cVi (As := [.int 0, .int x2, .int x3, .int x4, .int x5]) (rest := []) B cw_L_86 cx_10 dL_law_320 (ci_X9_check_393 l (σ := (ap b (wx_Z σ z) [] [] [])) (b := b) (lyA (lyZ hK)) x2 x3 x4 x5 q1_x2 q2_x2 q1_x3 q2_x3 q1_x4 q2_x4 q1_x5 q2_x5) (lKA (lKZ (hk_K hK 405 rfl rfl))) rfl (by decide) rfl (Nat.le_of_ble_eq_true rfl) (by decide) (fun r u hu => ?_)
  refine z_eqs (σ' := (ap b (wx_Z σ z) [(405, 0, 1)] [] [])) (hu.2.trans ap_ap) ?_
  show zx p l e _ s m _ below meth c g 8 _ _ _ _ 323 [(5, .int 1), (4, .int 0), (3, .ref (b + 431)), (2, .ref (b + 405)), (1, .ref (b + 0)), (0, .ref bS)] _
  refine z_seti (y := 0) hu.1 ?_
  refine z_istore (lv' := [(6, .int 0), (5, .int 1), (4, .int 0), (3, .ref (b + 431)), (2, .ref (b + 405)), (1, .ref (b + 0)), (0, .ref bS)]) B dL_law_323 (by decide) rfl ?_
  refine z_aload_n B dL_law_325 rfl 4 rfl ?_
  refine z_cVi (As := []) (rest := []) B cw_L_80 cx_10 dL_law_326 (ci_X9_thrown_31 l (σ := (ap b (wx_Z σ z) [(405, 0, 1)] [] [])) (b := b) (lyA (lyZ hK)) (rI_at 405 0 rfl)) (lKA (lKZ (hk_K hK 405 rfl rfl))) rfl (by decide) rfl (Nat.le_of_ble_eq_true rfl) (by decide) (fun r u hu => ?_)
  refine z_eqs (σ' := (ap b (wx_Z σ z) [(405, 0, 1)] [] [])) hu.2 ?_
  show zx p l e _ s m _ below meth c g 8 _ _ _ _ 329 [(6, .int 0), (5, .int 1), (4, .int 0), (3, .ref (b + 431)), (2, .ref (b + 405)), (1, .ref (b + 0)), (0, .ref bS)] _
  refine z_seti (y := 1) hu.1 ?_
  refine z_iload B dL_law_329 1 rfl ?_
  refine z_icmp_eq (tgt := 336) B dL_law_331 (by decide) (fun _ => ?_) (fun h => absurd (by decide) h)
  refine z_iload B dL_law_336 1 rfl ?_
  refine z_if_ne (tgt := 353) B dL_law_338 (by decide) (fun _ => ?_) (fun h => absurd h (by decide))
  refine z_goto (tgt := 1395) B dL_law_353 (by decide) ?_
  exact z_widen (Nat.le_of_ble_eq_true rfl) (Nat.le_of_ble_eq_true rfl) (z_sub _ [2, 6] rfl (kk _))
set_option maxRecDepth 100000 in
set_option maxHeartbeats 4000000 in
theorem lf_1_151 {p : Program} {l : Launch} {e : Env} {s : State} {m : MethodId} {args : Array Value} {below : List Frame} {meth : Method} {c : Code} {g : gx_T} {Q : State → Prop} {σ : sx_T} {b t bS : Nat} {xs : Nat → Int32} (hlt : l.stackTraces = false) (B : zx_B p s m args meth c code RL 8 g) (hX : va_X bS 6 xs s s.heap) (hbl : bS < s.heap.size) (hbA : ¬ gx_b g ≤ bS) (hF : fz_P b t σ) (h_x1 : xs 1 = 0) {x2 : Int32} (h_x2 : xs 2 = x2) (q1_x2 : (-2147483648 : Int) ≤ x2.toInt) (q2_x2 : x2.toInt ≤ (-1 : Int)) {x3 : Int32} (h_x3 : xs 3 = x3) (q1_x3 : (0 : Int) ≤ x3.toInt) (q2_x3 : x3.toInt ≤ (17 : Int)) {x4 : Int32} (h_x4 : xs 4 = x4) (q1_x4 : (0 : Int) ≤ x4.toInt) (q2_x4 : x4.toInt ≤ (99 : Int)) {x5 : Int32} (h_x5 : xs 5 = x5) (q1_x5 : (100 : Int) ≤ x5.toInt) (q2_x5 : x5.toInt ≤ (2147483647 : Int)) (kk : ∀ σ', zx p l e room_1 s m args below meth c g 8 600002 7302232 Q σ' 1395 [(4, .int 0), (0, .ref bS)] []) : zx p l e room_1 s m args below meth c g 8 500 100000 Q σ 252 [(4, .int 0), (3, .ref (b + 431)), (2, .ref (b + 405)), (1, .ref (b + 0)), (0, .ref bS)] [] := by
  have hK := fz_lay hF
  refine z_eqs (σ' := (ap b σ [] [] [])) rfl ?_
  refine z_aload_n B dL_law_252 rfl 3 rfl ?_
  refine z_aload_n B dL_law_253 rfl 4 rfl ?_
  refine z_iload B dL_law_254 0 rfl ?_
  refine z_iconst (v := 1) B dL_law_256 (by decide) ?_
  refine z_iadd B dL_law_257 ?_
  refine z_seti (y := 1) (by decide) ?_
  refine z_sld (j := 1) (x := 0) B hX hbl hbA (by decide) (show ¬ ((1 : Int32) < 0 ∨ 6 ≤ (1 : Int32).toNatClampNeg) by decide) h_x1 dL_law_258 ?_
  refine z_aload_n B dL_law_259 rfl 4 rfl ?_
  refine z_iload B dL_law_260 0 rfl ?_
  refine z_iconst (v := 2) B dL_law_262 (by decide) ?_
  refine z_iadd B dL_law_263 ?_
  refine z_seti (y := 2) (by decide) ?_
  refine z_sld (j := 2) (x := x2) B hX hbl hbA (by decide) (show ¬ ((2 : Int32) < 0 ∨ 6 ≤ (2 : Int32).toNatClampNeg) by decide) h_x2 dL_law_264 ?_
  refine z_aload_n B dL_law_265 rfl 4 rfl ?_
  refine z_iload B dL_law_266 0 rfl ?_
  refine z_iconst (v := 3) B dL_law_268 (by decide) ?_
  refine z_iadd B dL_law_269 ?_
  refine z_seti (y := 3) (by decide) ?_
  refine z_sld (j := 3) (x := x3) B hX hbl hbA (by decide) (show ¬ ((3 : Int32) < 0 ∨ 6 ≤ (3 : Int32).toNatClampNeg) by decide) h_x3 dL_law_270 ?_
  refine z_aload_n B dL_law_271 rfl 4 rfl ?_
  refine z_iload B dL_law_272 0 rfl ?_
  refine z_iconst (v := 4) B dL_law_274 (by decide) ?_
  refine z_iadd B dL_law_275 ?_
  refine z_seti (y := 4) (by decide) ?_
  refine z_sld (j := 4) (x := x4) B hX hbl hbA (by decide) (show ¬ ((4 : Int32) < 0 ∨ 6 ≤ (4 : Int32).toNatClampNeg) by decide) h_x4 dL_law_276 ?_
  refine z_aload_n B dL_law_277 rfl 4 rfl ?_
  refine z_iload B dL_law_278 0 rfl ?_
  refine z_iconst (v := 5) B dL_law_280 (by decide) ?_
  refine z_iadd B dL_law_281 ?_
  refine z_seti (y := 5) (by decide) ?_
  refine z_sld (j := 5) (x := x5) B hX hbl hbA (by decide) (show ¬ ((5 : Int32) < 0 ∨ 6 ≤ (5 : Int32).toNatClampNeg) by decide) h_x5 dL_law_282 ?_
  refine z_aload_n B dL_law_283 rfl 1 rfl ?_
  refine z_cSWi (As := [.ref (b + 0), .int 0, .int x2, .int x3, .int x4, .int x5, .ref (b + 431)]) (rest := []) B cw_L_84 dL_law_284 (ci_L_check_389 l hlt (σ := (ap b σ [] [] [])) (b := b) (lyA hK) x2 x3 x4 x5 q1_x2 q2_x2 (rR_at 0 0 (fz_R hF 0 0 rfl rfl)) (rR_at 1 0 (fz_R hF 1 0 rfl rfl))) rfl (by decide) rfl (Nat.le_of_ble_eq_true rfl) (by decide) (fun r u hu => ?_)
  obtain ⟨hu1, z, hu⟩ := hu
  refine z_eqs (σ' := (ap b (wx_Z σ z) [] [] [])) (hu.trans az_ap) ?_
  show zx p l e _ s m _ below meth c g 8 _ _ _ _ 287 [(4, .int 0), (3, .ref (b + 431)), (2, .ref (b + 405)), (1, .ref (b + 0)), (0, .ref bS)] _
  refine z_seti (y := 1) hu1 ?_
  refine z_istore (lv' := [(5, .int 1), (4, .int 0), (3, .ref (b + 431)), (2, .ref (b + 405)), (1, .ref (b + 0)), (0, .ref bS)]) B dL_law_287 (by decide) rfl ?_
  refine z_aload_n B dL_law_289 rfl 3 rfl ?_
  refine z_aload_n B dL_law_290 rfl 5 rfl ?_
  refine z_iload B dL_law_291 1 rfl ?_
  refine z_iconst (v := 1) B dL_law_293 (by decide) ?_
  refine z_iadd B dL_law_294 ?_
  refine z_seti (y := 1) (by decide) ?_
  refine z_sld (j := 1) (x := 0) B hX hbl hbA (by decide) (show ¬ ((1 : Int32) < 0 ∨ 6 ≤ (1 : Int32).toNatClampNeg) by decide) h_x1 dL_law_295 ?_
  refine z_aload_n B dL_law_296 rfl 5 rfl ?_
  refine z_iload B dL_law_297 1 rfl ?_
  refine z_iconst (v := 2) B dL_law_299 (by decide) ?_
  refine z_iadd B dL_law_300 ?_
  refine z_seti (y := 2) (by decide) ?_
  refine z_sld (j := 2) (x := x2) B hX hbl hbA (by decide) (show ¬ ((2 : Int32) < 0 ∨ 6 ≤ (2 : Int32).toNatClampNeg) by decide) h_x2 dL_law_301 ?_
  refine z_aload_n B dL_law_302 rfl 5 rfl ?_
  refine z_iload B dL_law_303 1 rfl ?_
  refine z_iconst (v := 3) B dL_law_305 (by decide) ?_
  refine z_iadd B dL_law_306 ?_
  refine z_seti (y := 3) (by decide) ?_
  refine z_sld (j := 3) (x := x3) B hX hbl hbA (by decide) (show ¬ ((3 : Int32) < 0 ∨ 6 ≤ (3 : Int32).toNatClampNeg) by decide) h_x3 dL_law_307 ?_
  refine z_aload_n B dL_law_308 rfl 5 rfl ?_
  refine z_iload B dL_law_309 1 rfl ?_
  refine z_iconst (v := 4) B dL_law_311 (by decide) ?_
  refine z_iadd B dL_law_312 ?_
  refine z_seti (y := 4) (by decide) ?_
  refine z_sld (j := 4) (x := x4) B hX hbl hbA (by decide) (show ¬ ((4 : Int32) < 0 ∨ 6 ≤ (4 : Int32).toNatClampNeg) by decide) h_x4 dL_law_313 ?_
  refine z_aload_n B dL_law_314 rfl 5 rfl ?_
  refine z_iload B dL_law_315 1 rfl ?_
  refine z_iconst (v := 5) B dL_law_317 (by decide) ?_
  refine z_iadd B dL_law_318 ?_
  refine z_seti (y := 5) (by decide) ?_
  refine z_sld (j := 5) (x := x5) B hX hbl hbA (by decide) (show ¬ ((5 : Int32) < 0 ∨ 6 ≤ (5 : Int32).toNatClampNeg) by decide) h_x5 dL_law_319 ?_
  refine z_cVi (As := [.int 0, .int x2, .int x3, .int x4, .int x5]) (rest := []) B cw_L_86 cx_10 dL_law_320 (ci_X9_check_394 l (σ := (ap b (wx_Z σ z) [] [] [])) (b := b) (lyA (lyZ hK)) x2 x3 x4 x5 q1_x2 q2_x2 q1_x3 q2_x3 q1_x4 q2_x4 q1_x5 q2_x5) (lKA (lKZ (hk_K hK 405 rfl rfl))) rfl (by decide) rfl (Nat.le_of_ble_eq_true rfl) (by decide) (fun r u hu => ?_)
  refine z_eqs (σ' := (ap b (wx_Z σ z) [(405, 0, 1)] [] [])) (hu.2.trans ap_ap) ?_
  show zx p l e _ s m _ below meth c g 8 _ _ _ _ 323 [(5, .int 1), (4, .int 0), (3, .ref (b + 431)), (2, .ref (b + 405)), (1, .ref (b + 0)), (0, .ref bS)] _
  refine z_seti (y := 0) hu.1 ?_
  refine z_istore (lv' := [(6, .int 0), (5, .int 1), (4, .int 0), (3, .ref (b + 431)), (2, .ref (b + 405)), (1, .ref (b + 0)), (0, .ref bS)]) B dL_law_323 (by decide) rfl ?_
  refine z_aload_n B dL_law_325 rfl 4 rfl ?_
  refine z_cVi (As := []) (rest := []) B cw_L_80 cx_10 dL_law_326 (ci_X9_thrown_31 l (σ := (ap b (wx_Z σ z) [(405, 0, 1)] [] [])) (b := b) (lyA (lyZ hK)) (rI_at 405 0 rfl)) (lKA (lKZ (hk_K hK 405 rfl rfl))) rfl (by decide) rfl (Nat.le_of_ble_eq_true rfl) (by decide) (fun r u hu => ?_)
  refine z_eqs (σ' := (ap b (wx_Z σ z) [(405, 0, 1)] [] [])) hu.2 ?_
  show zx p l e _ s m _ below meth c g 8 _ _ _ _ 329 [(6, .int 0), (5, .int 1), (4, .int 0), (3, .ref (b + 431)), (2, .ref (b + 405)), (1, .ref (b + 0)), (0, .ref bS)] _
  refine z_seti (y := 1) hu.1 ?_
  refine z_iload B dL_law_329 1 rfl ?_
  refine z_icmp_eq (tgt := 336) B dL_law_331 (by decide) (fun _ => ?_) (fun h => absurd (by decide) h)
  refine z_iload B dL_law_336 1 rfl ?_
  refine z_if_ne (tgt := 353) B dL_law_338 (by decide) (fun _ => ?_) (fun h => absurd h (by decide))
  refine z_goto (tgt := 1395) B dL_law_353 (by decide) ?_
  exact z_widen (Nat.le_of_ble_eq_true rfl) (Nat.le_of_ble_eq_true rfl) (z_sub _ [2, 6] rfl (kk _))
set_option maxRecDepth 100000 in
set_option maxHeartbeats 4000000 in
theorem lf_1_152 {p : Program} {l : Launch} {e : Env} {s : State} {m : MethodId} {args : Array Value} {below : List Frame} {meth : Method} {c : Code} {g : gx_T} {Q : State → Prop} {σ : sx_T} {b t bS : Nat} {xs : Nat → Int32} (hlt : l.stackTraces = false) (B : zx_B p s m args meth c code RL 8 g) (hX : va_X bS 6 xs s s.heap) (hbl : bS < s.heap.size) (hbA : ¬ gx_b g ≤ bS) (hF : fz_P b t σ) (h_x1 : xs 1 = 0) {x2 : Int32} (h_x2 : xs 2 = x2) (q1_x2 : (-2147483648 : Int) ≤ x2.toInt) (q2_x2 : x2.toInt ≤ (-1 : Int)) {x3 : Int32} (h_x3 : xs 3 = x3) (q1_x3 : (0 : Int) ≤ x3.toInt) (q2_x3 : x3.toInt ≤ (17 : Int)) {x4 : Int32} (h_x4 : xs 4 = x4) (q1_x4 : (100 : Int) ≤ x4.toInt) (q2_x4 : x4.toInt ≤ (2147483647 : Int)) {x5 : Int32} (h_x5 : xs 5 = x5) (q1_x5 : (-2147483648 : Int) ≤ x5.toInt) (q2_x5 : x5.toInt ≤ (2147483647 : Int)) (kk : ∀ σ', zx p l e room_1 s m args below meth c g 8 600002 7302232 Q σ' 1395 [(4, .int 0), (0, .ref bS)] []) : zx p l e room_1 s m args below meth c g 8 500 100000 Q σ 252 [(4, .int 0), (3, .ref (b + 431)), (2, .ref (b + 405)), (1, .ref (b + 0)), (0, .ref bS)] [] := by
  have hK := fz_lay hF
  refine z_eqs (σ' := (ap b σ [] [] [])) rfl ?_
  refine z_aload_n B dL_law_252 rfl 3 rfl ?_
  refine z_aload_n B dL_law_253 rfl 4 rfl ?_
  refine z_iload B dL_law_254 0 rfl ?_
  refine z_iconst (v := 1) B dL_law_256 (by decide) ?_
  refine z_iadd B dL_law_257 ?_
  refine z_seti (y := 1) (by decide) ?_
  refine z_sld (j := 1) (x := 0) B hX hbl hbA (by decide) (show ¬ ((1 : Int32) < 0 ∨ 6 ≤ (1 : Int32).toNatClampNeg) by decide) h_x1 dL_law_258 ?_
  refine z_aload_n B dL_law_259 rfl 4 rfl ?_
  refine z_iload B dL_law_260 0 rfl ?_
  refine z_iconst (v := 2) B dL_law_262 (by decide) ?_
  refine z_iadd B dL_law_263 ?_
  refine z_seti (y := 2) (by decide) ?_
  refine z_sld (j := 2) (x := x2) B hX hbl hbA (by decide) (show ¬ ((2 : Int32) < 0 ∨ 6 ≤ (2 : Int32).toNatClampNeg) by decide) h_x2 dL_law_264 ?_
  refine z_aload_n B dL_law_265 rfl 4 rfl ?_
  refine z_iload B dL_law_266 0 rfl ?_
  refine z_iconst (v := 3) B dL_law_268 (by decide) ?_
  refine z_iadd B dL_law_269 ?_
  refine z_seti (y := 3) (by decide) ?_
  refine z_sld (j := 3) (x := x3) B hX hbl hbA (by decide) (show ¬ ((3 : Int32) < 0 ∨ 6 ≤ (3 : Int32).toNatClampNeg) by decide) h_x3 dL_law_270 ?_
  refine z_aload_n B dL_law_271 rfl 4 rfl ?_
  refine z_iload B dL_law_272 0 rfl ?_
  refine z_iconst (v := 4) B dL_law_274 (by decide) ?_
  refine z_iadd B dL_law_275 ?_
  refine z_seti (y := 4) (by decide) ?_
  refine z_sld (j := 4) (x := x4) B hX hbl hbA (by decide) (show ¬ ((4 : Int32) < 0 ∨ 6 ≤ (4 : Int32).toNatClampNeg) by decide) h_x4 dL_law_276 ?_
  refine z_aload_n B dL_law_277 rfl 4 rfl ?_
  refine z_iload B dL_law_278 0 rfl ?_
  refine z_iconst (v := 5) B dL_law_280 (by decide) ?_
  refine z_iadd B dL_law_281 ?_
  refine z_seti (y := 5) (by decide) ?_
  refine z_sld (j := 5) (x := x5) B hX hbl hbA (by decide) (show ¬ ((5 : Int32) < 0 ∨ 6 ≤ (5 : Int32).toNatClampNeg) by decide) h_x5 dL_law_282 ?_
  refine z_aload_n B dL_law_283 rfl 1 rfl ?_
  refine z_cSWi (As := [.ref (b + 0), .int 0, .int x2, .int x3, .int x4, .int x5, .ref (b + 431)]) (rest := []) B cw_L_84 dL_law_284 (ci_L_check_389 l hlt (σ := (ap b σ [] [] [])) (b := b) (lyA hK) x2 x3 x4 x5 q1_x2 q2_x2 (rR_at 0 0 (fz_R hF 0 0 rfl rfl)) (rR_at 1 0 (fz_R hF 1 0 rfl rfl))) rfl (by decide) rfl (Nat.le_of_ble_eq_true rfl) (by decide) (fun r u hu => ?_)
  obtain ⟨hu1, z, hu⟩ := hu
  refine z_eqs (σ' := (ap b (wx_Z σ z) [] [] [])) (hu.trans az_ap) ?_
  show zx p l e _ s m _ below meth c g 8 _ _ _ _ 287 [(4, .int 0), (3, .ref (b + 431)), (2, .ref (b + 405)), (1, .ref (b + 0)), (0, .ref bS)] _
  refine z_seti (y := 1) hu1 ?_
  refine z_istore (lv' := [(5, .int 1), (4, .int 0), (3, .ref (b + 431)), (2, .ref (b + 405)), (1, .ref (b + 0)), (0, .ref bS)]) B dL_law_287 (by decide) rfl ?_
  refine z_aload_n B dL_law_289 rfl 3 rfl ?_
  refine z_aload_n B dL_law_290 rfl 5 rfl ?_
  refine z_iload B dL_law_291 1 rfl ?_
  refine z_iconst (v := 1) B dL_law_293 (by decide) ?_
  refine z_iadd B dL_law_294 ?_
  refine z_seti (y := 1) (by decide) ?_
  refine z_sld (j := 1) (x := 0) B hX hbl hbA (by decide) (show ¬ ((1 : Int32) < 0 ∨ 6 ≤ (1 : Int32).toNatClampNeg) by decide) h_x1 dL_law_295 ?_
  refine z_aload_n B dL_law_296 rfl 5 rfl ?_
  refine z_iload B dL_law_297 1 rfl ?_
  refine z_iconst (v := 2) B dL_law_299 (by decide) ?_
  refine z_iadd B dL_law_300 ?_
  refine z_seti (y := 2) (by decide) ?_
  refine z_sld (j := 2) (x := x2) B hX hbl hbA (by decide) (show ¬ ((2 : Int32) < 0 ∨ 6 ≤ (2 : Int32).toNatClampNeg) by decide) h_x2 dL_law_301 ?_
  refine z_aload_n B dL_law_302 rfl 5 rfl ?_
  refine z_iload B dL_law_303 1 rfl ?_
  refine z_iconst (v := 3) B dL_law_305 (by decide) ?_
  refine z_iadd B dL_law_306 ?_
  refine z_seti (y := 3) (by decide) ?_
  refine z_sld (j := 3) (x := x3) B hX hbl hbA (by decide) (show ¬ ((3 : Int32) < 0 ∨ 6 ≤ (3 : Int32).toNatClampNeg) by decide) h_x3 dL_law_307 ?_
  refine z_aload_n B dL_law_308 rfl 5 rfl ?_
  refine z_iload B dL_law_309 1 rfl ?_
  refine z_iconst (v := 4) B dL_law_311 (by decide) ?_
  refine z_iadd B dL_law_312 ?_
  refine z_seti (y := 4) (by decide) ?_
  refine z_sld (j := 4) (x := x4) B hX hbl hbA (by decide) (show ¬ ((4 : Int32) < 0 ∨ 6 ≤ (4 : Int32).toNatClampNeg) by decide) h_x4 dL_law_313 ?_
  refine z_aload_n B dL_law_314 rfl 5 rfl ?_
  refine z_iload B dL_law_315 1 rfl ?_
  refine z_iconst (v := 5) B dL_law_317 (by decide) ?_
  refine z_iadd B dL_law_318 ?_
  refine z_seti (y := 5) (by decide) ?_
  refine z_sld (j := 5) (x := x5) B hX hbl hbA (by decide) (show ¬ ((5 : Int32) < 0 ∨ 6 ≤ (5 : Int32).toNatClampNeg) by decide) h_x5 dL_law_319 ?_
  refine z_cVi (As := [.int 0, .int x2, .int x3, .int x4, .int x5]) (rest := []) B cw_L_86 cx_10 dL_law_320 (ci_X9_check_395 l (σ := (ap b (wx_Z σ z) [] [] [])) (b := b) (lyA (lyZ hK)) x2 x3 x4 x5 q1_x2 q2_x2 q1_x3 q2_x3 q1_x4 q2_x4) (lKA (lKZ (hk_K hK 405 rfl rfl))) rfl (by decide) rfl (Nat.le_of_ble_eq_true rfl) (by decide) (fun r u hu => ?_)
  refine z_eqs (σ' := (ap b (wx_Z σ z) [(405, 0, 1)] [] [])) (hu.2.trans ap_ap) ?_
  show zx p l e _ s m _ below meth c g 8 _ _ _ _ 323 [(5, .int 1), (4, .int 0), (3, .ref (b + 431)), (2, .ref (b + 405)), (1, .ref (b + 0)), (0, .ref bS)] _
  refine z_seti (y := 0) hu.1 ?_
  refine z_istore (lv' := [(6, .int 0), (5, .int 1), (4, .int 0), (3, .ref (b + 431)), (2, .ref (b + 405)), (1, .ref (b + 0)), (0, .ref bS)]) B dL_law_323 (by decide) rfl ?_
  refine z_aload_n B dL_law_325 rfl 4 rfl ?_
  refine z_cVi (As := []) (rest := []) B cw_L_80 cx_10 dL_law_326 (ci_X9_thrown_31 l (σ := (ap b (wx_Z σ z) [(405, 0, 1)] [] [])) (b := b) (lyA (lyZ hK)) (rI_at 405 0 rfl)) (lKA (lKZ (hk_K hK 405 rfl rfl))) rfl (by decide) rfl (Nat.le_of_ble_eq_true rfl) (by decide) (fun r u hu => ?_)
  refine z_eqs (σ' := (ap b (wx_Z σ z) [(405, 0, 1)] [] [])) hu.2 ?_
  show zx p l e _ s m _ below meth c g 8 _ _ _ _ 329 [(6, .int 0), (5, .int 1), (4, .int 0), (3, .ref (b + 431)), (2, .ref (b + 405)), (1, .ref (b + 0)), (0, .ref bS)] _
  refine z_seti (y := 1) hu.1 ?_
  refine z_iload B dL_law_329 1 rfl ?_
  refine z_icmp_eq (tgt := 336) B dL_law_331 (by decide) (fun _ => ?_) (fun h => absurd (by decide) h)
  refine z_iload B dL_law_336 1 rfl ?_
  refine z_if_ne (tgt := 353) B dL_law_338 (by decide) (fun _ => ?_) (fun h => absurd h (by decide))
  refine z_goto (tgt := 1395) B dL_law_353 (by decide) ?_
  exact z_widen (Nat.le_of_ble_eq_true rfl) (Nat.le_of_ble_eq_true rfl) (z_sub _ [2, 6] rfl (kk _))
set_option maxRecDepth 100000 in
set_option maxHeartbeats 4000000 in
theorem lf_1_153 {p : Program} {l : Launch} {e : Env} {s : State} {m : MethodId} {args : Array Value} {below : List Frame} {meth : Method} {c : Code} {g : gx_T} {Q : State → Prop} {σ : sx_T} {b t bS : Nat} {xs : Nat → Int32} (hlt : l.stackTraces = false) (B : zx_B p s m args meth c code RL 8 g) (hX : va_X bS 6 xs s s.heap) (hbl : bS < s.heap.size) (hbA : ¬ gx_b g ≤ bS) (hF : fz_P b t σ) (h_x1 : xs 1 = 0) {x2 : Int32} (h_x2 : xs 2 = x2) (q1_x2 : (-2147483648 : Int) ≤ x2.toInt) (q2_x2 : x2.toInt ≤ (-1 : Int)) {x3 : Int32} (h_x3 : xs 3 = x3) (q1_x3 : (18 : Int) ≤ x3.toInt) (q2_x3 : x3.toInt ≤ (2147483647 : Int)) {x4 : Int32} (h_x4 : xs 4 = x4) (q1_x4 : (-2147483648 : Int) ≤ x4.toInt) (q2_x4 : x4.toInt ≤ (2147483647 : Int)) {x5 : Int32} (h_x5 : xs 5 = x5) (q1_x5 : (-2147483648 : Int) ≤ x5.toInt) (q2_x5 : x5.toInt ≤ (2147483647 : Int)) (kk : ∀ σ', zx p l e room_1 s m args below meth c g 8 600002 7302232 Q σ' 1395 [(4, .int 0), (0, .ref bS)] []) : zx p l e room_1 s m args below meth c g 8 500 100000 Q σ 252 [(4, .int 0), (3, .ref (b + 431)), (2, .ref (b + 405)), (1, .ref (b + 0)), (0, .ref bS)] [] := by
  have hK := fz_lay hF
  refine z_eqs (σ' := (ap b σ [] [] [])) rfl ?_
  refine z_aload_n B dL_law_252 rfl 3 rfl ?_
  refine z_aload_n B dL_law_253 rfl 4 rfl ?_
  refine z_iload B dL_law_254 0 rfl ?_
  refine z_iconst (v := 1) B dL_law_256 (by decide) ?_
  refine z_iadd B dL_law_257 ?_
  refine z_seti (y := 1) (by decide) ?_
  refine z_sld (j := 1) (x := 0) B hX hbl hbA (by decide) (show ¬ ((1 : Int32) < 0 ∨ 6 ≤ (1 : Int32).toNatClampNeg) by decide) h_x1 dL_law_258 ?_
  refine z_aload_n B dL_law_259 rfl 4 rfl ?_
  refine z_iload B dL_law_260 0 rfl ?_
  refine z_iconst (v := 2) B dL_law_262 (by decide) ?_
  refine z_iadd B dL_law_263 ?_
  refine z_seti (y := 2) (by decide) ?_
  refine z_sld (j := 2) (x := x2) B hX hbl hbA (by decide) (show ¬ ((2 : Int32) < 0 ∨ 6 ≤ (2 : Int32).toNatClampNeg) by decide) h_x2 dL_law_264 ?_
  refine z_aload_n B dL_law_265 rfl 4 rfl ?_
  refine z_iload B dL_law_266 0 rfl ?_
  refine z_iconst (v := 3) B dL_law_268 (by decide) ?_
  refine z_iadd B dL_law_269 ?_
  refine z_seti (y := 3) (by decide) ?_
  refine z_sld (j := 3) (x := x3) B hX hbl hbA (by decide) (show ¬ ((3 : Int32) < 0 ∨ 6 ≤ (3 : Int32).toNatClampNeg) by decide) h_x3 dL_law_270 ?_
  refine z_aload_n B dL_law_271 rfl 4 rfl ?_
  refine z_iload B dL_law_272 0 rfl ?_
  refine z_iconst (v := 4) B dL_law_274 (by decide) ?_
  refine z_iadd B dL_law_275 ?_
  refine z_seti (y := 4) (by decide) ?_
  refine z_sld (j := 4) (x := x4) B hX hbl hbA (by decide) (show ¬ ((4 : Int32) < 0 ∨ 6 ≤ (4 : Int32).toNatClampNeg) by decide) h_x4 dL_law_276 ?_
  refine z_aload_n B dL_law_277 rfl 4 rfl ?_
  refine z_iload B dL_law_278 0 rfl ?_
  refine z_iconst (v := 5) B dL_law_280 (by decide) ?_
  refine z_iadd B dL_law_281 ?_
  refine z_seti (y := 5) (by decide) ?_
  refine z_sld (j := 5) (x := x5) B hX hbl hbA (by decide) (show ¬ ((5 : Int32) < 0 ∨ 6 ≤ (5 : Int32).toNatClampNeg) by decide) h_x5 dL_law_282 ?_
  refine z_aload_n B dL_law_283 rfl 1 rfl ?_
  refine z_cSWi (As := [.ref (b + 0), .int 0, .int x2, .int x3, .int x4, .int x5, .ref (b + 431)]) (rest := []) B cw_L_84 dL_law_284 (ci_L_check_389 l hlt (σ := (ap b σ [] [] [])) (b := b) (lyA hK) x2 x3 x4 x5 q1_x2 q2_x2 (rR_at 0 0 (fz_R hF 0 0 rfl rfl)) (rR_at 1 0 (fz_R hF 1 0 rfl rfl))) rfl (by decide) rfl (Nat.le_of_ble_eq_true rfl) (by decide) (fun r u hu => ?_)
  obtain ⟨hu1, z, hu⟩ := hu
  refine z_eqs (σ' := (ap b (wx_Z σ z) [] [] [])) (hu.trans az_ap) ?_
  show zx p l e _ s m _ below meth c g 8 _ _ _ _ 287 [(4, .int 0), (3, .ref (b + 431)), (2, .ref (b + 405)), (1, .ref (b + 0)), (0, .ref bS)] _
  refine z_seti (y := 1) hu1 ?_
  refine z_istore (lv' := [(5, .int 1), (4, .int 0), (3, .ref (b + 431)), (2, .ref (b + 405)), (1, .ref (b + 0)), (0, .ref bS)]) B dL_law_287 (by decide) rfl ?_
  refine z_aload_n B dL_law_289 rfl 3 rfl ?_
  refine z_aload_n B dL_law_290 rfl 5 rfl ?_
  refine z_iload B dL_law_291 1 rfl ?_
  refine z_iconst (v := 1) B dL_law_293 (by decide) ?_
  refine z_iadd B dL_law_294 ?_
  refine z_seti (y := 1) (by decide) ?_
  refine z_sld (j := 1) (x := 0) B hX hbl hbA (by decide) (show ¬ ((1 : Int32) < 0 ∨ 6 ≤ (1 : Int32).toNatClampNeg) by decide) h_x1 dL_law_295 ?_
  refine z_aload_n B dL_law_296 rfl 5 rfl ?_
  refine z_iload B dL_law_297 1 rfl ?_
  refine z_iconst (v := 2) B dL_law_299 (by decide) ?_
  refine z_iadd B dL_law_300 ?_
  refine z_seti (y := 2) (by decide) ?_
  refine z_sld (j := 2) (x := x2) B hX hbl hbA (by decide) (show ¬ ((2 : Int32) < 0 ∨ 6 ≤ (2 : Int32).toNatClampNeg) by decide) h_x2 dL_law_301 ?_
  refine z_aload_n B dL_law_302 rfl 5 rfl ?_
  refine z_iload B dL_law_303 1 rfl ?_
  refine z_iconst (v := 3) B dL_law_305 (by decide) ?_
  refine z_iadd B dL_law_306 ?_
  refine z_seti (y := 3) (by decide) ?_
  refine z_sld (j := 3) (x := x3) B hX hbl hbA (by decide) (show ¬ ((3 : Int32) < 0 ∨ 6 ≤ (3 : Int32).toNatClampNeg) by decide) h_x3 dL_law_307 ?_
  refine z_aload_n B dL_law_308 rfl 5 rfl ?_
  refine z_iload B dL_law_309 1 rfl ?_
  refine z_iconst (v := 4) B dL_law_311 (by decide) ?_
  refine z_iadd B dL_law_312 ?_
  refine z_seti (y := 4) (by decide) ?_
  refine z_sld (j := 4) (x := x4) B hX hbl hbA (by decide) (show ¬ ((4 : Int32) < 0 ∨ 6 ≤ (4 : Int32).toNatClampNeg) by decide) h_x4 dL_law_313 ?_
  refine z_aload_n B dL_law_314 rfl 5 rfl ?_
  refine z_iload B dL_law_315 1 rfl ?_
  refine z_iconst (v := 5) B dL_law_317 (by decide) ?_
  refine z_iadd B dL_law_318 ?_
  refine z_seti (y := 5) (by decide) ?_
  refine z_sld (j := 5) (x := x5) B hX hbl hbA (by decide) (show ¬ ((5 : Int32) < 0 ∨ 6 ≤ (5 : Int32).toNatClampNeg) by decide) h_x5 dL_law_319 ?_
  refine z_cVi (As := [.int 0, .int x2, .int x3, .int x4, .int x5]) (rest := []) B cw_L_86 cx_10 dL_law_320 (ci_X9_check_396 l (σ := (ap b (wx_Z σ z) [] [] [])) (b := b) (lyA (lyZ hK)) x2 x3 x4 x5 q1_x2 q2_x2 q1_x3 q2_x3) (lKA (lKZ (hk_K hK 405 rfl rfl))) rfl (by decide) rfl (Nat.le_of_ble_eq_true rfl) (by decide) (fun r u hu => ?_)
  refine z_eqs (σ' := (ap b (wx_Z σ z) [(405, 0, 1)] [] [])) (hu.2.trans ap_ap) ?_
  show zx p l e _ s m _ below meth c g 8 _ _ _ _ 323 [(5, .int 1), (4, .int 0), (3, .ref (b + 431)), (2, .ref (b + 405)), (1, .ref (b + 0)), (0, .ref bS)] _
  refine z_seti (y := 0) hu.1 ?_
  refine z_istore (lv' := [(6, .int 0), (5, .int 1), (4, .int 0), (3, .ref (b + 431)), (2, .ref (b + 405)), (1, .ref (b + 0)), (0, .ref bS)]) B dL_law_323 (by decide) rfl ?_
  refine z_aload_n B dL_law_325 rfl 4 rfl ?_
  refine z_cVi (As := []) (rest := []) B cw_L_80 cx_10 dL_law_326 (ci_X9_thrown_31 l (σ := (ap b (wx_Z σ z) [(405, 0, 1)] [] [])) (b := b) (lyA (lyZ hK)) (rI_at 405 0 rfl)) (lKA (lKZ (hk_K hK 405 rfl rfl))) rfl (by decide) rfl (Nat.le_of_ble_eq_true rfl) (by decide) (fun r u hu => ?_)
  refine z_eqs (σ' := (ap b (wx_Z σ z) [(405, 0, 1)] [] [])) hu.2 ?_
  show zx p l e _ s m _ below meth c g 8 _ _ _ _ 329 [(6, .int 0), (5, .int 1), (4, .int 0), (3, .ref (b + 431)), (2, .ref (b + 405)), (1, .ref (b + 0)), (0, .ref bS)] _
  refine z_seti (y := 1) hu.1 ?_
  refine z_iload B dL_law_329 1 rfl ?_
  refine z_icmp_eq (tgt := 336) B dL_law_331 (by decide) (fun _ => ?_) (fun h => absurd (by decide) h)
  refine z_iload B dL_law_336 1 rfl ?_
  refine z_if_ne (tgt := 353) B dL_law_338 (by decide) (fun _ => ?_) (fun h => absurd h (by decide))
  refine z_goto (tgt := 1395) B dL_law_353 (by decide) ?_
  exact z_widen (Nat.le_of_ble_eq_true rfl) (Nat.le_of_ble_eq_true rfl) (z_sub _ [2, 6] rfl (kk _))
set_option maxRecDepth 100000 in
set_option maxHeartbeats 4000000 in
theorem lf_1_154 {p : Program} {l : Launch} {e : Env} {s : State} {m : MethodId} {args : Array Value} {below : List Frame} {meth : Method} {c : Code} {g : gx_T} {Q : State → Prop} {σ : sx_T} {b t bS : Nat} {xs : Nat → Int32} (hlt : l.stackTraces = false) (B : zx_B p s m args meth c code RL 8 g) (hX : va_X bS 6 xs s s.heap) (hbl : bS < s.heap.size) (hbA : ¬ gx_b g ≤ bS) (hF : fz_P b t σ) (h_x1 : xs 1 = 0) {x2 : Int32} (h_x2 : xs 2 = x2) (q1_x2 : (0 : Int) ≤ x2.toInt) (q2_x2 : x2.toInt ≤ (19 : Int)) {x3 : Int32} (h_x3 : xs 3 = x3) (q1_x3 : (-2147483648 : Int) ≤ x3.toInt) (q2_x3 : x3.toInt ≤ (-1 : Int)) {x4 : Int32} (h_x4 : xs 4 = x4) (q1_x4 : (-2147483648 : Int) ≤ x4.toInt) (q2_x4 : x4.toInt ≤ (2147483647 : Int)) {x5 : Int32} (h_x5 : xs 5 = x5) (q1_x5 : (-2147483648 : Int) ≤ x5.toInt) (q2_x5 : x5.toInt ≤ (2147483647 : Int)) (kk : ∀ σ', zx p l e room_1 s m args below meth c g 8 600002 7302232 Q σ' 1395 [(4, .int 0), (0, .ref bS)] []) : zx p l e room_1 s m args below meth c g 8 500 100000 Q σ 252 [(4, .int 0), (3, .ref (b + 431)), (2, .ref (b + 405)), (1, .ref (b + 0)), (0, .ref bS)] [] := by
  have hK := fz_lay hF
  refine z_eqs (σ' := (ap b σ [] [] [])) rfl ?_
  refine z_aload_n B dL_law_252 rfl 3 rfl ?_
  refine z_aload_n B dL_law_253 rfl 4 rfl ?_
  refine z_iload B dL_law_254 0 rfl ?_
  refine z_iconst (v := 1) B dL_law_256 (by decide) ?_
  refine z_iadd B dL_law_257 ?_
  refine z_seti (y := 1) (by decide) ?_
  refine z_sld (j := 1) (x := 0) B hX hbl hbA (by decide) (show ¬ ((1 : Int32) < 0 ∨ 6 ≤ (1 : Int32).toNatClampNeg) by decide) h_x1 dL_law_258 ?_
  refine z_aload_n B dL_law_259 rfl 4 rfl ?_
  refine z_iload B dL_law_260 0 rfl ?_
  refine z_iconst (v := 2) B dL_law_262 (by decide) ?_
  refine z_iadd B dL_law_263 ?_
  refine z_seti (y := 2) (by decide) ?_
  refine z_sld (j := 2) (x := x2) B hX hbl hbA (by decide) (show ¬ ((2 : Int32) < 0 ∨ 6 ≤ (2 : Int32).toNatClampNeg) by decide) h_x2 dL_law_264 ?_
  refine z_aload_n B dL_law_265 rfl 4 rfl ?_
  refine z_iload B dL_law_266 0 rfl ?_
  refine z_iconst (v := 3) B dL_law_268 (by decide) ?_
  refine z_iadd B dL_law_269 ?_
  refine z_seti (y := 3) (by decide) ?_
  refine z_sld (j := 3) (x := x3) B hX hbl hbA (by decide) (show ¬ ((3 : Int32) < 0 ∨ 6 ≤ (3 : Int32).toNatClampNeg) by decide) h_x3 dL_law_270 ?_
  refine z_aload_n B dL_law_271 rfl 4 rfl ?_
  refine z_iload B dL_law_272 0 rfl ?_
  refine z_iconst (v := 4) B dL_law_274 (by decide) ?_
  refine z_iadd B dL_law_275 ?_
  refine z_seti (y := 4) (by decide) ?_
  refine z_sld (j := 4) (x := x4) B hX hbl hbA (by decide) (show ¬ ((4 : Int32) < 0 ∨ 6 ≤ (4 : Int32).toNatClampNeg) by decide) h_x4 dL_law_276 ?_
  refine z_aload_n B dL_law_277 rfl 4 rfl ?_
  refine z_iload B dL_law_278 0 rfl ?_
  refine z_iconst (v := 5) B dL_law_280 (by decide) ?_
  refine z_iadd B dL_law_281 ?_
  refine z_seti (y := 5) (by decide) ?_
  refine z_sld (j := 5) (x := x5) B hX hbl hbA (by decide) (show ¬ ((5 : Int32) < 0 ∨ 6 ≤ (5 : Int32).toNatClampNeg) by decide) h_x5 dL_law_282 ?_
  refine z_aload_n B dL_law_283 rfl 1 rfl ?_
  refine z_cSWi (As := [.ref (b + 0), .int 0, .int x2, .int x3, .int x4, .int x5, .ref (b + 431)]) (rest := []) B cw_L_84 dL_law_284 (ci_L_check_398 l hlt (σ := (ap b σ [] [] [])) (b := b) (lyA hK) x2 x3 x4 x5 q1_x2 q2_x2 q1_x3 q2_x3 (rR_at 0 0 (fz_R hF 0 0 rfl rfl)) (rR_at 1 0 (fz_R hF 1 0 rfl rfl))) rfl (by decide) rfl (Nat.le_of_ble_eq_true rfl) (by decide) (fun r u hu => ?_)
  obtain ⟨hu1, z, hu⟩ := hu
  refine z_eqs (σ' := (ap b (wx_Z σ z) [] [] [])) (hu.trans az_ap) ?_
  show zx p l e _ s m _ below meth c g 8 _ _ _ _ 287 [(4, .int 0), (3, .ref (b + 431)), (2, .ref (b + 405)), (1, .ref (b + 0)), (0, .ref bS)] _
  refine z_seti (y := 2) hu1 ?_
  refine z_istore (lv' := [(5, .int 2), (4, .int 0), (3, .ref (b + 431)), (2, .ref (b + 405)), (1, .ref (b + 0)), (0, .ref bS)]) B dL_law_287 (by decide) rfl ?_
  refine z_aload_n B dL_law_289 rfl 3 rfl ?_
  refine z_aload_n B dL_law_290 rfl 5 rfl ?_
  refine z_iload B dL_law_291 1 rfl ?_
  refine z_iconst (v := 1) B dL_law_293 (by decide) ?_
  refine z_iadd B dL_law_294 ?_
  refine z_seti (y := 1) (by decide) ?_
  refine z_sld (j := 1) (x := 0) B hX hbl hbA (by decide) (show ¬ ((1 : Int32) < 0 ∨ 6 ≤ (1 : Int32).toNatClampNeg) by decide) h_x1 dL_law_295 ?_
  refine z_aload_n B dL_law_296 rfl 5 rfl ?_
  refine z_iload B dL_law_297 1 rfl ?_
  refine z_iconst (v := 2) B dL_law_299 (by decide) ?_
  refine z_iadd B dL_law_300 ?_
  refine z_seti (y := 2) (by decide) ?_
  refine z_sld (j := 2) (x := x2) B hX hbl hbA (by decide) (show ¬ ((2 : Int32) < 0 ∨ 6 ≤ (2 : Int32).toNatClampNeg) by decide) h_x2 dL_law_301 ?_
  refine z_aload_n B dL_law_302 rfl 5 rfl ?_
  refine z_iload B dL_law_303 1 rfl ?_
  refine z_iconst (v := 3) B dL_law_305 (by decide) ?_
  refine z_iadd B dL_law_306 ?_
  refine z_seti (y := 3) (by decide) ?_
  refine z_sld (j := 3) (x := x3) B hX hbl hbA (by decide) (show ¬ ((3 : Int32) < 0 ∨ 6 ≤ (3 : Int32).toNatClampNeg) by decide) h_x3 dL_law_307 ?_
  refine z_aload_n B dL_law_308 rfl 5 rfl ?_
  refine z_iload B dL_law_309 1 rfl ?_
  refine z_iconst (v := 4) B dL_law_311 (by decide) ?_
  refine z_iadd B dL_law_312 ?_
  refine z_seti (y := 4) (by decide) ?_
  refine z_sld (j := 4) (x := x4) B hX hbl hbA (by decide) (show ¬ ((4 : Int32) < 0 ∨ 6 ≤ (4 : Int32).toNatClampNeg) by decide) h_x4 dL_law_313 ?_
  refine z_aload_n B dL_law_314 rfl 5 rfl ?_
  refine z_iload B dL_law_315 1 rfl ?_
  refine z_iconst (v := 5) B dL_law_317 (by decide) ?_
  refine z_iadd B dL_law_318 ?_
  refine z_seti (y := 5) (by decide) ?_
  refine z_sld (j := 5) (x := x5) B hX hbl hbA (by decide) (show ¬ ((5 : Int32) < 0 ∨ 6 ≤ (5 : Int32).toNatClampNeg) by decide) h_x5 dL_law_319 ?_
  refine z_cVi (As := [.int 0, .int x2, .int x3, .int x4, .int x5]) (rest := []) B cw_L_86 cx_10 dL_law_320 (ci_X9_check_399 l (σ := (ap b (wx_Z σ z) [] [] [])) (b := b) (lyA (lyZ hK)) x2 x3 x4 x5 q1_x2 q2_x2 q1_x3 q2_x3) (lKA (lKZ (hk_K hK 405 rfl rfl))) rfl (by decide) rfl (Nat.le_of_ble_eq_true rfl) (by decide) (fun r u hu => ?_)
  refine z_eqs (σ' := (ap b (wx_Z σ z) [(405, 0, 2)] [] [])) (hu.2.trans ap_ap) ?_
  show zx p l e _ s m _ below meth c g 8 _ _ _ _ 323 [(5, .int 2), (4, .int 0), (3, .ref (b + 431)), (2, .ref (b + 405)), (1, .ref (b + 0)), (0, .ref bS)] _
  refine z_seti (y := 0) hu.1 ?_
  refine z_istore (lv' := [(6, .int 0), (5, .int 2), (4, .int 0), (3, .ref (b + 431)), (2, .ref (b + 405)), (1, .ref (b + 0)), (0, .ref bS)]) B dL_law_323 (by decide) rfl ?_
  refine z_aload_n B dL_law_325 rfl 4 rfl ?_
  refine z_cVi (As := []) (rest := []) B cw_L_80 cx_10 dL_law_326 (ci_X9_thrown_73 l (σ := (ap b (wx_Z σ z) [(405, 0, 2)] [] [])) (b := b) (lyA (lyZ hK)) (rI_at 405 0 rfl)) (lKA (lKZ (hk_K hK 405 rfl rfl))) rfl (by decide) rfl (Nat.le_of_ble_eq_true rfl) (by decide) (fun r u hu => ?_)
  refine z_eqs (σ' := (ap b (wx_Z σ z) [(405, 0, 2)] [] [])) hu.2 ?_
  show zx p l e _ s m _ below meth c g 8 _ _ _ _ 329 [(6, .int 0), (5, .int 2), (4, .int 0), (3, .ref (b + 431)), (2, .ref (b + 405)), (1, .ref (b + 0)), (0, .ref bS)] _
  refine z_seti (y := 2) hu.1 ?_
  refine z_iload B dL_law_329 1 rfl ?_
  refine z_icmp_eq (tgt := 336) B dL_law_331 (by decide) (fun _ => ?_) (fun h => absurd (by decide) h)
  refine z_iload B dL_law_336 1 rfl ?_
  refine z_if_ne (tgt := 353) B dL_law_338 (by decide) (fun _ => ?_) (fun h => absurd h (by decide))
  refine z_goto (tgt := 1395) B dL_law_353 (by decide) ?_
  exact z_widen (Nat.le_of_ble_eq_true rfl) (Nat.le_of_ble_eq_true rfl) (z_sub _ [2, 6] rfl (kk _))
set_option maxRecDepth 100000 in
set_option maxHeartbeats 4000000 in
theorem lf_1_155 {p : Program} {l : Launch} {e : Env} {s : State} {m : MethodId} {args : Array Value} {below : List Frame} {meth : Method} {c : Code} {g : gx_T} {Q : State → Prop} {σ : sx_T} {b t bS : Nat} {xs : Nat → Int32} (hlt : l.stackTraces = false) (B : zx_B p s m args meth c code RL 8 g) (hX : va_X bS 6 xs s s.heap) (hbl : bS < s.heap.size) (hbA : ¬ gx_b g ≤ bS) (hF : fz_P b t σ) (h_x1 : xs 1 = 0) {x2 : Int32} (h_x2 : xs 2 = x2) (q1_x2 : (0 : Int) ≤ x2.toInt) (q2_x2 : x2.toInt ≤ (19 : Int)) {x3 : Int32} (h_x3 : xs 3 = x3) (q1_x3 : (0 : Int) ≤ x3.toInt) (q2_x3 : x3.toInt ≤ (17 : Int)) {x4 : Int32} (h_x4 : xs 4 = x4) (q1_x4 : (-2147483648 : Int) ≤ x4.toInt) (q2_x4 : x4.toInt ≤ (-1 : Int)) {x5 : Int32} (h_x5 : xs 5 = x5) (q1_x5 : (-2147483648 : Int) ≤ x5.toInt) (q2_x5 : x5.toInt ≤ (2147483647 : Int)) (kk : ∀ σ', zx p l e room_1 s m args below meth c g 8 600002 7302232 Q σ' 1395 [(4, .int 0), (0, .ref bS)] []) : zx p l e room_1 s m args below meth c g 8 500 100000 Q σ 252 [(4, .int 0), (3, .ref (b + 431)), (2, .ref (b + 405)), (1, .ref (b + 0)), (0, .ref bS)] [] := by
  have hK := fz_lay hF
  refine z_eqs (σ' := (ap b σ [] [] [])) rfl ?_
  refine z_aload_n B dL_law_252 rfl 3 rfl ?_
  refine z_aload_n B dL_law_253 rfl 4 rfl ?_
  refine z_iload B dL_law_254 0 rfl ?_
  refine z_iconst (v := 1) B dL_law_256 (by decide) ?_
  refine z_iadd B dL_law_257 ?_
  refine z_seti (y := 1) (by decide) ?_
  refine z_sld (j := 1) (x := 0) B hX hbl hbA (by decide) (show ¬ ((1 : Int32) < 0 ∨ 6 ≤ (1 : Int32).toNatClampNeg) by decide) h_x1 dL_law_258 ?_
  refine z_aload_n B dL_law_259 rfl 4 rfl ?_
  refine z_iload B dL_law_260 0 rfl ?_
  refine z_iconst (v := 2) B dL_law_262 (by decide) ?_
  refine z_iadd B dL_law_263 ?_
  refine z_seti (y := 2) (by decide) ?_
  refine z_sld (j := 2) (x := x2) B hX hbl hbA (by decide) (show ¬ ((2 : Int32) < 0 ∨ 6 ≤ (2 : Int32).toNatClampNeg) by decide) h_x2 dL_law_264 ?_
  refine z_aload_n B dL_law_265 rfl 4 rfl ?_
  refine z_iload B dL_law_266 0 rfl ?_
  refine z_iconst (v := 3) B dL_law_268 (by decide) ?_
  refine z_iadd B dL_law_269 ?_
  refine z_seti (y := 3) (by decide) ?_
  refine z_sld (j := 3) (x := x3) B hX hbl hbA (by decide) (show ¬ ((3 : Int32) < 0 ∨ 6 ≤ (3 : Int32).toNatClampNeg) by decide) h_x3 dL_law_270 ?_
  refine z_aload_n B dL_law_271 rfl 4 rfl ?_
  refine z_iload B dL_law_272 0 rfl ?_
  refine z_iconst (v := 4) B dL_law_274 (by decide) ?_
  refine z_iadd B dL_law_275 ?_
  refine z_seti (y := 4) (by decide) ?_
  refine z_sld (j := 4) (x := x4) B hX hbl hbA (by decide) (show ¬ ((4 : Int32) < 0 ∨ 6 ≤ (4 : Int32).toNatClampNeg) by decide) h_x4 dL_law_276 ?_
  refine z_aload_n B dL_law_277 rfl 4 rfl ?_
  refine z_iload B dL_law_278 0 rfl ?_
  refine z_iconst (v := 5) B dL_law_280 (by decide) ?_
  refine z_iadd B dL_law_281 ?_
  refine z_seti (y := 5) (by decide) ?_
  refine z_sld (j := 5) (x := x5) B hX hbl hbA (by decide) (show ¬ ((5 : Int32) < 0 ∨ 6 ≤ (5 : Int32).toNatClampNeg) by decide) h_x5 dL_law_282 ?_
  refine z_aload_n B dL_law_283 rfl 1 rfl ?_
  refine z_cSWi (As := [.ref (b + 0), .int 0, .int x2, .int x3, .int x4, .int x5, .ref (b + 431)]) (rest := []) B cw_L_84 dL_law_284 (ci_L_check_401 l hlt (σ := (ap b σ [] [] [])) (b := b) (lyA hK) x2 x3 x4 x5 q1_x2 q2_x2 q1_x3 q2_x3 q1_x4 q2_x4 (rR_at 0 0 (fz_R hF 0 0 rfl rfl)) (rR_at 1 0 (fz_R hF 1 0 rfl rfl))) rfl (by decide) rfl (Nat.le_of_ble_eq_true rfl) (by decide) (fun r u hu => ?_)
  obtain ⟨hu1, z, hu⟩ := hu
  refine z_eqs (σ' := (ap b (wx_Z σ z) [] [] [])) (hu.trans az_ap) ?_
  show zx p l e _ s m _ below meth c g 8 _ _ _ _ 287 [(4, .int 0), (3, .ref (b + 431)), (2, .ref (b + 405)), (1, .ref (b + 0)), (0, .ref bS)] _
  refine z_seti (y := 2) hu1 ?_
  refine z_istore (lv' := [(5, .int 2), (4, .int 0), (3, .ref (b + 431)), (2, .ref (b + 405)), (1, .ref (b + 0)), (0, .ref bS)]) B dL_law_287 (by decide) rfl ?_
  refine z_aload_n B dL_law_289 rfl 3 rfl ?_
  refine z_aload_n B dL_law_290 rfl 5 rfl ?_
  refine z_iload B dL_law_291 1 rfl ?_
  refine z_iconst (v := 1) B dL_law_293 (by decide) ?_
  refine z_iadd B dL_law_294 ?_
  refine z_seti (y := 1) (by decide) ?_
  refine z_sld (j := 1) (x := 0) B hX hbl hbA (by decide) (show ¬ ((1 : Int32) < 0 ∨ 6 ≤ (1 : Int32).toNatClampNeg) by decide) h_x1 dL_law_295 ?_
  refine z_aload_n B dL_law_296 rfl 5 rfl ?_
  refine z_iload B dL_law_297 1 rfl ?_
  refine z_iconst (v := 2) B dL_law_299 (by decide) ?_
  refine z_iadd B dL_law_300 ?_
  refine z_seti (y := 2) (by decide) ?_
  refine z_sld (j := 2) (x := x2) B hX hbl hbA (by decide) (show ¬ ((2 : Int32) < 0 ∨ 6 ≤ (2 : Int32).toNatClampNeg) by decide) h_x2 dL_law_301 ?_
  refine z_aload_n B dL_law_302 rfl 5 rfl ?_
  refine z_iload B dL_law_303 1 rfl ?_
  refine z_iconst (v := 3) B dL_law_305 (by decide) ?_
  refine z_iadd B dL_law_306 ?_
  refine z_seti (y := 3) (by decide) ?_
  refine z_sld (j := 3) (x := x3) B hX hbl hbA (by decide) (show ¬ ((3 : Int32) < 0 ∨ 6 ≤ (3 : Int32).toNatClampNeg) by decide) h_x3 dL_law_307 ?_
  refine z_aload_n B dL_law_308 rfl 5 rfl ?_
  refine z_iload B dL_law_309 1 rfl ?_
  refine z_iconst (v := 4) B dL_law_311 (by decide) ?_
  refine z_iadd B dL_law_312 ?_
  refine z_seti (y := 4) (by decide) ?_
  refine z_sld (j := 4) (x := x4) B hX hbl hbA (by decide) (show ¬ ((4 : Int32) < 0 ∨ 6 ≤ (4 : Int32).toNatClampNeg) by decide) h_x4 dL_law_313 ?_
  refine z_aload_n B dL_law_314 rfl 5 rfl ?_
  refine z_iload B dL_law_315 1 rfl ?_
  refine z_iconst (v := 5) B dL_law_317 (by decide) ?_
  refine z_iadd B dL_law_318 ?_
  refine z_seti (y := 5) (by decide) ?_
  refine z_sld (j := 5) (x := x5) B hX hbl hbA (by decide) (show ¬ ((5 : Int32) < 0 ∨ 6 ≤ (5 : Int32).toNatClampNeg) by decide) h_x5 dL_law_319 ?_
  refine z_cVi (As := [.int 0, .int x2, .int x3, .int x4, .int x5]) (rest := []) B cw_L_86 cx_10 dL_law_320 (ci_X9_check_402 l (σ := (ap b (wx_Z σ z) [] [] [])) (b := b) (lyA (lyZ hK)) x2 x3 x4 x5 q1_x2 q2_x2 q1_x3 q2_x3 q1_x4 q2_x4) (lKA (lKZ (hk_K hK 405 rfl rfl))) rfl (by decide) rfl (Nat.le_of_ble_eq_true rfl) (by decide) (fun r u hu => ?_)
  refine z_eqs (σ' := (ap b (wx_Z σ z) [(405, 0, 2)] [] [])) (hu.2.trans ap_ap) ?_
  show zx p l e _ s m _ below meth c g 8 _ _ _ _ 323 [(5, .int 2), (4, .int 0), (3, .ref (b + 431)), (2, .ref (b + 405)), (1, .ref (b + 0)), (0, .ref bS)] _
  refine z_seti (y := 0) hu.1 ?_
  refine z_istore (lv' := [(6, .int 0), (5, .int 2), (4, .int 0), (3, .ref (b + 431)), (2, .ref (b + 405)), (1, .ref (b + 0)), (0, .ref bS)]) B dL_law_323 (by decide) rfl ?_
  refine z_aload_n B dL_law_325 rfl 4 rfl ?_
  refine z_cVi (As := []) (rest := []) B cw_L_80 cx_10 dL_law_326 (ci_X9_thrown_73 l (σ := (ap b (wx_Z σ z) [(405, 0, 2)] [] [])) (b := b) (lyA (lyZ hK)) (rI_at 405 0 rfl)) (lKA (lKZ (hk_K hK 405 rfl rfl))) rfl (by decide) rfl (Nat.le_of_ble_eq_true rfl) (by decide) (fun r u hu => ?_)
  refine z_eqs (σ' := (ap b (wx_Z σ z) [(405, 0, 2)] [] [])) hu.2 ?_
  show zx p l e _ s m _ below meth c g 8 _ _ _ _ 329 [(6, .int 0), (5, .int 2), (4, .int 0), (3, .ref (b + 431)), (2, .ref (b + 405)), (1, .ref (b + 0)), (0, .ref bS)] _
  refine z_seti (y := 2) hu.1 ?_
  refine z_iload B dL_law_329 1 rfl ?_
  refine z_icmp_eq (tgt := 336) B dL_law_331 (by decide) (fun _ => ?_) (fun h => absurd (by decide) h)
  refine z_iload B dL_law_336 1 rfl ?_
  refine z_if_ne (tgt := 353) B dL_law_338 (by decide) (fun _ => ?_) (fun h => absurd h (by decide))
  refine z_goto (tgt := 1395) B dL_law_353 (by decide) ?_
  exact z_widen (Nat.le_of_ble_eq_true rfl) (Nat.le_of_ble_eq_true rfl) (z_sub _ [2, 6] rfl (kk _))
set_option maxRecDepth 100000 in
set_option maxHeartbeats 4000000 in
theorem lf_1_156 {p : Program} {l : Launch} {e : Env} {s : State} {m : MethodId} {args : Array Value} {below : List Frame} {meth : Method} {c : Code} {g : gx_T} {Q : State → Prop} {σ : sx_T} {b t bS : Nat} {xs : Nat → Int32} (hlt : l.stackTraces = false) (B : zx_B p s m args meth c code RL 8 g) (hX : va_X bS 6 xs s s.heap) (hbl : bS < s.heap.size) (hbA : ¬ gx_b g ≤ bS) (hF : fz_P b t σ) (h_x1 : xs 1 = 0) {x2 : Int32} (h_x2 : xs 2 = x2) (q1_x2 : (0 : Int) ≤ x2.toInt) (q2_x2 : x2.toInt ≤ (19 : Int)) {x3 : Int32} (h_x3 : xs 3 = x3) (q1_x3 : (0 : Int) ≤ x3.toInt) (q2_x3 : x3.toInt ≤ (17 : Int)) {x4 : Int32} (h_x4 : xs 4 = x4) (q1_x4 : (0 : Int) ≤ x4.toInt) (q2_x4 : x4.toInt ≤ (99 : Int)) {x5 : Int32} (h_x5 : xs 5 = x5) (q1_x5 : (-2147483648 : Int) ≤ x5.toInt) (q2_x5 : x5.toInt ≤ (-1 : Int)) (kk : ∀ σ', zx p l e room_1 s m args below meth c g 8 600002 7302232 Q σ' 1395 [(4, .int 0), (0, .ref bS)] []) : zx p l e room_1 s m args below meth c g 8 500 100000 Q σ 252 [(4, .int 0), (3, .ref (b + 431)), (2, .ref (b + 405)), (1, .ref (b + 0)), (0, .ref bS)] [] := by
  have hK := fz_lay hF
  refine z_eqs (σ' := (ap b σ [] [] [])) rfl ?_
  refine z_aload_n B dL_law_252 rfl 3 rfl ?_
  refine z_aload_n B dL_law_253 rfl 4 rfl ?_
  refine z_iload B dL_law_254 0 rfl ?_
  refine z_iconst (v := 1) B dL_law_256 (by decide) ?_
  refine z_iadd B dL_law_257 ?_
  refine z_seti (y := 1) (by decide) ?_
  refine z_sld (j := 1) (x := 0) B hX hbl hbA (by decide) (show ¬ ((1 : Int32) < 0 ∨ 6 ≤ (1 : Int32).toNatClampNeg) by decide) h_x1 dL_law_258 ?_
  refine z_aload_n B dL_law_259 rfl 4 rfl ?_
  refine z_iload B dL_law_260 0 rfl ?_
  refine z_iconst (v := 2) B dL_law_262 (by decide) ?_
  refine z_iadd B dL_law_263 ?_
  refine z_seti (y := 2) (by decide) ?_
  refine z_sld (j := 2) (x := x2) B hX hbl hbA (by decide) (show ¬ ((2 : Int32) < 0 ∨ 6 ≤ (2 : Int32).toNatClampNeg) by decide) h_x2 dL_law_264 ?_
  refine z_aload_n B dL_law_265 rfl 4 rfl ?_
  refine z_iload B dL_law_266 0 rfl ?_
  refine z_iconst (v := 3) B dL_law_268 (by decide) ?_
  refine z_iadd B dL_law_269 ?_
  refine z_seti (y := 3) (by decide) ?_
  refine z_sld (j := 3) (x := x3) B hX hbl hbA (by decide) (show ¬ ((3 : Int32) < 0 ∨ 6 ≤ (3 : Int32).toNatClampNeg) by decide) h_x3 dL_law_270 ?_
  refine z_aload_n B dL_law_271 rfl 4 rfl ?_
  refine z_iload B dL_law_272 0 rfl ?_
  refine z_iconst (v := 4) B dL_law_274 (by decide) ?_
  refine z_iadd B dL_law_275 ?_
  refine z_seti (y := 4) (by decide) ?_
  refine z_sld (j := 4) (x := x4) B hX hbl hbA (by decide) (show ¬ ((4 : Int32) < 0 ∨ 6 ≤ (4 : Int32).toNatClampNeg) by decide) h_x4 dL_law_276 ?_
  refine z_aload_n B dL_law_277 rfl 4 rfl ?_
  refine z_iload B dL_law_278 0 rfl ?_
  refine z_iconst (v := 5) B dL_law_280 (by decide) ?_
  refine z_iadd B dL_law_281 ?_
  refine z_seti (y := 5) (by decide) ?_
  refine z_sld (j := 5) (x := x5) B hX hbl hbA (by decide) (show ¬ ((5 : Int32) < 0 ∨ 6 ≤ (5 : Int32).toNatClampNeg) by decide) h_x5 dL_law_282 ?_
  refine z_aload_n B dL_law_283 rfl 1 rfl ?_
  refine z_cSWi (As := [.ref (b + 0), .int 0, .int x2, .int x3, .int x4, .int x5, .ref (b + 431)]) (rest := []) B cw_L_84 dL_law_284 (ci_L_check_404 l hlt (σ := (ap b σ [] [] [])) (b := b) (lyA hK) x2 x3 x4 x5 q1_x2 q2_x2 q1_x3 q2_x3 q1_x4 q2_x4 q1_x5 q2_x5 (rR_at 0 0 (fz_R hF 0 0 rfl rfl)) (rR_at 1 0 (fz_R hF 1 0 rfl rfl))) rfl (by decide) rfl (Nat.le_of_ble_eq_true rfl) (by decide) (fun r u hu => ?_)
  obtain ⟨hu1, z, hu⟩ := hu
  refine z_eqs (σ' := (ap b (wx_Z σ z) [] [] [])) (hu.trans az_ap) ?_
  show zx p l e _ s m _ below meth c g 8 _ _ _ _ 287 [(4, .int 0), (3, .ref (b + 431)), (2, .ref (b + 405)), (1, .ref (b + 0)), (0, .ref bS)] _
  refine z_seti (y := 2) hu1 ?_
  refine z_istore (lv' := [(5, .int 2), (4, .int 0), (3, .ref (b + 431)), (2, .ref (b + 405)), (1, .ref (b + 0)), (0, .ref bS)]) B dL_law_287 (by decide) rfl ?_
  refine z_aload_n B dL_law_289 rfl 3 rfl ?_
  refine z_aload_n B dL_law_290 rfl 5 rfl ?_
  refine z_iload B dL_law_291 1 rfl ?_
  refine z_iconst (v := 1) B dL_law_293 (by decide) ?_
  refine z_iadd B dL_law_294 ?_
  refine z_seti (y := 1) (by decide) ?_
  refine z_sld (j := 1) (x := 0) B hX hbl hbA (by decide) (show ¬ ((1 : Int32) < 0 ∨ 6 ≤ (1 : Int32).toNatClampNeg) by decide) h_x1 dL_law_295 ?_
  refine z_aload_n B dL_law_296 rfl 5 rfl ?_
  refine z_iload B dL_law_297 1 rfl ?_
  refine z_iconst (v := 2) B dL_law_299 (by decide) ?_
  refine z_iadd B dL_law_300 ?_
  refine z_seti (y := 2) (by decide) ?_
  refine z_sld (j := 2) (x := x2) B hX hbl hbA (by decide) (show ¬ ((2 : Int32) < 0 ∨ 6 ≤ (2 : Int32).toNatClampNeg) by decide) h_x2 dL_law_301 ?_
  refine z_aload_n B dL_law_302 rfl 5 rfl ?_
  refine z_iload B dL_law_303 1 rfl ?_
  refine z_iconst (v := 3) B dL_law_305 (by decide) ?_
  refine z_iadd B dL_law_306 ?_
  refine z_seti (y := 3) (by decide) ?_
  refine z_sld (j := 3) (x := x3) B hX hbl hbA (by decide) (show ¬ ((3 : Int32) < 0 ∨ 6 ≤ (3 : Int32).toNatClampNeg) by decide) h_x3 dL_law_307 ?_
  refine z_aload_n B dL_law_308 rfl 5 rfl ?_
  refine z_iload B dL_law_309 1 rfl ?_
  refine z_iconst (v := 4) B dL_law_311 (by decide) ?_
  refine z_iadd B dL_law_312 ?_
  refine z_seti (y := 4) (by decide) ?_
  refine z_sld (j := 4) (x := x4) B hX hbl hbA (by decide) (show ¬ ((4 : Int32) < 0 ∨ 6 ≤ (4 : Int32).toNatClampNeg) by decide) h_x4 dL_law_313 ?_
  refine z_aload_n B dL_law_314 rfl 5 rfl ?_
  refine z_iload B dL_law_315 1 rfl ?_
  refine z_iconst (v := 5) B dL_law_317 (by decide) ?_
  refine z_iadd B dL_law_318 ?_
  refine z_seti (y := 5) (by decide) ?_
  refine z_sld (j := 5) (x := x5) B hX hbl hbA (by decide) (show ¬ ((5 : Int32) < 0 ∨ 6 ≤ (5 : Int32).toNatClampNeg) by decide) h_x5 dL_law_319 ?_
  refine z_cVi (As := [.int 0, .int x2, .int x3, .int x4, .int x5]) (rest := []) B cw_L_86 cx_10 dL_law_320 (ci_X9_check_405 l (σ := (ap b (wx_Z σ z) [] [] [])) (b := b) (lyA (lyZ hK)) x2 x3 x4 x5 q1_x2 q2_x2 q1_x3 q2_x3 q1_x4 q2_x4 q1_x5 q2_x5) (lKA (lKZ (hk_K hK 405 rfl rfl))) rfl (by decide) rfl (Nat.le_of_ble_eq_true rfl) (by decide) (fun r u hu => ?_)
  refine z_eqs (σ' := (ap b (wx_Z σ z) [(405, 0, 2)] [] [])) (hu.2.trans ap_ap) ?_
  show zx p l e _ s m _ below meth c g 8 _ _ _ _ 323 [(5, .int 2), (4, .int 0), (3, .ref (b + 431)), (2, .ref (b + 405)), (1, .ref (b + 0)), (0, .ref bS)] _
  refine z_seti (y := 0) hu.1 ?_
  refine z_istore (lv' := [(6, .int 0), (5, .int 2), (4, .int 0), (3, .ref (b + 431)), (2, .ref (b + 405)), (1, .ref (b + 0)), (0, .ref bS)]) B dL_law_323 (by decide) rfl ?_
  refine z_aload_n B dL_law_325 rfl 4 rfl ?_
  refine z_cVi (As := []) (rest := []) B cw_L_80 cx_10 dL_law_326 (ci_X9_thrown_73 l (σ := (ap b (wx_Z σ z) [(405, 0, 2)] [] [])) (b := b) (lyA (lyZ hK)) (rI_at 405 0 rfl)) (lKA (lKZ (hk_K hK 405 rfl rfl))) rfl (by decide) rfl (Nat.le_of_ble_eq_true rfl) (by decide) (fun r u hu => ?_)
  refine z_eqs (σ' := (ap b (wx_Z σ z) [(405, 0, 2)] [] [])) hu.2 ?_
  show zx p l e _ s m _ below meth c g 8 _ _ _ _ 329 [(6, .int 0), (5, .int 2), (4, .int 0), (3, .ref (b + 431)), (2, .ref (b + 405)), (1, .ref (b + 0)), (0, .ref bS)] _
  refine z_seti (y := 2) hu.1 ?_
  refine z_iload B dL_law_329 1 rfl ?_
  refine z_icmp_eq (tgt := 336) B dL_law_331 (by decide) (fun _ => ?_) (fun h => absurd (by decide) h)
  refine z_iload B dL_law_336 1 rfl ?_
  refine z_if_ne (tgt := 353) B dL_law_338 (by decide) (fun _ => ?_) (fun h => absurd h (by decide))
  refine z_goto (tgt := 1395) B dL_law_353 (by decide) ?_
  exact z_widen (Nat.le_of_ble_eq_true rfl) (Nat.le_of_ble_eq_true rfl) (z_sub _ [2, 6] rfl (kk _))
set_option maxRecDepth 100000 in
set_option maxHeartbeats 4000000 in
theorem lf_1_157 {p : Program} {l : Launch} {e : Env} {s : State} {m : MethodId} {args : Array Value} {below : List Frame} {meth : Method} {c : Code} {g : gx_T} {Q : State → Prop} {σ : sx_T} {b t bS : Nat} {xs : Nat → Int32} (hlt : l.stackTraces = false) (B : zx_B p s m args meth c code RL 8 g) (hX : va_X bS 6 xs s s.heap) (hbl : bS < s.heap.size) (hbA : ¬ gx_b g ≤ bS) (hF : fz_P b t σ) (h_x1 : xs 1 = 0) {x2 : Int32} (h_x2 : xs 2 = x2) (q1_x2 : (0 : Int) ≤ x2.toInt) (q2_x2 : x2.toInt ≤ (19 : Int)) {x3 : Int32} (h_x3 : xs 3 = x3) (q1_x3 : (0 : Int) ≤ x3.toInt) (q2_x3 : x3.toInt ≤ (17 : Int)) {x4 : Int32} (h_x4 : xs 4 = x4) (q1_x4 : (0 : Int) ≤ x4.toInt) (q2_x4 : x4.toInt ≤ (99 : Int)) {x5 : Int32} (h_x5 : xs 5 = x5) (q1_x5 : (0 : Int) ≤ x5.toInt) (q2_x5 : x5.toInt ≤ (99 : Int)) (kk : ∀ σ', zx p l e room_1 s m args below meth c g 8 600002 7302232 Q σ' 1395 [(4, .int 0), (0, .ref bS)] []) : zx p l e room_1 s m args below meth c g 8 500 100000 Q σ 252 [(4, .int 0), (3, .ref (b + 431)), (2, .ref (b + 405)), (1, .ref (b + 0)), (0, .ref bS)] [] := by
  have hK := fz_lay hF
  refine z_eqs (σ' := (ap b σ [] [] [])) rfl ?_
  refine z_aload_n B dL_law_252 rfl 3 rfl ?_
  refine z_aload_n B dL_law_253 rfl 4 rfl ?_
  refine z_iload B dL_law_254 0 rfl ?_
  refine z_iconst (v := 1) B dL_law_256 (by decide) ?_
  refine z_iadd B dL_law_257 ?_
  refine z_seti (y := 1) (by decide) ?_
  refine z_sld (j := 1) (x := 0) B hX hbl hbA (by decide) (show ¬ ((1 : Int32) < 0 ∨ 6 ≤ (1 : Int32).toNatClampNeg) by decide) h_x1 dL_law_258 ?_
  refine z_aload_n B dL_law_259 rfl 4 rfl ?_
  refine z_iload B dL_law_260 0 rfl ?_
  refine z_iconst (v := 2) B dL_law_262 (by decide) ?_
  refine z_iadd B dL_law_263 ?_
  refine z_seti (y := 2) (by decide) ?_
  refine z_sld (j := 2) (x := x2) B hX hbl hbA (by decide) (show ¬ ((2 : Int32) < 0 ∨ 6 ≤ (2 : Int32).toNatClampNeg) by decide) h_x2 dL_law_264 ?_
  refine z_aload_n B dL_law_265 rfl 4 rfl ?_
  refine z_iload B dL_law_266 0 rfl ?_
  refine z_iconst (v := 3) B dL_law_268 (by decide) ?_
  refine z_iadd B dL_law_269 ?_
  refine z_seti (y := 3) (by decide) ?_
  refine z_sld (j := 3) (x := x3) B hX hbl hbA (by decide) (show ¬ ((3 : Int32) < 0 ∨ 6 ≤ (3 : Int32).toNatClampNeg) by decide) h_x3 dL_law_270 ?_
  refine z_aload_n B dL_law_271 rfl 4 rfl ?_
  refine z_iload B dL_law_272 0 rfl ?_
  refine z_iconst (v := 4) B dL_law_274 (by decide) ?_
  refine z_iadd B dL_law_275 ?_
  refine z_seti (y := 4) (by decide) ?_
  refine z_sld (j := 4) (x := x4) B hX hbl hbA (by decide) (show ¬ ((4 : Int32) < 0 ∨ 6 ≤ (4 : Int32).toNatClampNeg) by decide) h_x4 dL_law_276 ?_
  refine z_aload_n B dL_law_277 rfl 4 rfl ?_
  refine z_iload B dL_law_278 0 rfl ?_
  refine z_iconst (v := 5) B dL_law_280 (by decide) ?_
  refine z_iadd B dL_law_281 ?_
  refine z_seti (y := 5) (by decide) ?_
  refine z_sld (j := 5) (x := x5) B hX hbl hbA (by decide) (show ¬ ((5 : Int32) < 0 ∨ 6 ≤ (5 : Int32).toNatClampNeg) by decide) h_x5 dL_law_282 ?_
  refine z_aload_n B dL_law_283 rfl 1 rfl ?_
  refine z_cSWi (As := [.ref (b + 0), .int 0, .int x2, .int x3, .int x4, .int x5, .ref (b + 431)]) (rest := []) B cw_L_84 dL_law_284 (ci_L_check_410 l (σ := (ap b σ [] [] [])) (b := b) (lyA hK) x2 x3 x4 x5 q1_x2 q2_x2 q1_x3 q2_x3 q1_x4 q2_x4 q1_x5 q2_x5 (rI_at 0 7 (fz_I hF 0 7 rfl rfl)) (rR_at 0 0 (fz_R hF 0 0 rfl rfl)) (rR_at 1 0 (fz_R hF 1 0 rfl rfl)) (rR_at 9 1 (fz_R hF 9 1 rfl rfl)) (rR_at 9 2 (fz_R hF 9 2 rfl rfl)) (rR_at 9 3 (fz_R hF 9 3 rfl rfl))) rfl (by decide) rfl (Nat.le_of_ble_eq_true rfl) (by decide) (fun r u hu => ?_)
  obtain ⟨y1, y2, y3, hu⟩ := hu
  refine z_eqs (σ' := (ap b (wx_I (ap b (wx_I (ap b (wx_I (ap b (ap b (wx_I (ap b (wx_I (ap b (wx_I (ap b (ap b (ap b (ap b σ [] [] []) [] [] []) [] [] []) [] [] []) (b + 10) x2.toNatClampNeg x3) [] [] []) (b + 11) x2.toNatClampNeg x4) [] [] []) (b + 12) x2.toNatClampNeg x5) [] [] []) [] [] []) (b + 10) x2.toNatClampNeg y1) [] [] []) (b + 11) x2.toNatClampNeg y2) [] [] []) (b + 12) x2.toNatClampNeg y3) [] [(431, 0, 0)] [])) hu.2 ?_
  show zx p l e _ s m _ below meth c g 8 _ _ _ _ 287 [(4, .int 0), (3, .ref (b + 431)), (2, .ref (b + 405)), (1, .ref (b + 0)), (0, .ref bS)] _
  refine z_seti (y := 0) hu.1 ?_
  refine z_istore (lv' := [(5, .int 0), (4, .int 0), (3, .ref (b + 431)), (2, .ref (b + 405)), (1, .ref (b + 0)), (0, .ref bS)]) B dL_law_287 (by decide) rfl ?_
  refine z_aload_n B dL_law_289 rfl 3 rfl ?_
  refine z_aload_n B dL_law_290 rfl 5 rfl ?_
  refine z_iload B dL_law_291 1 rfl ?_
  refine z_iconst (v := 1) B dL_law_293 (by decide) ?_
  refine z_iadd B dL_law_294 ?_
  refine z_seti (y := 1) (by decide) ?_
  refine z_sld (j := 1) (x := 0) B hX hbl hbA (by decide) (show ¬ ((1 : Int32) < 0 ∨ 6 ≤ (1 : Int32).toNatClampNeg) by decide) h_x1 dL_law_295 ?_
  refine z_aload_n B dL_law_296 rfl 5 rfl ?_
  refine z_iload B dL_law_297 1 rfl ?_
  refine z_iconst (v := 2) B dL_law_299 (by decide) ?_
  refine z_iadd B dL_law_300 ?_
  refine z_seti (y := 2) (by decide) ?_
  refine z_sld (j := 2) (x := x2) B hX hbl hbA (by decide) (show ¬ ((2 : Int32) < 0 ∨ 6 ≤ (2 : Int32).toNatClampNeg) by decide) h_x2 dL_law_301 ?_
  refine z_aload_n B dL_law_302 rfl 5 rfl ?_
  refine z_iload B dL_law_303 1 rfl ?_
  refine z_iconst (v := 3) B dL_law_305 (by decide) ?_
  refine z_iadd B dL_law_306 ?_
  refine z_seti (y := 3) (by decide) ?_
  refine z_sld (j := 3) (x := x3) B hX hbl hbA (by decide) (show ¬ ((3 : Int32) < 0 ∨ 6 ≤ (3 : Int32).toNatClampNeg) by decide) h_x3 dL_law_307 ?_
  refine z_aload_n B dL_law_308 rfl 5 rfl ?_
  refine z_iload B dL_law_309 1 rfl ?_
  refine z_iconst (v := 4) B dL_law_311 (by decide) ?_
  refine z_iadd B dL_law_312 ?_
  refine z_seti (y := 4) (by decide) ?_
  refine z_sld (j := 4) (x := x4) B hX hbl hbA (by decide) (show ¬ ((4 : Int32) < 0 ∨ 6 ≤ (4 : Int32).toNatClampNeg) by decide) h_x4 dL_law_313 ?_
  refine z_aload_n B dL_law_314 rfl 5 rfl ?_
  refine z_iload B dL_law_315 1 rfl ?_
  refine z_iconst (v := 5) B dL_law_317 (by decide) ?_
  refine z_iadd B dL_law_318 ?_
  refine z_seti (y := 5) (by decide) ?_
  refine z_sld (j := 5) (x := x5) B hX hbl hbA (by decide) (show ¬ ((5 : Int32) < 0 ∨ 6 ≤ (5 : Int32).toNatClampNeg) by decide) h_x5 dL_law_319 ?_
  refine z_cVi (As := [.int 0, .int x2, .int x3, .int x4, .int x5]) (rest := []) B cw_L_86 cx_10 dL_law_320 (ci_X9_check_411 l (σ := (ap b (wx_I (ap b (wx_I (ap b (wx_I (ap b (ap b (wx_I (ap b (wx_I (ap b (wx_I (ap b (ap b (ap b (ap b σ [] [] []) [] [] []) [] [] []) [] [] []) (b + 10) x2.toNatClampNeg x3) [] [] []) (b + 11) x2.toNatClampNeg x4) [] [] []) (b + 12) x2.toNatClampNeg x5) [] [] []) [] [] []) (b + 10) x2.toNatClampNeg y1) [] [] []) (b + 11) x2.toNatClampNeg y2) [] [] []) (b + 12) x2.toNatClampNeg y3) [] [(431, 0, 0)] [])) (b := b) (lyA (lyW (lyA (lyW (lyA (lyW (lyA (lyA (lyW (lyA (lyW (lyA (lyW (lyA (lyA (lyA (lyA hK))))))))))))))))) x2 x3 x4 x5 q1_x2 q2_x2 q1_x3 q2_x3 q1_x4 q2_x4 q1_x5 q2_x5 (rI_at 405 6 ((ux_a (by omega)).trans (rI_at 405 6 ((ux_a (by omega)).trans (rI_at 405 6 ((ux_a (by omega)).trans (rI_at 405 6 (rI_at 405 6 ((ux_a (by omega)).trans (rI_at 405 6 ((ux_a (by omega)).trans (rI_at 405 6 ((ux_a (by omega)).trans (rI_at 405 6 (rI_at 405 6 (rI_at 405 6 (rI_at 405 6 (fz_I hF 405 6 rfl rfl)))))))))))))))))) (rR_at 405 3 (rR_w (rR_at 405 3 (rR_w (rR_at 405 3 (rR_w (rR_at 405 3 (rR_at 405 3 (rR_w (rR_at 405 3 (rR_w (rR_at 405 3 (rR_w (rR_at 405 3 (rR_at 405 3 (rR_at 405 3 (rR_at 405 3 (fz_R hF 405 3 rfl rfl)))))))))))))))))) (rR_at 405 4 (rR_w (rR_at 405 4 (rR_w (rR_at 405 4 (rR_w (rR_at 405 4 (rR_at 405 4 (rR_w (rR_at 405 4 (rR_w (rR_at 405 4 (rR_w (rR_at 405 4 (rR_at 405 4 (rR_at 405 4 (rR_at 405 4 (fz_R hF 405 4 rfl rfl)))))))))))))))))) (rR_at 405 5 (rR_w (rR_at 405 5 (rR_w (rR_at 405 5 (rR_w (rR_at 405 5 (rR_at 405 5 (rR_w (rR_at 405 5 (rR_w (rR_at 405 5 (rR_w (rR_at 405 5 (rR_at 405 5 (rR_at 405 5 (rR_at 405 5 (fz_R hF 405 5 rfl rfl))))))))))))))))))) (lKA (lKW (lKA (lKW (lKA (lKW (lKA (lKA (lKW (lKA (lKW (lKA (lKW (lKA (lKA (lKA (lKA (hk_K hK 405 rfl rfl)))))))))))))))))) rfl (by decide) rfl (Nat.le_of_ble_eq_true rfl) (by decide) (fun r u hu => ?_)
  obtain ⟨y4, y5, y6, hu⟩ := hu
  refine z_eqs (σ' := (ap b (wx_I (ap b (wx_I (ap b (wx_I (ap b (ap b (wx_I (ap b (wx_I (ap b (wx_I (ap b (ap b (ap b (wx_I (ap b (wx_I (ap b (wx_I (ap b (ap b (wx_I (ap b (wx_I (ap b (wx_I (ap b (ap b (ap b (ap b σ [] [] []) [] [] []) [] [] []) [] [] []) (b + 10) x2.toNatClampNeg x3) [] [] []) (b + 11) x2.toNatClampNeg x4) [] [] []) (b + 12) x2.toNatClampNeg x5) [] [] []) [] [] []) (b + 10) x2.toNatClampNeg y1) [] [] []) (b + 11) x2.toNatClampNeg y2) [] [] []) (b + 12) x2.toNatClampNeg y3) [] [(431, 0, 0)] []) [(405, 0, 0)] [] []) [] [] []) (b + 406) (0 + x2).toNatClampNeg x3) [] [] []) (b + 407) (0 + x2).toNatClampNeg x4) [] [] []) (b + 408) (0 + x2).toNatClampNeg x5) [] [] []) [] [] []) (b + 406) (0 + x2).toNatClampNeg y4) [] [] []) (b + 407) (0 + x2).toNatClampNeg y5) [] [] []) (b + 408) (0 + x2).toNatClampNeg y6) [] [] [])) hu.2 ?_
  show zx p l e _ s m _ below meth c g 8 _ _ _ _ 323 [(5, .int 0), (4, .int 0), (3, .ref (b + 431)), (2, .ref (b + 405)), (1, .ref (b + 0)), (0, .ref bS)] _
  refine z_seti (y := 0) hu.1 ?_
  refine z_istore (lv' := [(6, .int 0), (5, .int 0), (4, .int 0), (3, .ref (b + 431)), (2, .ref (b + 405)), (1, .ref (b + 0)), (0, .ref bS)]) B dL_law_323 (by decide) rfl ?_
  refine z_aload_n B dL_law_325 rfl 4 rfl ?_
  refine z_cVi (As := []) (rest := []) B cw_L_80 cx_10 dL_law_326 (ci_X9_thrown_95 l (σ := (ap b (wx_I (ap b (wx_I (ap b (wx_I (ap b (ap b (wx_I (ap b (wx_I (ap b (wx_I (ap b (ap b (ap b (wx_I (ap b (wx_I (ap b (wx_I (ap b (ap b (wx_I (ap b (wx_I (ap b (wx_I (ap b (ap b (ap b (ap b σ [] [] []) [] [] []) [] [] []) [] [] []) (b + 10) x2.toNatClampNeg x3) [] [] []) (b + 11) x2.toNatClampNeg x4) [] [] []) (b + 12) x2.toNatClampNeg x5) [] [] []) [] [] []) (b + 10) x2.toNatClampNeg y1) [] [] []) (b + 11) x2.toNatClampNeg y2) [] [] []) (b + 12) x2.toNatClampNeg y3) [] [(431, 0, 0)] []) [(405, 0, 0)] [] []) [] [] []) (b + 406) (0 + x2).toNatClampNeg x3) [] [] []) (b + 407) (0 + x2).toNatClampNeg x4) [] [] []) (b + 408) (0 + x2).toNatClampNeg x5) [] [] []) [] [] []) (b + 406) (0 + x2).toNatClampNeg y4) [] [] []) (b + 407) (0 + x2).toNatClampNeg y5) [] [] []) (b + 408) (0 + x2).toNatClampNeg y6) [] [] [])) (b := b) (lyA (lyW (lyA (lyW (lyA (lyW (lyA (lyA (lyW (lyA (lyW (lyA (lyW (lyA (lyA (lyA (lyW (lyA (lyW (lyA (lyW (lyA (lyA (lyW (lyA (lyW (lyA (lyW (lyA (lyA (lyA (lyA hK)))))))))))))))))))))))))))))))) (rI_at 405 0 ((ux_a (by omega)).trans (rI_at 405 0 ((ux_a (by omega)).trans (rI_at 405 0 ((ux_a (by omega)).trans (rI_at 405 0 (rI_at 405 0 ((ux_a (by omega)).trans (rI_at 405 0 ((ux_a (by omega)).trans (rI_at 405 0 ((ux_a (by omega)).trans (rI_at 405 0 (rI_at 405 0 rfl)))))))))))))))) (lKA (lKW (lKA (lKW (lKA (lKW (lKA (lKA (lKW (lKA (lKW (lKA (lKW (lKA (lKA (lKA (lKW (lKA (lKW (lKA (lKW (lKA (lKA (lKW (lKA (lKW (lKA (lKW (lKA (lKA (lKA (lKA (hk_K hK 405 rfl rfl))))))))))))))))))))))))))))))))) rfl (by decide) rfl (Nat.le_of_ble_eq_true rfl) (by decide) (fun r u hu => ?_)
  refine z_eqs (σ' := (ap b (wx_I (ap b (wx_I (ap b (wx_I (ap b (ap b (wx_I (ap b (wx_I (ap b (wx_I (ap b (ap b (ap b (wx_I (ap b (wx_I (ap b (wx_I (ap b (ap b (wx_I (ap b (wx_I (ap b (wx_I (ap b (ap b (ap b (ap b σ [] [] []) [] [] []) [] [] []) [] [] []) (b + 10) x2.toNatClampNeg x3) [] [] []) (b + 11) x2.toNatClampNeg x4) [] [] []) (b + 12) x2.toNatClampNeg x5) [] [] []) [] [] []) (b + 10) x2.toNatClampNeg y1) [] [] []) (b + 11) x2.toNatClampNeg y2) [] [] []) (b + 12) x2.toNatClampNeg y3) [] [(431, 0, 0)] []) [(405, 0, 0)] [] []) [] [] []) (b + 406) (0 + x2).toNatClampNeg x3) [] [] []) (b + 407) (0 + x2).toNatClampNeg x4) [] [] []) (b + 408) (0 + x2).toNatClampNeg x5) [] [] []) [] [] []) (b + 406) (0 + x2).toNatClampNeg y4) [] [] []) (b + 407) (0 + x2).toNatClampNeg y5) [] [] []) (b + 408) (0 + x2).toNatClampNeg y6) [] [] [])) hu.2 ?_
  show zx p l e _ s m _ below meth c g 8 _ _ _ _ 329 [(6, .int 0), (5, .int 0), (4, .int 0), (3, .ref (b + 431)), (2, .ref (b + 405)), (1, .ref (b + 0)), (0, .ref bS)] _
  refine z_seti (y := 0) hu.1 ?_
  refine z_iload B dL_law_329 1 rfl ?_
  refine z_icmp_eq (tgt := 336) B dL_law_331 (by decide) (fun _ => ?_) (fun h => absurd (by decide) h)
  refine z_iload B dL_law_336 1 rfl ?_
  refine z_if_ne (tgt := 353) B dL_law_338 (by decide) (fun h => absurd (by decide) h) (fun _ => ?_)
  refine z_aload_n B dL_law_341 rfl 3 rfl ?_
  refine z_iconst (v := 0) B dL_law_342 (by decide) ?_
  refine z_lald (j := 0) (x := 0) B (lKA (lKW (lKA (lKW (lKA (lKW (lKA (lKA (lKW (lKA (lKW (lKA (lKW (lKA (lKA (lKA (lKW (lKA (lKW (lKA (lKW (lKA (lKA (lKW (lKA (lKW (lKA (lKW (lKA (lKA (lKA (lKA (hk_K hK 431 rfl rfl))))))))))))))))))))))))))))))))) (by decide) (in_of (lNA (lNW (lNA (lNW (lNA (lNW (lNA (lNA (lNW (lNA (lNW (lNA (lNW (lNA (lNA (lNA (lNW (lNA (lNW (lNA (lNW (lNA (lNA (lNW (lNA (lNW (lNA (lNW (lNA (lNA (lNA (lNA (hk_N hK 431 rfl rfl))))))))))))))))))))))))))))))))) (show ¬ ((0 : Int32) < 0 ∨ 1 ≤ (0 : Int32).toNatClampNeg) by decide)) (rJ_at 431 0 (rJ_w (rJ_at 431 0 (rJ_w (rJ_at 431 0 (rJ_w (rJ_at 431 0 (rJ_at 431 0 (rJ_w (rJ_at 431 0 (rJ_w (rJ_at 431 0 (rJ_w (rJ_at 431 0 (rJ_at 431 0 (rJ_at 431 0 rfl)))))))))))))))) dL_law_343 ?_
  refine z_iload B dL_law_344 0 rfl ?_
  refine z_i2l (v := 0) B dL_law_346 (by decide) ?_
  refine z_lcmp (v := 0) B dL_law_347 (by decide) ?_
  refine z_if_eq (tgt := 353) B dL_law_348 (by decide) (fun _ => ?_) (fun h => absurd (by decide) h)
  refine z_goto (tgt := 1395) B dL_law_353 (by decide) ?_
  exact z_widen (Nat.le_of_ble_eq_true rfl) (Nat.le_of_ble_eq_true rfl) (z_sub _ [2, 6] rfl (kk _))
set_option maxRecDepth 100000 in
set_option maxHeartbeats 4000000 in
theorem lf_1_158 {p : Program} {l : Launch} {e : Env} {s : State} {m : MethodId} {args : Array Value} {below : List Frame} {meth : Method} {c : Code} {g : gx_T} {Q : State → Prop} {σ : sx_T} {b t bS : Nat} {xs : Nat → Int32} (hlt : l.stackTraces = false) (B : zx_B p s m args meth c code RL 8 g) (hX : va_X bS 6 xs s s.heap) (hbl : bS < s.heap.size) (hbA : ¬ gx_b g ≤ bS) (hF : fz_P b t σ) (h_x1 : xs 1 = 0) {x2 : Int32} (h_x2 : xs 2 = x2) (q1_x2 : (0 : Int) ≤ x2.toInt) (q2_x2 : x2.toInt ≤ (19 : Int)) {x3 : Int32} (h_x3 : xs 3 = x3) (q1_x3 : (0 : Int) ≤ x3.toInt) (q2_x3 : x3.toInt ≤ (17 : Int)) {x4 : Int32} (h_x4 : xs 4 = x4) (q1_x4 : (0 : Int) ≤ x4.toInt) (q2_x4 : x4.toInt ≤ (99 : Int)) {x5 : Int32} (h_x5 : xs 5 = x5) (q1_x5 : (100 : Int) ≤ x5.toInt) (q2_x5 : x5.toInt ≤ (2147483647 : Int)) (kk : ∀ σ', zx p l e room_1 s m args below meth c g 8 600002 7302232 Q σ' 1395 [(4, .int 0), (0, .ref bS)] []) : zx p l e room_1 s m args below meth c g 8 500 100000 Q σ 252 [(4, .int 0), (3, .ref (b + 431)), (2, .ref (b + 405)), (1, .ref (b + 0)), (0, .ref bS)] [] := by
  have hK := fz_lay hF
  refine z_eqs (σ' := (ap b σ [] [] [])) rfl ?_
  refine z_aload_n B dL_law_252 rfl 3 rfl ?_
  refine z_aload_n B dL_law_253 rfl 4 rfl ?_
  refine z_iload B dL_law_254 0 rfl ?_
  refine z_iconst (v := 1) B dL_law_256 (by decide) ?_
  refine z_iadd B dL_law_257 ?_
  refine z_seti (y := 1) (by decide) ?_
  refine z_sld (j := 1) (x := 0) B hX hbl hbA (by decide) (show ¬ ((1 : Int32) < 0 ∨ 6 ≤ (1 : Int32).toNatClampNeg) by decide) h_x1 dL_law_258 ?_
  refine z_aload_n B dL_law_259 rfl 4 rfl ?_
  refine z_iload B dL_law_260 0 rfl ?_
  refine z_iconst (v := 2) B dL_law_262 (by decide) ?_
  refine z_iadd B dL_law_263 ?_
  refine z_seti (y := 2) (by decide) ?_
  refine z_sld (j := 2) (x := x2) B hX hbl hbA (by decide) (show ¬ ((2 : Int32) < 0 ∨ 6 ≤ (2 : Int32).toNatClampNeg) by decide) h_x2 dL_law_264 ?_
  refine z_aload_n B dL_law_265 rfl 4 rfl ?_
  refine z_iload B dL_law_266 0 rfl ?_
  refine z_iconst (v := 3) B dL_law_268 (by decide) ?_
  refine z_iadd B dL_law_269 ?_
  refine z_seti (y := 3) (by decide) ?_
  refine z_sld (j := 3) (x := x3) B hX hbl hbA (by decide) (show ¬ ((3 : Int32) < 0 ∨ 6 ≤ (3 : Int32).toNatClampNeg) by decide) h_x3 dL_law_270 ?_
  refine z_aload_n B dL_law_271 rfl 4 rfl ?_
  refine z_iload B dL_law_272 0 rfl ?_
  refine z_iconst (v := 4) B dL_law_274 (by decide) ?_
  refine z_iadd B dL_law_275 ?_
  refine z_seti (y := 4) (by decide) ?_
  refine z_sld (j := 4) (x := x4) B hX hbl hbA (by decide) (show ¬ ((4 : Int32) < 0 ∨ 6 ≤ (4 : Int32).toNatClampNeg) by decide) h_x4 dL_law_276 ?_
  refine z_aload_n B dL_law_277 rfl 4 rfl ?_
  refine z_iload B dL_law_278 0 rfl ?_
  refine z_iconst (v := 5) B dL_law_280 (by decide) ?_
  refine z_iadd B dL_law_281 ?_
  refine z_seti (y := 5) (by decide) ?_
  refine z_sld (j := 5) (x := x5) B hX hbl hbA (by decide) (show ¬ ((5 : Int32) < 0 ∨ 6 ≤ (5 : Int32).toNatClampNeg) by decide) h_x5 dL_law_282 ?_
  refine z_aload_n B dL_law_283 rfl 1 rfl ?_
  refine z_cSWi (As := [.ref (b + 0), .int 0, .int x2, .int x3, .int x4, .int x5, .ref (b + 431)]) (rest := []) B cw_L_84 dL_law_284 (ci_L_check_413 l hlt (σ := (ap b σ [] [] [])) (b := b) (lyA hK) x2 x3 x4 x5 q1_x2 q2_x2 q1_x3 q2_x3 q1_x4 q2_x4 q1_x5 q2_x5 (rR_at 0 0 (fz_R hF 0 0 rfl rfl)) (rR_at 1 0 (fz_R hF 1 0 rfl rfl))) rfl (by decide) rfl (Nat.le_of_ble_eq_true rfl) (by decide) (fun r u hu => ?_)
  obtain ⟨hu1, z, hu⟩ := hu
  refine z_eqs (σ' := (ap b (wx_Z σ z) [] [] [])) (hu.trans az_ap) ?_
  show zx p l e _ s m _ below meth c g 8 _ _ _ _ 287 [(4, .int 0), (3, .ref (b + 431)), (2, .ref (b + 405)), (1, .ref (b + 0)), (0, .ref bS)] _
  refine z_seti (y := 2) hu1 ?_
  refine z_istore (lv' := [(5, .int 2), (4, .int 0), (3, .ref (b + 431)), (2, .ref (b + 405)), (1, .ref (b + 0)), (0, .ref bS)]) B dL_law_287 (by decide) rfl ?_
  refine z_aload_n B dL_law_289 rfl 3 rfl ?_
  refine z_aload_n B dL_law_290 rfl 5 rfl ?_
  refine z_iload B dL_law_291 1 rfl ?_
  refine z_iconst (v := 1) B dL_law_293 (by decide) ?_
  refine z_iadd B dL_law_294 ?_
  refine z_seti (y := 1) (by decide) ?_
  refine z_sld (j := 1) (x := 0) B hX hbl hbA (by decide) (show ¬ ((1 : Int32) < 0 ∨ 6 ≤ (1 : Int32).toNatClampNeg) by decide) h_x1 dL_law_295 ?_
  refine z_aload_n B dL_law_296 rfl 5 rfl ?_
  refine z_iload B dL_law_297 1 rfl ?_
  refine z_iconst (v := 2) B dL_law_299 (by decide) ?_
  refine z_iadd B dL_law_300 ?_
  refine z_seti (y := 2) (by decide) ?_
  refine z_sld (j := 2) (x := x2) B hX hbl hbA (by decide) (show ¬ ((2 : Int32) < 0 ∨ 6 ≤ (2 : Int32).toNatClampNeg) by decide) h_x2 dL_law_301 ?_
  refine z_aload_n B dL_law_302 rfl 5 rfl ?_
  refine z_iload B dL_law_303 1 rfl ?_
  refine z_iconst (v := 3) B dL_law_305 (by decide) ?_
  refine z_iadd B dL_law_306 ?_
  refine z_seti (y := 3) (by decide) ?_
  refine z_sld (j := 3) (x := x3) B hX hbl hbA (by decide) (show ¬ ((3 : Int32) < 0 ∨ 6 ≤ (3 : Int32).toNatClampNeg) by decide) h_x3 dL_law_307 ?_
  refine z_aload_n B dL_law_308 rfl 5 rfl ?_
  refine z_iload B dL_law_309 1 rfl ?_
  refine z_iconst (v := 4) B dL_law_311 (by decide) ?_
  refine z_iadd B dL_law_312 ?_
  refine z_seti (y := 4) (by decide) ?_
  refine z_sld (j := 4) (x := x4) B hX hbl hbA (by decide) (show ¬ ((4 : Int32) < 0 ∨ 6 ≤ (4 : Int32).toNatClampNeg) by decide) h_x4 dL_law_313 ?_
  refine z_aload_n B dL_law_314 rfl 5 rfl ?_
  refine z_iload B dL_law_315 1 rfl ?_
  refine z_iconst (v := 5) B dL_law_317 (by decide) ?_
  refine z_iadd B dL_law_318 ?_
  refine z_seti (y := 5) (by decide) ?_
  refine z_sld (j := 5) (x := x5) B hX hbl hbA (by decide) (show ¬ ((5 : Int32) < 0 ∨ 6 ≤ (5 : Int32).toNatClampNeg) by decide) h_x5 dL_law_319 ?_
  refine z_cVi (As := [.int 0, .int x2, .int x3, .int x4, .int x5]) (rest := []) B cw_L_86 cx_10 dL_law_320 (ci_X9_check_414 l (σ := (ap b (wx_Z σ z) [] [] [])) (b := b) (lyA (lyZ hK)) x2 x3 x4 x5 q1_x2 q2_x2 q1_x3 q2_x3 q1_x4 q2_x4 q1_x5 q2_x5) (lKA (lKZ (hk_K hK 405 rfl rfl))) rfl (by decide) rfl (Nat.le_of_ble_eq_true rfl) (by decide) (fun r u hu => ?_)
  refine z_eqs (σ' := (ap b (wx_Z σ z) [(405, 0, 2)] [] [])) (hu.2.trans ap_ap) ?_
  show zx p l e _ s m _ below meth c g 8 _ _ _ _ 323 [(5, .int 2), (4, .int 0), (3, .ref (b + 431)), (2, .ref (b + 405)), (1, .ref (b + 0)), (0, .ref bS)] _
  refine z_seti (y := 0) hu.1 ?_
  refine z_istore (lv' := [(6, .int 0), (5, .int 2), (4, .int 0), (3, .ref (b + 431)), (2, .ref (b + 405)), (1, .ref (b + 0)), (0, .ref bS)]) B dL_law_323 (by decide) rfl ?_
  refine z_aload_n B dL_law_325 rfl 4 rfl ?_
  refine z_cVi (As := []) (rest := []) B cw_L_80 cx_10 dL_law_326 (ci_X9_thrown_73 l (σ := (ap b (wx_Z σ z) [(405, 0, 2)] [] [])) (b := b) (lyA (lyZ hK)) (rI_at 405 0 rfl)) (lKA (lKZ (hk_K hK 405 rfl rfl))) rfl (by decide) rfl (Nat.le_of_ble_eq_true rfl) (by decide) (fun r u hu => ?_)
  refine z_eqs (σ' := (ap b (wx_Z σ z) [(405, 0, 2)] [] [])) hu.2 ?_
  show zx p l e _ s m _ below meth c g 8 _ _ _ _ 329 [(6, .int 0), (5, .int 2), (4, .int 0), (3, .ref (b + 431)), (2, .ref (b + 405)), (1, .ref (b + 0)), (0, .ref bS)] _
  refine z_seti (y := 2) hu.1 ?_
  refine z_iload B dL_law_329 1 rfl ?_
  refine z_icmp_eq (tgt := 336) B dL_law_331 (by decide) (fun _ => ?_) (fun h => absurd (by decide) h)
  refine z_iload B dL_law_336 1 rfl ?_
  refine z_if_ne (tgt := 353) B dL_law_338 (by decide) (fun _ => ?_) (fun h => absurd h (by decide))
  refine z_goto (tgt := 1395) B dL_law_353 (by decide) ?_
  exact z_widen (Nat.le_of_ble_eq_true rfl) (Nat.le_of_ble_eq_true rfl) (z_sub _ [2, 6] rfl (kk _))
set_option maxRecDepth 100000 in
set_option maxHeartbeats 4000000 in
theorem lf_1_159 {p : Program} {l : Launch} {e : Env} {s : State} {m : MethodId} {args : Array Value} {below : List Frame} {meth : Method} {c : Code} {g : gx_T} {Q : State → Prop} {σ : sx_T} {b t bS : Nat} {xs : Nat → Int32} (hlt : l.stackTraces = false) (B : zx_B p s m args meth c code RL 8 g) (hX : va_X bS 6 xs s s.heap) (hbl : bS < s.heap.size) (hbA : ¬ gx_b g ≤ bS) (hF : fz_P b t σ) (h_x1 : xs 1 = 0) {x2 : Int32} (h_x2 : xs 2 = x2) (q1_x2 : (0 : Int) ≤ x2.toInt) (q2_x2 : x2.toInt ≤ (19 : Int)) {x3 : Int32} (h_x3 : xs 3 = x3) (q1_x3 : (0 : Int) ≤ x3.toInt) (q2_x3 : x3.toInt ≤ (17 : Int)) {x4 : Int32} (h_x4 : xs 4 = x4) (q1_x4 : (100 : Int) ≤ x4.toInt) (q2_x4 : x4.toInt ≤ (2147483647 : Int)) {x5 : Int32} (h_x5 : xs 5 = x5) (q1_x5 : (-2147483648 : Int) ≤ x5.toInt) (q2_x5 : x5.toInt ≤ (2147483647 : Int)) (kk : ∀ σ', zx p l e room_1 s m args below meth c g 8 600002 7302232 Q σ' 1395 [(4, .int 0), (0, .ref bS)] []) : zx p l e room_1 s m args below meth c g 8 500 100000 Q σ 252 [(4, .int 0), (3, .ref (b + 431)), (2, .ref (b + 405)), (1, .ref (b + 0)), (0, .ref bS)] [] := by
  have hK := fz_lay hF
  refine z_eqs (σ' := (ap b σ [] [] [])) rfl ?_
  refine z_aload_n B dL_law_252 rfl 3 rfl ?_
  refine z_aload_n B dL_law_253 rfl 4 rfl ?_
  refine z_iload B dL_law_254 0 rfl ?_
  refine z_iconst (v := 1) B dL_law_256 (by decide) ?_
  refine z_iadd B dL_law_257 ?_
  refine z_seti (y := 1) (by decide) ?_
  refine z_sld (j := 1) (x := 0) B hX hbl hbA (by decide) (show ¬ ((1 : Int32) < 0 ∨ 6 ≤ (1 : Int32).toNatClampNeg) by decide) h_x1 dL_law_258 ?_
  refine z_aload_n B dL_law_259 rfl 4 rfl ?_
  refine z_iload B dL_law_260 0 rfl ?_
  refine z_iconst (v := 2) B dL_law_262 (by decide) ?_
  refine z_iadd B dL_law_263 ?_
  refine z_seti (y := 2) (by decide) ?_
  refine z_sld (j := 2) (x := x2) B hX hbl hbA (by decide) (show ¬ ((2 : Int32) < 0 ∨ 6 ≤ (2 : Int32).toNatClampNeg) by decide) h_x2 dL_law_264 ?_
  refine z_aload_n B dL_law_265 rfl 4 rfl ?_
  refine z_iload B dL_law_266 0 rfl ?_
  refine z_iconst (v := 3) B dL_law_268 (by decide) ?_
  refine z_iadd B dL_law_269 ?_
  refine z_seti (y := 3) (by decide) ?_
  refine z_sld (j := 3) (x := x3) B hX hbl hbA (by decide) (show ¬ ((3 : Int32) < 0 ∨ 6 ≤ (3 : Int32).toNatClampNeg) by decide) h_x3 dL_law_270 ?_
  refine z_aload_n B dL_law_271 rfl 4 rfl ?_
  refine z_iload B dL_law_272 0 rfl ?_
  refine z_iconst (v := 4) B dL_law_274 (by decide) ?_
  refine z_iadd B dL_law_275 ?_
  refine z_seti (y := 4) (by decide) ?_
  refine z_sld (j := 4) (x := x4) B hX hbl hbA (by decide) (show ¬ ((4 : Int32) < 0 ∨ 6 ≤ (4 : Int32).toNatClampNeg) by decide) h_x4 dL_law_276 ?_
  refine z_aload_n B dL_law_277 rfl 4 rfl ?_
  refine z_iload B dL_law_278 0 rfl ?_
  refine z_iconst (v := 5) B dL_law_280 (by decide) ?_
  refine z_iadd B dL_law_281 ?_
  refine z_seti (y := 5) (by decide) ?_
  refine z_sld (j := 5) (x := x5) B hX hbl hbA (by decide) (show ¬ ((5 : Int32) < 0 ∨ 6 ≤ (5 : Int32).toNatClampNeg) by decide) h_x5 dL_law_282 ?_
  refine z_aload_n B dL_law_283 rfl 1 rfl ?_
  refine z_cSWi (As := [.ref (b + 0), .int 0, .int x2, .int x3, .int x4, .int x5, .ref (b + 431)]) (rest := []) B cw_L_84 dL_law_284 (ci_L_check_416 l hlt (σ := (ap b σ [] [] [])) (b := b) (lyA hK) x2 x3 x4 x5 q1_x2 q2_x2 q1_x3 q2_x3 q1_x4 q2_x4 (rR_at 0 0 (fz_R hF 0 0 rfl rfl)) (rR_at 1 0 (fz_R hF 1 0 rfl rfl))) rfl (by decide) rfl (Nat.le_of_ble_eq_true rfl) (by decide) (fun r u hu => ?_)
  obtain ⟨hu1, z, hu⟩ := hu
  refine z_eqs (σ' := (ap b (wx_Z σ z) [] [] [])) (hu.trans az_ap) ?_
  show zx p l e _ s m _ below meth c g 8 _ _ _ _ 287 [(4, .int 0), (3, .ref (b + 431)), (2, .ref (b + 405)), (1, .ref (b + 0)), (0, .ref bS)] _
  refine z_seti (y := 2) hu1 ?_
  refine z_istore (lv' := [(5, .int 2), (4, .int 0), (3, .ref (b + 431)), (2, .ref (b + 405)), (1, .ref (b + 0)), (0, .ref bS)]) B dL_law_287 (by decide) rfl ?_
  refine z_aload_n B dL_law_289 rfl 3 rfl ?_
  refine z_aload_n B dL_law_290 rfl 5 rfl ?_
  refine z_iload B dL_law_291 1 rfl ?_
  refine z_iconst (v := 1) B dL_law_293 (by decide) ?_
  refine z_iadd B dL_law_294 ?_
  refine z_seti (y := 1) (by decide) ?_
  refine z_sld (j := 1) (x := 0) B hX hbl hbA (by decide) (show ¬ ((1 : Int32) < 0 ∨ 6 ≤ (1 : Int32).toNatClampNeg) by decide) h_x1 dL_law_295 ?_
  refine z_aload_n B dL_law_296 rfl 5 rfl ?_
  refine z_iload B dL_law_297 1 rfl ?_
  refine z_iconst (v := 2) B dL_law_299 (by decide) ?_
  refine z_iadd B dL_law_300 ?_
  refine z_seti (y := 2) (by decide) ?_
  refine z_sld (j := 2) (x := x2) B hX hbl hbA (by decide) (show ¬ ((2 : Int32) < 0 ∨ 6 ≤ (2 : Int32).toNatClampNeg) by decide) h_x2 dL_law_301 ?_
  refine z_aload_n B dL_law_302 rfl 5 rfl ?_
  refine z_iload B dL_law_303 1 rfl ?_
  refine z_iconst (v := 3) B dL_law_305 (by decide) ?_
  refine z_iadd B dL_law_306 ?_
  refine z_seti (y := 3) (by decide) ?_
  refine z_sld (j := 3) (x := x3) B hX hbl hbA (by decide) (show ¬ ((3 : Int32) < 0 ∨ 6 ≤ (3 : Int32).toNatClampNeg) by decide) h_x3 dL_law_307 ?_
  refine z_aload_n B dL_law_308 rfl 5 rfl ?_
  refine z_iload B dL_law_309 1 rfl ?_
  refine z_iconst (v := 4) B dL_law_311 (by decide) ?_
  refine z_iadd B dL_law_312 ?_
  refine z_seti (y := 4) (by decide) ?_
  refine z_sld (j := 4) (x := x4) B hX hbl hbA (by decide) (show ¬ ((4 : Int32) < 0 ∨ 6 ≤ (4 : Int32).toNatClampNeg) by decide) h_x4 dL_law_313 ?_
  refine z_aload_n B dL_law_314 rfl 5 rfl ?_
  refine z_iload B dL_law_315 1 rfl ?_
  refine z_iconst (v := 5) B dL_law_317 (by decide) ?_
  refine z_iadd B dL_law_318 ?_
  refine z_seti (y := 5) (by decide) ?_
  refine z_sld (j := 5) (x := x5) B hX hbl hbA (by decide) (show ¬ ((5 : Int32) < 0 ∨ 6 ≤ (5 : Int32).toNatClampNeg) by decide) h_x5 dL_law_319 ?_
  refine z_cVi (As := [.int 0, .int x2, .int x3, .int x4, .int x5]) (rest := []) B cw_L_86 cx_10 dL_law_320 (ci_X9_check_417 l (σ := (ap b (wx_Z σ z) [] [] [])) (b := b) (lyA (lyZ hK)) x2 x3 x4 x5 q1_x2 q2_x2 q1_x3 q2_x3 q1_x4 q2_x4) (lKA (lKZ (hk_K hK 405 rfl rfl))) rfl (by decide) rfl (Nat.le_of_ble_eq_true rfl) (by decide) (fun r u hu => ?_)
  refine z_eqs (σ' := (ap b (wx_Z σ z) [(405, 0, 2)] [] [])) (hu.2.trans ap_ap) ?_
  show zx p l e _ s m _ below meth c g 8 _ _ _ _ 323 [(5, .int 2), (4, .int 0), (3, .ref (b + 431)), (2, .ref (b + 405)), (1, .ref (b + 0)), (0, .ref bS)] _
  refine z_seti (y := 0) hu.1 ?_
  refine z_istore (lv' := [(6, .int 0), (5, .int 2), (4, .int 0), (3, .ref (b + 431)), (2, .ref (b + 405)), (1, .ref (b + 0)), (0, .ref bS)]) B dL_law_323 (by decide) rfl ?_
  refine z_aload_n B dL_law_325 rfl 4 rfl ?_
  refine z_cVi (As := []) (rest := []) B cw_L_80 cx_10 dL_law_326 (ci_X9_thrown_73 l (σ := (ap b (wx_Z σ z) [(405, 0, 2)] [] [])) (b := b) (lyA (lyZ hK)) (rI_at 405 0 rfl)) (lKA (lKZ (hk_K hK 405 rfl rfl))) rfl (by decide) rfl (Nat.le_of_ble_eq_true rfl) (by decide) (fun r u hu => ?_)
  refine z_eqs (σ' := (ap b (wx_Z σ z) [(405, 0, 2)] [] [])) hu.2 ?_
  show zx p l e _ s m _ below meth c g 8 _ _ _ _ 329 [(6, .int 0), (5, .int 2), (4, .int 0), (3, .ref (b + 431)), (2, .ref (b + 405)), (1, .ref (b + 0)), (0, .ref bS)] _
  refine z_seti (y := 2) hu.1 ?_
  refine z_iload B dL_law_329 1 rfl ?_
  refine z_icmp_eq (tgt := 336) B dL_law_331 (by decide) (fun _ => ?_) (fun h => absurd (by decide) h)
  refine z_iload B dL_law_336 1 rfl ?_
  refine z_if_ne (tgt := 353) B dL_law_338 (by decide) (fun _ => ?_) (fun h => absurd h (by decide))
  refine z_goto (tgt := 1395) B dL_law_353 (by decide) ?_
  exact z_widen (Nat.le_of_ble_eq_true rfl) (Nat.le_of_ble_eq_true rfl) (z_sub _ [2, 6] rfl (kk _))
set_option maxRecDepth 100000 in
set_option maxHeartbeats 4000000 in
theorem lf_1_160 {p : Program} {l : Launch} {e : Env} {s : State} {m : MethodId} {args : Array Value} {below : List Frame} {meth : Method} {c : Code} {g : gx_T} {Q : State → Prop} {σ : sx_T} {b t bS : Nat} {xs : Nat → Int32} (hlt : l.stackTraces = false) (B : zx_B p s m args meth c code RL 8 g) (hX : va_X bS 6 xs s s.heap) (hbl : bS < s.heap.size) (hbA : ¬ gx_b g ≤ bS) (hF : fz_P b t σ) (h_x1 : xs 1 = 0) {x2 : Int32} (h_x2 : xs 2 = x2) (q1_x2 : (0 : Int) ≤ x2.toInt) (q2_x2 : x2.toInt ≤ (19 : Int)) {x3 : Int32} (h_x3 : xs 3 = x3) (q1_x3 : (18 : Int) ≤ x3.toInt) (q2_x3 : x3.toInt ≤ (2147483647 : Int)) {x4 : Int32} (h_x4 : xs 4 = x4) (q1_x4 : (-2147483648 : Int) ≤ x4.toInt) (q2_x4 : x4.toInt ≤ (2147483647 : Int)) {x5 : Int32} (h_x5 : xs 5 = x5) (q1_x5 : (-2147483648 : Int) ≤ x5.toInt) (q2_x5 : x5.toInt ≤ (2147483647 : Int)) (kk : ∀ σ', zx p l e room_1 s m args below meth c g 8 600002 7302232 Q σ' 1395 [(4, .int 0), (0, .ref bS)] []) : zx p l e room_1 s m args below meth c g 8 500 100000 Q σ 252 [(4, .int 0), (3, .ref (b + 431)), (2, .ref (b + 405)), (1, .ref (b + 0)), (0, .ref bS)] [] := by
  have hK := fz_lay hF
  refine z_eqs (σ' := (ap b σ [] [] [])) rfl ?_
  refine z_aload_n B dL_law_252 rfl 3 rfl ?_
  refine z_aload_n B dL_law_253 rfl 4 rfl ?_
  refine z_iload B dL_law_254 0 rfl ?_
  refine z_iconst (v := 1) B dL_law_256 (by decide) ?_
  refine z_iadd B dL_law_257 ?_
  refine z_seti (y := 1) (by decide) ?_
  refine z_sld (j := 1) (x := 0) B hX hbl hbA (by decide) (show ¬ ((1 : Int32) < 0 ∨ 6 ≤ (1 : Int32).toNatClampNeg) by decide) h_x1 dL_law_258 ?_
  refine z_aload_n B dL_law_259 rfl 4 rfl ?_
  refine z_iload B dL_law_260 0 rfl ?_
  refine z_iconst (v := 2) B dL_law_262 (by decide) ?_
  refine z_iadd B dL_law_263 ?_
  refine z_seti (y := 2) (by decide) ?_
  refine z_sld (j := 2) (x := x2) B hX hbl hbA (by decide) (show ¬ ((2 : Int32) < 0 ∨ 6 ≤ (2 : Int32).toNatClampNeg) by decide) h_x2 dL_law_264 ?_
  refine z_aload_n B dL_law_265 rfl 4 rfl ?_
  refine z_iload B dL_law_266 0 rfl ?_
  refine z_iconst (v := 3) B dL_law_268 (by decide) ?_
  refine z_iadd B dL_law_269 ?_
  refine z_seti (y := 3) (by decide) ?_
  refine z_sld (j := 3) (x := x3) B hX hbl hbA (by decide) (show ¬ ((3 : Int32) < 0 ∨ 6 ≤ (3 : Int32).toNatClampNeg) by decide) h_x3 dL_law_270 ?_
  refine z_aload_n B dL_law_271 rfl 4 rfl ?_
  refine z_iload B dL_law_272 0 rfl ?_
  refine z_iconst (v := 4) B dL_law_274 (by decide) ?_
  refine z_iadd B dL_law_275 ?_
  refine z_seti (y := 4) (by decide) ?_
  refine z_sld (j := 4) (x := x4) B hX hbl hbA (by decide) (show ¬ ((4 : Int32) < 0 ∨ 6 ≤ (4 : Int32).toNatClampNeg) by decide) h_x4 dL_law_276 ?_
  refine z_aload_n B dL_law_277 rfl 4 rfl ?_
  refine z_iload B dL_law_278 0 rfl ?_
  refine z_iconst (v := 5) B dL_law_280 (by decide) ?_
  refine z_iadd B dL_law_281 ?_
  refine z_seti (y := 5) (by decide) ?_
  refine z_sld (j := 5) (x := x5) B hX hbl hbA (by decide) (show ¬ ((5 : Int32) < 0 ∨ 6 ≤ (5 : Int32).toNatClampNeg) by decide) h_x5 dL_law_282 ?_
  refine z_aload_n B dL_law_283 rfl 1 rfl ?_
  refine z_cSWi (As := [.ref (b + 0), .int 0, .int x2, .int x3, .int x4, .int x5, .ref (b + 431)]) (rest := []) B cw_L_84 dL_law_284 (ci_L_check_419 l hlt (σ := (ap b σ [] [] [])) (b := b) (lyA hK) x2 x3 x4 x5 q1_x2 q2_x2 q1_x3 q2_x3 (rR_at 0 0 (fz_R hF 0 0 rfl rfl)) (rR_at 1 0 (fz_R hF 1 0 rfl rfl))) rfl (by decide) rfl (Nat.le_of_ble_eq_true rfl) (by decide) (fun r u hu => ?_)
  obtain ⟨hu1, z, hu⟩ := hu
  refine z_eqs (σ' := (ap b (wx_Z σ z) [] [] [])) (hu.trans az_ap) ?_
  show zx p l e _ s m _ below meth c g 8 _ _ _ _ 287 [(4, .int 0), (3, .ref (b + 431)), (2, .ref (b + 405)), (1, .ref (b + 0)), (0, .ref bS)] _
  refine z_seti (y := 2) hu1 ?_
  refine z_istore (lv' := [(5, .int 2), (4, .int 0), (3, .ref (b + 431)), (2, .ref (b + 405)), (1, .ref (b + 0)), (0, .ref bS)]) B dL_law_287 (by decide) rfl ?_
  refine z_aload_n B dL_law_289 rfl 3 rfl ?_
  refine z_aload_n B dL_law_290 rfl 5 rfl ?_
  refine z_iload B dL_law_291 1 rfl ?_
  refine z_iconst (v := 1) B dL_law_293 (by decide) ?_
  refine z_iadd B dL_law_294 ?_
  refine z_seti (y := 1) (by decide) ?_
  refine z_sld (j := 1) (x := 0) B hX hbl hbA (by decide) (show ¬ ((1 : Int32) < 0 ∨ 6 ≤ (1 : Int32).toNatClampNeg) by decide) h_x1 dL_law_295 ?_
  refine z_aload_n B dL_law_296 rfl 5 rfl ?_
  refine z_iload B dL_law_297 1 rfl ?_
  refine z_iconst (v := 2) B dL_law_299 (by decide) ?_
  refine z_iadd B dL_law_300 ?_
  refine z_seti (y := 2) (by decide) ?_
  refine z_sld (j := 2) (x := x2) B hX hbl hbA (by decide) (show ¬ ((2 : Int32) < 0 ∨ 6 ≤ (2 : Int32).toNatClampNeg) by decide) h_x2 dL_law_301 ?_
  refine z_aload_n B dL_law_302 rfl 5 rfl ?_
  refine z_iload B dL_law_303 1 rfl ?_
  refine z_iconst (v := 3) B dL_law_305 (by decide) ?_
  refine z_iadd B dL_law_306 ?_
  refine z_seti (y := 3) (by decide) ?_
  refine z_sld (j := 3) (x := x3) B hX hbl hbA (by decide) (show ¬ ((3 : Int32) < 0 ∨ 6 ≤ (3 : Int32).toNatClampNeg) by decide) h_x3 dL_law_307 ?_
  refine z_aload_n B dL_law_308 rfl 5 rfl ?_
  refine z_iload B dL_law_309 1 rfl ?_
  refine z_iconst (v := 4) B dL_law_311 (by decide) ?_
  refine z_iadd B dL_law_312 ?_
  refine z_seti (y := 4) (by decide) ?_
  refine z_sld (j := 4) (x := x4) B hX hbl hbA (by decide) (show ¬ ((4 : Int32) < 0 ∨ 6 ≤ (4 : Int32).toNatClampNeg) by decide) h_x4 dL_law_313 ?_
  refine z_aload_n B dL_law_314 rfl 5 rfl ?_
  refine z_iload B dL_law_315 1 rfl ?_
  refine z_iconst (v := 5) B dL_law_317 (by decide) ?_
  refine z_iadd B dL_law_318 ?_
  refine z_seti (y := 5) (by decide) ?_
  refine z_sld (j := 5) (x := x5) B hX hbl hbA (by decide) (show ¬ ((5 : Int32) < 0 ∨ 6 ≤ (5 : Int32).toNatClampNeg) by decide) h_x5 dL_law_319 ?_
  refine z_cVi (As := [.int 0, .int x2, .int x3, .int x4, .int x5]) (rest := []) B cw_L_86 cx_10 dL_law_320 (ci_X9_check_420 l (σ := (ap b (wx_Z σ z) [] [] [])) (b := b) (lyA (lyZ hK)) x2 x3 x4 x5 q1_x2 q2_x2 q1_x3 q2_x3) (lKA (lKZ (hk_K hK 405 rfl rfl))) rfl (by decide) rfl (Nat.le_of_ble_eq_true rfl) (by decide) (fun r u hu => ?_)
  refine z_eqs (σ' := (ap b (wx_Z σ z) [(405, 0, 2)] [] [])) (hu.2.trans ap_ap) ?_
  show zx p l e _ s m _ below meth c g 8 _ _ _ _ 323 [(5, .int 2), (4, .int 0), (3, .ref (b + 431)), (2, .ref (b + 405)), (1, .ref (b + 0)), (0, .ref bS)] _
  refine z_seti (y := 0) hu.1 ?_
  refine z_istore (lv' := [(6, .int 0), (5, .int 2), (4, .int 0), (3, .ref (b + 431)), (2, .ref (b + 405)), (1, .ref (b + 0)), (0, .ref bS)]) B dL_law_323 (by decide) rfl ?_
  refine z_aload_n B dL_law_325 rfl 4 rfl ?_
  refine z_cVi (As := []) (rest := []) B cw_L_80 cx_10 dL_law_326 (ci_X9_thrown_73 l (σ := (ap b (wx_Z σ z) [(405, 0, 2)] [] [])) (b := b) (lyA (lyZ hK)) (rI_at 405 0 rfl)) (lKA (lKZ (hk_K hK 405 rfl rfl))) rfl (by decide) rfl (Nat.le_of_ble_eq_true rfl) (by decide) (fun r u hu => ?_)
  refine z_eqs (σ' := (ap b (wx_Z σ z) [(405, 0, 2)] [] [])) hu.2 ?_
  show zx p l e _ s m _ below meth c g 8 _ _ _ _ 329 [(6, .int 0), (5, .int 2), (4, .int 0), (3, .ref (b + 431)), (2, .ref (b + 405)), (1, .ref (b + 0)), (0, .ref bS)] _
  refine z_seti (y := 2) hu.1 ?_
  refine z_iload B dL_law_329 1 rfl ?_
  refine z_icmp_eq (tgt := 336) B dL_law_331 (by decide) (fun _ => ?_) (fun h => absurd (by decide) h)
  refine z_iload B dL_law_336 1 rfl ?_
  refine z_if_ne (tgt := 353) B dL_law_338 (by decide) (fun _ => ?_) (fun h => absurd h (by decide))
  refine z_goto (tgt := 1395) B dL_law_353 (by decide) ?_
  exact z_widen (Nat.le_of_ble_eq_true rfl) (Nat.le_of_ble_eq_true rfl) (z_sub _ [2, 6] rfl (kk _))
set_option maxRecDepth 100000 in
set_option maxHeartbeats 4000000 in
theorem lf_1_161 {p : Program} {l : Launch} {e : Env} {s : State} {m : MethodId} {args : Array Value} {below : List Frame} {meth : Method} {c : Code} {g : gx_T} {Q : State → Prop} {σ : sx_T} {b t bS : Nat} {xs : Nat → Int32} (hlt : l.stackTraces = false) (B : zx_B p s m args meth c code RL 8 g) (hX : va_X bS 6 xs s s.heap) (hbl : bS < s.heap.size) (hbA : ¬ gx_b g ≤ bS) (hF : fz_P b t σ) (h_x1 : xs 1 = 0) {x2 : Int32} (h_x2 : xs 2 = x2) (q1_x2 : (20 : Int) ≤ x2.toInt) (q2_x2 : x2.toInt ≤ (2147483647 : Int)) {x3 : Int32} (h_x3 : xs 3 = x3) (q1_x3 : (-2147483648 : Int) ≤ x3.toInt) (q2_x3 : x3.toInt ≤ (-1 : Int)) {x4 : Int32} (h_x4 : xs 4 = x4) (q1_x4 : (-2147483648 : Int) ≤ x4.toInt) (q2_x4 : x4.toInt ≤ (2147483647 : Int)) {x5 : Int32} (h_x5 : xs 5 = x5) (q1_x5 : (-2147483648 : Int) ≤ x5.toInt) (q2_x5 : x5.toInt ≤ (2147483647 : Int)) (kk : ∀ σ', zx p l e room_1 s m args below meth c g 8 600002 7302232 Q σ' 1395 [(4, .int 0), (0, .ref bS)] []) : zx p l e room_1 s m args below meth c g 8 500 100000 Q σ 252 [(4, .int 0), (3, .ref (b + 431)), (2, .ref (b + 405)), (1, .ref (b + 0)), (0, .ref bS)] [] := by
  have hK := fz_lay hF
  refine z_eqs (σ' := (ap b σ [] [] [])) rfl ?_
  refine z_aload_n B dL_law_252 rfl 3 rfl ?_
  refine z_aload_n B dL_law_253 rfl 4 rfl ?_
  refine z_iload B dL_law_254 0 rfl ?_
  refine z_iconst (v := 1) B dL_law_256 (by decide) ?_
  refine z_iadd B dL_law_257 ?_
  refine z_seti (y := 1) (by decide) ?_
  refine z_sld (j := 1) (x := 0) B hX hbl hbA (by decide) (show ¬ ((1 : Int32) < 0 ∨ 6 ≤ (1 : Int32).toNatClampNeg) by decide) h_x1 dL_law_258 ?_
  refine z_aload_n B dL_law_259 rfl 4 rfl ?_
  refine z_iload B dL_law_260 0 rfl ?_
  refine z_iconst (v := 2) B dL_law_262 (by decide) ?_
  refine z_iadd B dL_law_263 ?_
  refine z_seti (y := 2) (by decide) ?_
  refine z_sld (j := 2) (x := x2) B hX hbl hbA (by decide) (show ¬ ((2 : Int32) < 0 ∨ 6 ≤ (2 : Int32).toNatClampNeg) by decide) h_x2 dL_law_264 ?_
  refine z_aload_n B dL_law_265 rfl 4 rfl ?_
  refine z_iload B dL_law_266 0 rfl ?_
  refine z_iconst (v := 3) B dL_law_268 (by decide) ?_
  refine z_iadd B dL_law_269 ?_
  refine z_seti (y := 3) (by decide) ?_
  refine z_sld (j := 3) (x := x3) B hX hbl hbA (by decide) (show ¬ ((3 : Int32) < 0 ∨ 6 ≤ (3 : Int32).toNatClampNeg) by decide) h_x3 dL_law_270 ?_
  refine z_aload_n B dL_law_271 rfl 4 rfl ?_
  refine z_iload B dL_law_272 0 rfl ?_
  refine z_iconst (v := 4) B dL_law_274 (by decide) ?_
  refine z_iadd B dL_law_275 ?_
  refine z_seti (y := 4) (by decide) ?_
  refine z_sld (j := 4) (x := x4) B hX hbl hbA (by decide) (show ¬ ((4 : Int32) < 0 ∨ 6 ≤ (4 : Int32).toNatClampNeg) by decide) h_x4 dL_law_276 ?_
  refine z_aload_n B dL_law_277 rfl 4 rfl ?_
  refine z_iload B dL_law_278 0 rfl ?_
  refine z_iconst (v := 5) B dL_law_280 (by decide) ?_
  refine z_iadd B dL_law_281 ?_
  refine z_seti (y := 5) (by decide) ?_
  refine z_sld (j := 5) (x := x5) B hX hbl hbA (by decide) (show ¬ ((5 : Int32) < 0 ∨ 6 ≤ (5 : Int32).toNatClampNeg) by decide) h_x5 dL_law_282 ?_
  refine z_aload_n B dL_law_283 rfl 1 rfl ?_
  refine z_cSWi (As := [.ref (b + 0), .int 0, .int x2, .int x3, .int x4, .int x5, .ref (b + 431)]) (rest := []) B cw_L_84 dL_law_284 (ci_L_check_422 l hlt (σ := (ap b σ [] [] [])) (b := b) (lyA hK) x2 x3 x4 x5 q1_x2 q2_x2 (rR_at 0 0 (fz_R hF 0 0 rfl rfl)) (rR_at 1 0 (fz_R hF 1 0 rfl rfl))) rfl (by decide) rfl (Nat.le_of_ble_eq_true rfl) (by decide) (fun r u hu => ?_)
  obtain ⟨hu1, z, hu⟩ := hu
  refine z_eqs (σ' := (ap b (wx_Z σ z) [] [] [])) (hu.trans az_ap) ?_
  show zx p l e _ s m _ below meth c g 8 _ _ _ _ 287 [(4, .int 0), (3, .ref (b + 431)), (2, .ref (b + 405)), (1, .ref (b + 0)), (0, .ref bS)] _
  refine z_seti (y := 1) hu1 ?_
  refine z_istore (lv' := [(5, .int 1), (4, .int 0), (3, .ref (b + 431)), (2, .ref (b + 405)), (1, .ref (b + 0)), (0, .ref bS)]) B dL_law_287 (by decide) rfl ?_
  refine z_aload_n B dL_law_289 rfl 3 rfl ?_
  refine z_aload_n B dL_law_290 rfl 5 rfl ?_
  refine z_iload B dL_law_291 1 rfl ?_
  refine z_iconst (v := 1) B dL_law_293 (by decide) ?_
  refine z_iadd B dL_law_294 ?_
  refine z_seti (y := 1) (by decide) ?_
  refine z_sld (j := 1) (x := 0) B hX hbl hbA (by decide) (show ¬ ((1 : Int32) < 0 ∨ 6 ≤ (1 : Int32).toNatClampNeg) by decide) h_x1 dL_law_295 ?_
  refine z_aload_n B dL_law_296 rfl 5 rfl ?_
  refine z_iload B dL_law_297 1 rfl ?_
  refine z_iconst (v := 2) B dL_law_299 (by decide) ?_
  refine z_iadd B dL_law_300 ?_
  refine z_seti (y := 2) (by decide) ?_
  refine z_sld (j := 2) (x := x2) B hX hbl hbA (by decide) (show ¬ ((2 : Int32) < 0 ∨ 6 ≤ (2 : Int32).toNatClampNeg) by decide) h_x2 dL_law_301 ?_
  refine z_aload_n B dL_law_302 rfl 5 rfl ?_
  refine z_iload B dL_law_303 1 rfl ?_
  refine z_iconst (v := 3) B dL_law_305 (by decide) ?_
  refine z_iadd B dL_law_306 ?_
  refine z_seti (y := 3) (by decide) ?_
  refine z_sld (j := 3) (x := x3) B hX hbl hbA (by decide) (show ¬ ((3 : Int32) < 0 ∨ 6 ≤ (3 : Int32).toNatClampNeg) by decide) h_x3 dL_law_307 ?_
  refine z_aload_n B dL_law_308 rfl 5 rfl ?_
  refine z_iload B dL_law_309 1 rfl ?_
  refine z_iconst (v := 4) B dL_law_311 (by decide) ?_
  refine z_iadd B dL_law_312 ?_
  refine z_seti (y := 4) (by decide) ?_
  refine z_sld (j := 4) (x := x4) B hX hbl hbA (by decide) (show ¬ ((4 : Int32) < 0 ∨ 6 ≤ (4 : Int32).toNatClampNeg) by decide) h_x4 dL_law_313 ?_
  refine z_aload_n B dL_law_314 rfl 5 rfl ?_
  refine z_iload B dL_law_315 1 rfl ?_
  refine z_iconst (v := 5) B dL_law_317 (by decide) ?_
  refine z_iadd B dL_law_318 ?_
  refine z_seti (y := 5) (by decide) ?_
  refine z_sld (j := 5) (x := x5) B hX hbl hbA (by decide) (show ¬ ((5 : Int32) < 0 ∨ 6 ≤ (5 : Int32).toNatClampNeg) by decide) h_x5 dL_law_319 ?_
  refine z_cVi (As := [.int 0, .int x2, .int x3, .int x4, .int x5]) (rest := []) B cw_L_86 cx_10 dL_law_320 (ci_X9_check_423 l (σ := (ap b (wx_Z σ z) [] [] [])) (b := b) (lyA (lyZ hK)) x2 x3 x4 x5 q1_x2 q2_x2 q1_x3 q2_x3) (lKA (lKZ (hk_K hK 405 rfl rfl))) rfl (by decide) rfl (Nat.le_of_ble_eq_true rfl) (by decide) (fun r u hu => ?_)
  refine z_eqs (σ' := (ap b (wx_Z σ z) [(405, 0, 1)] [] [])) (hu.2.trans ap_ap) ?_
  show zx p l e _ s m _ below meth c g 8 _ _ _ _ 323 [(5, .int 1), (4, .int 0), (3, .ref (b + 431)), (2, .ref (b + 405)), (1, .ref (b + 0)), (0, .ref bS)] _
  refine z_seti (y := 0) hu.1 ?_
  refine z_istore (lv' := [(6, .int 0), (5, .int 1), (4, .int 0), (3, .ref (b + 431)), (2, .ref (b + 405)), (1, .ref (b + 0)), (0, .ref bS)]) B dL_law_323 (by decide) rfl ?_
  refine z_aload_n B dL_law_325 rfl 4 rfl ?_
  refine z_cVi (As := []) (rest := []) B cw_L_80 cx_10 dL_law_326 (ci_X9_thrown_31 l (σ := (ap b (wx_Z σ z) [(405, 0, 1)] [] [])) (b := b) (lyA (lyZ hK)) (rI_at 405 0 rfl)) (lKA (lKZ (hk_K hK 405 rfl rfl))) rfl (by decide) rfl (Nat.le_of_ble_eq_true rfl) (by decide) (fun r u hu => ?_)
  refine z_eqs (σ' := (ap b (wx_Z σ z) [(405, 0, 1)] [] [])) hu.2 ?_
  show zx p l e _ s m _ below meth c g 8 _ _ _ _ 329 [(6, .int 0), (5, .int 1), (4, .int 0), (3, .ref (b + 431)), (2, .ref (b + 405)), (1, .ref (b + 0)), (0, .ref bS)] _
  refine z_seti (y := 1) hu.1 ?_
  refine z_iload B dL_law_329 1 rfl ?_
  refine z_icmp_eq (tgt := 336) B dL_law_331 (by decide) (fun _ => ?_) (fun h => absurd (by decide) h)
  refine z_iload B dL_law_336 1 rfl ?_
  refine z_if_ne (tgt := 353) B dL_law_338 (by decide) (fun _ => ?_) (fun h => absurd h (by decide))
  refine z_goto (tgt := 1395) B dL_law_353 (by decide) ?_
  exact z_widen (Nat.le_of_ble_eq_true rfl) (Nat.le_of_ble_eq_true rfl) (z_sub _ [2, 6] rfl (kk _))
set_option maxRecDepth 100000 in
set_option maxHeartbeats 4000000 in
theorem lf_1_162 {p : Program} {l : Launch} {e : Env} {s : State} {m : MethodId} {args : Array Value} {below : List Frame} {meth : Method} {c : Code} {g : gx_T} {Q : State → Prop} {σ : sx_T} {b t bS : Nat} {xs : Nat → Int32} (hlt : l.stackTraces = false) (B : zx_B p s m args meth c code RL 8 g) (hX : va_X bS 6 xs s s.heap) (hbl : bS < s.heap.size) (hbA : ¬ gx_b g ≤ bS) (hF : fz_P b t σ) (h_x1 : xs 1 = 0) {x2 : Int32} (h_x2 : xs 2 = x2) (q1_x2 : (20 : Int) ≤ x2.toInt) (q2_x2 : x2.toInt ≤ (2147483647 : Int)) {x3 : Int32} (h_x3 : xs 3 = x3) (q1_x3 : (0 : Int) ≤ x3.toInt) (q2_x3 : x3.toInt ≤ (17 : Int)) {x4 : Int32} (h_x4 : xs 4 = x4) (q1_x4 : (-2147483648 : Int) ≤ x4.toInt) (q2_x4 : x4.toInt ≤ (-1 : Int)) {x5 : Int32} (h_x5 : xs 5 = x5) (q1_x5 : (-2147483648 : Int) ≤ x5.toInt) (q2_x5 : x5.toInt ≤ (2147483647 : Int)) (kk : ∀ σ', zx p l e room_1 s m args below meth c g 8 600002 7302232 Q σ' 1395 [(4, .int 0), (0, .ref bS)] []) : zx p l e room_1 s m args below meth c g 8 500 100000 Q σ 252 [(4, .int 0), (3, .ref (b + 431)), (2, .ref (b + 405)), (1, .ref (b + 0)), (0, .ref bS)] [] := by
  have hK := fz_lay hF
  refine z_eqs (σ' := (ap b σ [] [] [])) rfl ?_
  refine z_aload_n B dL_law_252 rfl 3 rfl ?_
  refine z_aload_n B dL_law_253 rfl 4 rfl ?_
  refine z_iload B dL_law_254 0 rfl ?_
  refine z_iconst (v := 1) B dL_law_256 (by decide) ?_
  refine z_iadd B dL_law_257 ?_
  refine z_seti (y := 1) (by decide) ?_
  refine z_sld (j := 1) (x := 0) B hX hbl hbA (by decide) (show ¬ ((1 : Int32) < 0 ∨ 6 ≤ (1 : Int32).toNatClampNeg) by decide) h_x1 dL_law_258 ?_
  refine z_aload_n B dL_law_259 rfl 4 rfl ?_
  refine z_iload B dL_law_260 0 rfl ?_
  refine z_iconst (v := 2) B dL_law_262 (by decide) ?_
  refine z_iadd B dL_law_263 ?_
  refine z_seti (y := 2) (by decide) ?_
  refine z_sld (j := 2) (x := x2) B hX hbl hbA (by decide) (show ¬ ((2 : Int32) < 0 ∨ 6 ≤ (2 : Int32).toNatClampNeg) by decide) h_x2 dL_law_264 ?_
  refine z_aload_n B dL_law_265 rfl 4 rfl ?_
  refine z_iload B dL_law_266 0 rfl ?_
  refine z_iconst (v := 3) B dL_law_268 (by decide) ?_
  refine z_iadd B dL_law_269 ?_
  refine z_seti (y := 3) (by decide) ?_
  refine z_sld (j := 3) (x := x3) B hX hbl hbA (by decide) (show ¬ ((3 : Int32) < 0 ∨ 6 ≤ (3 : Int32).toNatClampNeg) by decide) h_x3 dL_law_270 ?_
  refine z_aload_n B dL_law_271 rfl 4 rfl ?_
  refine z_iload B dL_law_272 0 rfl ?_
  refine z_iconst (v := 4) B dL_law_274 (by decide) ?_
  refine z_iadd B dL_law_275 ?_
  refine z_seti (y := 4) (by decide) ?_
  refine z_sld (j := 4) (x := x4) B hX hbl hbA (by decide) (show ¬ ((4 : Int32) < 0 ∨ 6 ≤ (4 : Int32).toNatClampNeg) by decide) h_x4 dL_law_276 ?_
  refine z_aload_n B dL_law_277 rfl 4 rfl ?_
  refine z_iload B dL_law_278 0 rfl ?_
  refine z_iconst (v := 5) B dL_law_280 (by decide) ?_
  refine z_iadd B dL_law_281 ?_
  refine z_seti (y := 5) (by decide) ?_
  refine z_sld (j := 5) (x := x5) B hX hbl hbA (by decide) (show ¬ ((5 : Int32) < 0 ∨ 6 ≤ (5 : Int32).toNatClampNeg) by decide) h_x5 dL_law_282 ?_
  refine z_aload_n B dL_law_283 rfl 1 rfl ?_
  refine z_cSWi (As := [.ref (b + 0), .int 0, .int x2, .int x3, .int x4, .int x5, .ref (b + 431)]) (rest := []) B cw_L_84 dL_law_284 (ci_L_check_422 l hlt (σ := (ap b σ [] [] [])) (b := b) (lyA hK) x2 x3 x4 x5 q1_x2 q2_x2 (rR_at 0 0 (fz_R hF 0 0 rfl rfl)) (rR_at 1 0 (fz_R hF 1 0 rfl rfl))) rfl (by decide) rfl (Nat.le_of_ble_eq_true rfl) (by decide) (fun r u hu => ?_)
  obtain ⟨hu1, z, hu⟩ := hu
  refine z_eqs (σ' := (ap b (wx_Z σ z) [] [] [])) (hu.trans az_ap) ?_
  show zx p l e _ s m _ below meth c g 8 _ _ _ _ 287 [(4, .int 0), (3, .ref (b + 431)), (2, .ref (b + 405)), (1, .ref (b + 0)), (0, .ref bS)] _
  refine z_seti (y := 1) hu1 ?_
  refine z_istore (lv' := [(5, .int 1), (4, .int 0), (3, .ref (b + 431)), (2, .ref (b + 405)), (1, .ref (b + 0)), (0, .ref bS)]) B dL_law_287 (by decide) rfl ?_
  refine z_aload_n B dL_law_289 rfl 3 rfl ?_
  refine z_aload_n B dL_law_290 rfl 5 rfl ?_
  refine z_iload B dL_law_291 1 rfl ?_
  refine z_iconst (v := 1) B dL_law_293 (by decide) ?_
  refine z_iadd B dL_law_294 ?_
  refine z_seti (y := 1) (by decide) ?_
  refine z_sld (j := 1) (x := 0) B hX hbl hbA (by decide) (show ¬ ((1 : Int32) < 0 ∨ 6 ≤ (1 : Int32).toNatClampNeg) by decide) h_x1 dL_law_295 ?_
  refine z_aload_n B dL_law_296 rfl 5 rfl ?_
  refine z_iload B dL_law_297 1 rfl ?_
  refine z_iconst (v := 2) B dL_law_299 (by decide) ?_
  refine z_iadd B dL_law_300 ?_
  refine z_seti (y := 2) (by decide) ?_
  refine z_sld (j := 2) (x := x2) B hX hbl hbA (by decide) (show ¬ ((2 : Int32) < 0 ∨ 6 ≤ (2 : Int32).toNatClampNeg) by decide) h_x2 dL_law_301 ?_
  refine z_aload_n B dL_law_302 rfl 5 rfl ?_
  refine z_iload B dL_law_303 1 rfl ?_
  refine z_iconst (v := 3) B dL_law_305 (by decide) ?_
  refine z_iadd B dL_law_306 ?_
  refine z_seti (y := 3) (by decide) ?_
  refine z_sld (j := 3) (x := x3) B hX hbl hbA (by decide) (show ¬ ((3 : Int32) < 0 ∨ 6 ≤ (3 : Int32).toNatClampNeg) by decide) h_x3 dL_law_307 ?_
  refine z_aload_n B dL_law_308 rfl 5 rfl ?_
  refine z_iload B dL_law_309 1 rfl ?_
  refine z_iconst (v := 4) B dL_law_311 (by decide) ?_
  refine z_iadd B dL_law_312 ?_
  refine z_seti (y := 4) (by decide) ?_
  refine z_sld (j := 4) (x := x4) B hX hbl hbA (by decide) (show ¬ ((4 : Int32) < 0 ∨ 6 ≤ (4 : Int32).toNatClampNeg) by decide) h_x4 dL_law_313 ?_
  refine z_aload_n B dL_law_314 rfl 5 rfl ?_
  refine z_iload B dL_law_315 1 rfl ?_
  refine z_iconst (v := 5) B dL_law_317 (by decide) ?_
  refine z_iadd B dL_law_318 ?_
  refine z_seti (y := 5) (by decide) ?_
  refine z_sld (j := 5) (x := x5) B hX hbl hbA (by decide) (show ¬ ((5 : Int32) < 0 ∨ 6 ≤ (5 : Int32).toNatClampNeg) by decide) h_x5 dL_law_319 ?_
  refine z_cVi (As := [.int 0, .int x2, .int x3, .int x4, .int x5]) (rest := []) B cw_L_86 cx_10 dL_law_320 (ci_X9_check_424 l (σ := (ap b (wx_Z σ z) [] [] [])) (b := b) (lyA (lyZ hK)) x2 x3 x4 x5 q1_x2 q2_x2 q1_x3 q2_x3 q1_x4 q2_x4) (lKA (lKZ (hk_K hK 405 rfl rfl))) rfl (by decide) rfl (Nat.le_of_ble_eq_true rfl) (by decide) (fun r u hu => ?_)
  refine z_eqs (σ' := (ap b (wx_Z σ z) [(405, 0, 1)] [] [])) (hu.2.trans ap_ap) ?_
  show zx p l e _ s m _ below meth c g 8 _ _ _ _ 323 [(5, .int 1), (4, .int 0), (3, .ref (b + 431)), (2, .ref (b + 405)), (1, .ref (b + 0)), (0, .ref bS)] _
  refine z_seti (y := 0) hu.1 ?_
  refine z_istore (lv' := [(6, .int 0), (5, .int 1), (4, .int 0), (3, .ref (b + 431)), (2, .ref (b + 405)), (1, .ref (b + 0)), (0, .ref bS)]) B dL_law_323 (by decide) rfl ?_
  refine z_aload_n B dL_law_325 rfl 4 rfl ?_
  refine z_cVi (As := []) (rest := []) B cw_L_80 cx_10 dL_law_326 (ci_X9_thrown_31 l (σ := (ap b (wx_Z σ z) [(405, 0, 1)] [] [])) (b := b) (lyA (lyZ hK)) (rI_at 405 0 rfl)) (lKA (lKZ (hk_K hK 405 rfl rfl))) rfl (by decide) rfl (Nat.le_of_ble_eq_true rfl) (by decide) (fun r u hu => ?_)
  refine z_eqs (σ' := (ap b (wx_Z σ z) [(405, 0, 1)] [] [])) hu.2 ?_
  show zx p l e _ s m _ below meth c g 8 _ _ _ _ 329 [(6, .int 0), (5, .int 1), (4, .int 0), (3, .ref (b + 431)), (2, .ref (b + 405)), (1, .ref (b + 0)), (0, .ref bS)] _
  refine z_seti (y := 1) hu.1 ?_
  refine z_iload B dL_law_329 1 rfl ?_
  refine z_icmp_eq (tgt := 336) B dL_law_331 (by decide) (fun _ => ?_) (fun h => absurd (by decide) h)
  refine z_iload B dL_law_336 1 rfl ?_
  refine z_if_ne (tgt := 353) B dL_law_338 (by decide) (fun _ => ?_) (fun h => absurd h (by decide))
  refine z_goto (tgt := 1395) B dL_law_353 (by decide) ?_
  exact z_widen (Nat.le_of_ble_eq_true rfl) (Nat.le_of_ble_eq_true rfl) (z_sub _ [2, 6] rfl (kk _))
set_option maxRecDepth 100000 in
set_option maxHeartbeats 4000000 in
theorem lf_1_163 {p : Program} {l : Launch} {e : Env} {s : State} {m : MethodId} {args : Array Value} {below : List Frame} {meth : Method} {c : Code} {g : gx_T} {Q : State → Prop} {σ : sx_T} {b t bS : Nat} {xs : Nat → Int32} (hlt : l.stackTraces = false) (B : zx_B p s m args meth c code RL 8 g) (hX : va_X bS 6 xs s s.heap) (hbl : bS < s.heap.size) (hbA : ¬ gx_b g ≤ bS) (hF : fz_P b t σ) (h_x1 : xs 1 = 0) {x2 : Int32} (h_x2 : xs 2 = x2) (q1_x2 : (20 : Int) ≤ x2.toInt) (q2_x2 : x2.toInt ≤ (2147483647 : Int)) {x3 : Int32} (h_x3 : xs 3 = x3) (q1_x3 : (0 : Int) ≤ x3.toInt) (q2_x3 : x3.toInt ≤ (17 : Int)) {x4 : Int32} (h_x4 : xs 4 = x4) (q1_x4 : (0 : Int) ≤ x4.toInt) (q2_x4 : x4.toInt ≤ (99 : Int)) {x5 : Int32} (h_x5 : xs 5 = x5) (q1_x5 : (-2147483648 : Int) ≤ x5.toInt) (q2_x5 : x5.toInt ≤ (-1 : Int)) (kk : ∀ σ', zx p l e room_1 s m args below meth c g 8 600002 7302232 Q σ' 1395 [(4, .int 0), (0, .ref bS)] []) : zx p l e room_1 s m args below meth c g 8 500 100000 Q σ 252 [(4, .int 0), (3, .ref (b + 431)), (2, .ref (b + 405)), (1, .ref (b + 0)), (0, .ref bS)] [] := by
  have hK := fz_lay hF
  refine z_eqs (σ' := (ap b σ [] [] [])) rfl ?_
  refine z_aload_n B dL_law_252 rfl 3 rfl ?_
  refine z_aload_n B dL_law_253 rfl 4 rfl ?_
  refine z_iload B dL_law_254 0 rfl ?_
  refine z_iconst (v := 1) B dL_law_256 (by decide) ?_
  refine z_iadd B dL_law_257 ?_
  refine z_seti (y := 1) (by decide) ?_
  refine z_sld (j := 1) (x := 0) B hX hbl hbA (by decide) (show ¬ ((1 : Int32) < 0 ∨ 6 ≤ (1 : Int32).toNatClampNeg) by decide) h_x1 dL_law_258 ?_
  refine z_aload_n B dL_law_259 rfl 4 rfl ?_
  refine z_iload B dL_law_260 0 rfl ?_
  refine z_iconst (v := 2) B dL_law_262 (by decide) ?_
  refine z_iadd B dL_law_263 ?_
  refine z_seti (y := 2) (by decide) ?_
  refine z_sld (j := 2) (x := x2) B hX hbl hbA (by decide) (show ¬ ((2 : Int32) < 0 ∨ 6 ≤ (2 : Int32).toNatClampNeg) by decide) h_x2 dL_law_264 ?_
  refine z_aload_n B dL_law_265 rfl 4 rfl ?_
  refine z_iload B dL_law_266 0 rfl ?_
  refine z_iconst (v := 3) B dL_law_268 (by decide) ?_
  refine z_iadd B dL_law_269 ?_
  refine z_seti (y := 3) (by decide) ?_
  refine z_sld (j := 3) (x := x3) B hX hbl hbA (by decide) (show ¬ ((3 : Int32) < 0 ∨ 6 ≤ (3 : Int32).toNatClampNeg) by decide) h_x3 dL_law_270 ?_
  refine z_aload_n B dL_law_271 rfl 4 rfl ?_
  refine z_iload B dL_law_272 0 rfl ?_
  refine z_iconst (v := 4) B dL_law_274 (by decide) ?_
  refine z_iadd B dL_law_275 ?_
  refine z_seti (y := 4) (by decide) ?_
  refine z_sld (j := 4) (x := x4) B hX hbl hbA (by decide) (show ¬ ((4 : Int32) < 0 ∨ 6 ≤ (4 : Int32).toNatClampNeg) by decide) h_x4 dL_law_276 ?_
  refine z_aload_n B dL_law_277 rfl 4 rfl ?_
  refine z_iload B dL_law_278 0 rfl ?_
  refine z_iconst (v := 5) B dL_law_280 (by decide) ?_
  refine z_iadd B dL_law_281 ?_
  refine z_seti (y := 5) (by decide) ?_
  refine z_sld (j := 5) (x := x5) B hX hbl hbA (by decide) (show ¬ ((5 : Int32) < 0 ∨ 6 ≤ (5 : Int32).toNatClampNeg) by decide) h_x5 dL_law_282 ?_
  refine z_aload_n B dL_law_283 rfl 1 rfl ?_
  refine z_cSWi (As := [.ref (b + 0), .int 0, .int x2, .int x3, .int x4, .int x5, .ref (b + 431)]) (rest := []) B cw_L_84 dL_law_284 (ci_L_check_422 l hlt (σ := (ap b σ [] [] [])) (b := b) (lyA hK) x2 x3 x4 x5 q1_x2 q2_x2 (rR_at 0 0 (fz_R hF 0 0 rfl rfl)) (rR_at 1 0 (fz_R hF 1 0 rfl rfl))) rfl (by decide) rfl (Nat.le_of_ble_eq_true rfl) (by decide) (fun r u hu => ?_)
  obtain ⟨hu1, z, hu⟩ := hu
  refine z_eqs (σ' := (ap b (wx_Z σ z) [] [] [])) (hu.trans az_ap) ?_
  show zx p l e _ s m _ below meth c g 8 _ _ _ _ 287 [(4, .int 0), (3, .ref (b + 431)), (2, .ref (b + 405)), (1, .ref (b + 0)), (0, .ref bS)] _
  refine z_seti (y := 1) hu1 ?_
  refine z_istore (lv' := [(5, .int 1), (4, .int 0), (3, .ref (b + 431)), (2, .ref (b + 405)), (1, .ref (b + 0)), (0, .ref bS)]) B dL_law_287 (by decide) rfl ?_
  refine z_aload_n B dL_law_289 rfl 3 rfl ?_
  refine z_aload_n B dL_law_290 rfl 5 rfl ?_
  refine z_iload B dL_law_291 1 rfl ?_
  refine z_iconst (v := 1) B dL_law_293 (by decide) ?_
  refine z_iadd B dL_law_294 ?_
  refine z_seti (y := 1) (by decide) ?_
  refine z_sld (j := 1) (x := 0) B hX hbl hbA (by decide) (show ¬ ((1 : Int32) < 0 ∨ 6 ≤ (1 : Int32).toNatClampNeg) by decide) h_x1 dL_law_295 ?_
  refine z_aload_n B dL_law_296 rfl 5 rfl ?_
  refine z_iload B dL_law_297 1 rfl ?_
  refine z_iconst (v := 2) B dL_law_299 (by decide) ?_
  refine z_iadd B dL_law_300 ?_
  refine z_seti (y := 2) (by decide) ?_
  refine z_sld (j := 2) (x := x2) B hX hbl hbA (by decide) (show ¬ ((2 : Int32) < 0 ∨ 6 ≤ (2 : Int32).toNatClampNeg) by decide) h_x2 dL_law_301 ?_
  refine z_aload_n B dL_law_302 rfl 5 rfl ?_
  refine z_iload B dL_law_303 1 rfl ?_
  refine z_iconst (v := 3) B dL_law_305 (by decide) ?_
  refine z_iadd B dL_law_306 ?_
  refine z_seti (y := 3) (by decide) ?_
  refine z_sld (j := 3) (x := x3) B hX hbl hbA (by decide) (show ¬ ((3 : Int32) < 0 ∨ 6 ≤ (3 : Int32).toNatClampNeg) by decide) h_x3 dL_law_307 ?_
  refine z_aload_n B dL_law_308 rfl 5 rfl ?_
  refine z_iload B dL_law_309 1 rfl ?_
  refine z_iconst (v := 4) B dL_law_311 (by decide) ?_
  refine z_iadd B dL_law_312 ?_
  refine z_seti (y := 4) (by decide) ?_
  refine z_sld (j := 4) (x := x4) B hX hbl hbA (by decide) (show ¬ ((4 : Int32) < 0 ∨ 6 ≤ (4 : Int32).toNatClampNeg) by decide) h_x4 dL_law_313 ?_
  refine z_aload_n B dL_law_314 rfl 5 rfl ?_
  refine z_iload B dL_law_315 1 rfl ?_
  refine z_iconst (v := 5) B dL_law_317 (by decide) ?_
  refine z_iadd B dL_law_318 ?_
  refine z_seti (y := 5) (by decide) ?_
  refine z_sld (j := 5) (x := x5) B hX hbl hbA (by decide) (show ¬ ((5 : Int32) < 0 ∨ 6 ≤ (5 : Int32).toNatClampNeg) by decide) h_x5 dL_law_319 ?_
  refine z_cVi (As := [.int 0, .int x2, .int x3, .int x4, .int x5]) (rest := []) B cw_L_86 cx_10 dL_law_320 (ci_X9_check_425 l (σ := (ap b (wx_Z σ z) [] [] [])) (b := b) (lyA (lyZ hK)) x2 x3 x4 x5 q1_x2 q2_x2 q1_x3 q2_x3 q1_x4 q2_x4 q1_x5 q2_x5) (lKA (lKZ (hk_K hK 405 rfl rfl))) rfl (by decide) rfl (Nat.le_of_ble_eq_true rfl) (by decide) (fun r u hu => ?_)
  refine z_eqs (σ' := (ap b (wx_Z σ z) [(405, 0, 1)] [] [])) (hu.2.trans ap_ap) ?_
  show zx p l e _ s m _ below meth c g 8 _ _ _ _ 323 [(5, .int 1), (4, .int 0), (3, .ref (b + 431)), (2, .ref (b + 405)), (1, .ref (b + 0)), (0, .ref bS)] _
  refine z_seti (y := 0) hu.1 ?_
  refine z_istore (lv' := [(6, .int 0), (5, .int 1), (4, .int 0), (3, .ref (b + 431)), (2, .ref (b + 405)), (1, .ref (b + 0)), (0, .ref bS)]) B dL_law_323 (by decide) rfl ?_
  refine z_aload_n B dL_law_325 rfl 4 rfl ?_
  refine z_cVi (As := []) (rest := []) B cw_L_80 cx_10 dL_law_326 (ci_X9_thrown_31 l (σ := (ap b (wx_Z σ z) [(405, 0, 1)] [] [])) (b := b) (lyA (lyZ hK)) (rI_at 405 0 rfl)) (lKA (lKZ (hk_K hK 405 rfl rfl))) rfl (by decide) rfl (Nat.le_of_ble_eq_true rfl) (by decide) (fun r u hu => ?_)
  refine z_eqs (σ' := (ap b (wx_Z σ z) [(405, 0, 1)] [] [])) hu.2 ?_
  show zx p l e _ s m _ below meth c g 8 _ _ _ _ 329 [(6, .int 0), (5, .int 1), (4, .int 0), (3, .ref (b + 431)), (2, .ref (b + 405)), (1, .ref (b + 0)), (0, .ref bS)] _
  refine z_seti (y := 1) hu.1 ?_
  refine z_iload B dL_law_329 1 rfl ?_
  refine z_icmp_eq (tgt := 336) B dL_law_331 (by decide) (fun _ => ?_) (fun h => absurd (by decide) h)
  refine z_iload B dL_law_336 1 rfl ?_
  refine z_if_ne (tgt := 353) B dL_law_338 (by decide) (fun _ => ?_) (fun h => absurd h (by decide))
  refine z_goto (tgt := 1395) B dL_law_353 (by decide) ?_
  exact z_widen (Nat.le_of_ble_eq_true rfl) (Nat.le_of_ble_eq_true rfl) (z_sub _ [2, 6] rfl (kk _))
set_option maxRecDepth 100000 in
set_option maxHeartbeats 4000000 in
theorem lf_1_164 {p : Program} {l : Launch} {e : Env} {s : State} {m : MethodId} {args : Array Value} {below : List Frame} {meth : Method} {c : Code} {g : gx_T} {Q : State → Prop} {σ : sx_T} {b t bS : Nat} {xs : Nat → Int32} (hlt : l.stackTraces = false) (B : zx_B p s m args meth c code RL 8 g) (hX : va_X bS 6 xs s s.heap) (hbl : bS < s.heap.size) (hbA : ¬ gx_b g ≤ bS) (hF : fz_P b t σ) (h_x1 : xs 1 = 0) {x2 : Int32} (h_x2 : xs 2 = x2) (q1_x2 : (20 : Int) ≤ x2.toInt) (q2_x2 : x2.toInt ≤ (2147483647 : Int)) {x3 : Int32} (h_x3 : xs 3 = x3) (q1_x3 : (0 : Int) ≤ x3.toInt) (q2_x3 : x3.toInt ≤ (17 : Int)) {x4 : Int32} (h_x4 : xs 4 = x4) (q1_x4 : (0 : Int) ≤ x4.toInt) (q2_x4 : x4.toInt ≤ (99 : Int)) {x5 : Int32} (h_x5 : xs 5 = x5) (q1_x5 : (0 : Int) ≤ x5.toInt) (q2_x5 : x5.toInt ≤ (99 : Int)) (kk : ∀ σ', zx p l e room_1 s m args below meth c g 8 600002 7302232 Q σ' 1395 [(4, .int 0), (0, .ref bS)] []) : zx p l e room_1 s m args below meth c g 8 500 100000 Q σ 252 [(4, .int 0), (3, .ref (b + 431)), (2, .ref (b + 405)), (1, .ref (b + 0)), (0, .ref bS)] [] := by
  have hK := fz_lay hF
  refine z_eqs (σ' := (ap b σ [] [] [])) rfl ?_
  refine z_aload_n B dL_law_252 rfl 3 rfl ?_
  refine z_aload_n B dL_law_253 rfl 4 rfl ?_
  refine z_iload B dL_law_254 0 rfl ?_
  refine z_iconst (v := 1) B dL_law_256 (by decide) ?_
  refine z_iadd B dL_law_257 ?_
  refine z_seti (y := 1) (by decide) ?_
  refine z_sld (j := 1) (x := 0) B hX hbl hbA (by decide) (show ¬ ((1 : Int32) < 0 ∨ 6 ≤ (1 : Int32).toNatClampNeg) by decide) h_x1 dL_law_258 ?_
  refine z_aload_n B dL_law_259 rfl 4 rfl ?_
  refine z_iload B dL_law_260 0 rfl ?_
  refine z_iconst (v := 2) B dL_law_262 (by decide) ?_
  refine z_iadd B dL_law_263 ?_
  refine z_seti (y := 2) (by decide) ?_
  refine z_sld (j := 2) (x := x2) B hX hbl hbA (by decide) (show ¬ ((2 : Int32) < 0 ∨ 6 ≤ (2 : Int32).toNatClampNeg) by decide) h_x2 dL_law_264 ?_
  refine z_aload_n B dL_law_265 rfl 4 rfl ?_
  refine z_iload B dL_law_266 0 rfl ?_
  refine z_iconst (v := 3) B dL_law_268 (by decide) ?_
  refine z_iadd B dL_law_269 ?_
  refine z_seti (y := 3) (by decide) ?_
  refine z_sld (j := 3) (x := x3) B hX hbl hbA (by decide) (show ¬ ((3 : Int32) < 0 ∨ 6 ≤ (3 : Int32).toNatClampNeg) by decide) h_x3 dL_law_270 ?_
  refine z_aload_n B dL_law_271 rfl 4 rfl ?_
  refine z_iload B dL_law_272 0 rfl ?_
  refine z_iconst (v := 4) B dL_law_274 (by decide) ?_
  refine z_iadd B dL_law_275 ?_
  refine z_seti (y := 4) (by decide) ?_
  refine z_sld (j := 4) (x := x4) B hX hbl hbA (by decide) (show ¬ ((4 : Int32) < 0 ∨ 6 ≤ (4 : Int32).toNatClampNeg) by decide) h_x4 dL_law_276 ?_
  refine z_aload_n B dL_law_277 rfl 4 rfl ?_
  refine z_iload B dL_law_278 0 rfl ?_
  refine z_iconst (v := 5) B dL_law_280 (by decide) ?_
  refine z_iadd B dL_law_281 ?_
  refine z_seti (y := 5) (by decide) ?_
  refine z_sld (j := 5) (x := x5) B hX hbl hbA (by decide) (show ¬ ((5 : Int32) < 0 ∨ 6 ≤ (5 : Int32).toNatClampNeg) by decide) h_x5 dL_law_282 ?_
  refine z_aload_n B dL_law_283 rfl 1 rfl ?_
  refine z_cSWi (As := [.ref (b + 0), .int 0, .int x2, .int x3, .int x4, .int x5, .ref (b + 431)]) (rest := []) B cw_L_84 dL_law_284 (ci_L_check_422 l hlt (σ := (ap b σ [] [] [])) (b := b) (lyA hK) x2 x3 x4 x5 q1_x2 q2_x2 (rR_at 0 0 (fz_R hF 0 0 rfl rfl)) (rR_at 1 0 (fz_R hF 1 0 rfl rfl))) rfl (by decide) rfl (Nat.le_of_ble_eq_true rfl) (by decide) (fun r u hu => ?_)
  obtain ⟨hu1, z, hu⟩ := hu
  refine z_eqs (σ' := (ap b (wx_Z σ z) [] [] [])) (hu.trans az_ap) ?_
  show zx p l e _ s m _ below meth c g 8 _ _ _ _ 287 [(4, .int 0), (3, .ref (b + 431)), (2, .ref (b + 405)), (1, .ref (b + 0)), (0, .ref bS)] _
  refine z_seti (y := 1) hu1 ?_
  refine z_istore (lv' := [(5, .int 1), (4, .int 0), (3, .ref (b + 431)), (2, .ref (b + 405)), (1, .ref (b + 0)), (0, .ref bS)]) B dL_law_287 (by decide) rfl ?_
  refine z_aload_n B dL_law_289 rfl 3 rfl ?_
  refine z_aload_n B dL_law_290 rfl 5 rfl ?_
  refine z_iload B dL_law_291 1 rfl ?_
  refine z_iconst (v := 1) B dL_law_293 (by decide) ?_
  refine z_iadd B dL_law_294 ?_
  refine z_seti (y := 1) (by decide) ?_
  refine z_sld (j := 1) (x := 0) B hX hbl hbA (by decide) (show ¬ ((1 : Int32) < 0 ∨ 6 ≤ (1 : Int32).toNatClampNeg) by decide) h_x1 dL_law_295 ?_
  refine z_aload_n B dL_law_296 rfl 5 rfl ?_
  refine z_iload B dL_law_297 1 rfl ?_
  refine z_iconst (v := 2) B dL_law_299 (by decide) ?_
  refine z_iadd B dL_law_300 ?_
  refine z_seti (y := 2) (by decide) ?_
  refine z_sld (j := 2) (x := x2) B hX hbl hbA (by decide) (show ¬ ((2 : Int32) < 0 ∨ 6 ≤ (2 : Int32).toNatClampNeg) by decide) h_x2 dL_law_301 ?_
  refine z_aload_n B dL_law_302 rfl 5 rfl ?_
  refine z_iload B dL_law_303 1 rfl ?_
  refine z_iconst (v := 3) B dL_law_305 (by decide) ?_
  refine z_iadd B dL_law_306 ?_
  refine z_seti (y := 3) (by decide) ?_
  refine z_sld (j := 3) (x := x3) B hX hbl hbA (by decide) (show ¬ ((3 : Int32) < 0 ∨ 6 ≤ (3 : Int32).toNatClampNeg) by decide) h_x3 dL_law_307 ?_
  refine z_aload_n B dL_law_308 rfl 5 rfl ?_
  refine z_iload B dL_law_309 1 rfl ?_
  refine z_iconst (v := 4) B dL_law_311 (by decide) ?_
  refine z_iadd B dL_law_312 ?_
  refine z_seti (y := 4) (by decide) ?_
  refine z_sld (j := 4) (x := x4) B hX hbl hbA (by decide) (show ¬ ((4 : Int32) < 0 ∨ 6 ≤ (4 : Int32).toNatClampNeg) by decide) h_x4 dL_law_313 ?_
  refine z_aload_n B dL_law_314 rfl 5 rfl ?_
  refine z_iload B dL_law_315 1 rfl ?_
  refine z_iconst (v := 5) B dL_law_317 (by decide) ?_
  refine z_iadd B dL_law_318 ?_
  refine z_seti (y := 5) (by decide) ?_
  refine z_sld (j := 5) (x := x5) B hX hbl hbA (by decide) (show ¬ ((5 : Int32) < 0 ∨ 6 ≤ (5 : Int32).toNatClampNeg) by decide) h_x5 dL_law_319 ?_
  refine z_cVi (As := [.int 0, .int x2, .int x3, .int x4, .int x5]) (rest := []) B cw_L_86 cx_10 dL_law_320 (ci_X9_check_426 l (σ := (ap b (wx_Z σ z) [] [] [])) (b := b) (lyA (lyZ hK)) x2 x3 x4 x5 q1_x2 q2_x2 q1_x3 q2_x3 q1_x4 q2_x4 q1_x5 q2_x5) (lKA (lKZ (hk_K hK 405 rfl rfl))) rfl (by decide) rfl (Nat.le_of_ble_eq_true rfl) (by decide) (fun r u hu => ?_)
  refine z_eqs (σ' := (ap b (wx_Z σ z) [(405, 0, 1)] [] [])) (hu.2.trans ap_ap) ?_
  show zx p l e _ s m _ below meth c g 8 _ _ _ _ 323 [(5, .int 1), (4, .int 0), (3, .ref (b + 431)), (2, .ref (b + 405)), (1, .ref (b + 0)), (0, .ref bS)] _
  refine z_seti (y := 0) hu.1 ?_
  refine z_istore (lv' := [(6, .int 0), (5, .int 1), (4, .int 0), (3, .ref (b + 431)), (2, .ref (b + 405)), (1, .ref (b + 0)), (0, .ref bS)]) B dL_law_323 (by decide) rfl ?_
  refine z_aload_n B dL_law_325 rfl 4 rfl ?_
  refine z_cVi (As := []) (rest := []) B cw_L_80 cx_10 dL_law_326 (ci_X9_thrown_31 l (σ := (ap b (wx_Z σ z) [(405, 0, 1)] [] [])) (b := b) (lyA (lyZ hK)) (rI_at 405 0 rfl)) (lKA (lKZ (hk_K hK 405 rfl rfl))) rfl (by decide) rfl (Nat.le_of_ble_eq_true rfl) (by decide) (fun r u hu => ?_)
  refine z_eqs (σ' := (ap b (wx_Z σ z) [(405, 0, 1)] [] [])) hu.2 ?_
  show zx p l e _ s m _ below meth c g 8 _ _ _ _ 329 [(6, .int 0), (5, .int 1), (4, .int 0), (3, .ref (b + 431)), (2, .ref (b + 405)), (1, .ref (b + 0)), (0, .ref bS)] _
  refine z_seti (y := 1) hu.1 ?_
  refine z_iload B dL_law_329 1 rfl ?_
  refine z_icmp_eq (tgt := 336) B dL_law_331 (by decide) (fun _ => ?_) (fun h => absurd (by decide) h)
  refine z_iload B dL_law_336 1 rfl ?_
  refine z_if_ne (tgt := 353) B dL_law_338 (by decide) (fun _ => ?_) (fun h => absurd h (by decide))
  refine z_goto (tgt := 1395) B dL_law_353 (by decide) ?_
  exact z_widen (Nat.le_of_ble_eq_true rfl) (Nat.le_of_ble_eq_true rfl) (z_sub _ [2, 6] rfl (kk _))
set_option maxRecDepth 100000 in
set_option maxHeartbeats 4000000 in
theorem lf_1_165 {p : Program} {l : Launch} {e : Env} {s : State} {m : MethodId} {args : Array Value} {below : List Frame} {meth : Method} {c : Code} {g : gx_T} {Q : State → Prop} {σ : sx_T} {b t bS : Nat} {xs : Nat → Int32} (hlt : l.stackTraces = false) (B : zx_B p s m args meth c code RL 8 g) (hX : va_X bS 6 xs s s.heap) (hbl : bS < s.heap.size) (hbA : ¬ gx_b g ≤ bS) (hF : fz_P b t σ) (h_x1 : xs 1 = 0) {x2 : Int32} (h_x2 : xs 2 = x2) (q1_x2 : (20 : Int) ≤ x2.toInt) (q2_x2 : x2.toInt ≤ (2147483647 : Int)) {x3 : Int32} (h_x3 : xs 3 = x3) (q1_x3 : (0 : Int) ≤ x3.toInt) (q2_x3 : x3.toInt ≤ (17 : Int)) {x4 : Int32} (h_x4 : xs 4 = x4) (q1_x4 : (0 : Int) ≤ x4.toInt) (q2_x4 : x4.toInt ≤ (99 : Int)) {x5 : Int32} (h_x5 : xs 5 = x5) (q1_x5 : (100 : Int) ≤ x5.toInt) (q2_x5 : x5.toInt ≤ (2147483647 : Int)) (kk : ∀ σ', zx p l e room_1 s m args below meth c g 8 600002 7302232 Q σ' 1395 [(4, .int 0), (0, .ref bS)] []) : zx p l e room_1 s m args below meth c g 8 500 100000 Q σ 252 [(4, .int 0), (3, .ref (b + 431)), (2, .ref (b + 405)), (1, .ref (b + 0)), (0, .ref bS)] [] := by
  have hK := fz_lay hF
  refine z_eqs (σ' := (ap b σ [] [] [])) rfl ?_
  refine z_aload_n B dL_law_252 rfl 3 rfl ?_
  refine z_aload_n B dL_law_253 rfl 4 rfl ?_
  refine z_iload B dL_law_254 0 rfl ?_
  refine z_iconst (v := 1) B dL_law_256 (by decide) ?_
  refine z_iadd B dL_law_257 ?_
  refine z_seti (y := 1) (by decide) ?_
  refine z_sld (j := 1) (x := 0) B hX hbl hbA (by decide) (show ¬ ((1 : Int32) < 0 ∨ 6 ≤ (1 : Int32).toNatClampNeg) by decide) h_x1 dL_law_258 ?_
  refine z_aload_n B dL_law_259 rfl 4 rfl ?_
  refine z_iload B dL_law_260 0 rfl ?_
  refine z_iconst (v := 2) B dL_law_262 (by decide) ?_
  refine z_iadd B dL_law_263 ?_
  refine z_seti (y := 2) (by decide) ?_
  refine z_sld (j := 2) (x := x2) B hX hbl hbA (by decide) (show ¬ ((2 : Int32) < 0 ∨ 6 ≤ (2 : Int32).toNatClampNeg) by decide) h_x2 dL_law_264 ?_
  refine z_aload_n B dL_law_265 rfl 4 rfl ?_
  refine z_iload B dL_law_266 0 rfl ?_
  refine z_iconst (v := 3) B dL_law_268 (by decide) ?_
  refine z_iadd B dL_law_269 ?_
  refine z_seti (y := 3) (by decide) ?_
  refine z_sld (j := 3) (x := x3) B hX hbl hbA (by decide) (show ¬ ((3 : Int32) < 0 ∨ 6 ≤ (3 : Int32).toNatClampNeg) by decide) h_x3 dL_law_270 ?_
  refine z_aload_n B dL_law_271 rfl 4 rfl ?_
  refine z_iload B dL_law_272 0 rfl ?_
  refine z_iconst (v := 4) B dL_law_274 (by decide) ?_
  refine z_iadd B dL_law_275 ?_
  refine z_seti (y := 4) (by decide) ?_
  refine z_sld (j := 4) (x := x4) B hX hbl hbA (by decide) (show ¬ ((4 : Int32) < 0 ∨ 6 ≤ (4 : Int32).toNatClampNeg) by decide) h_x4 dL_law_276 ?_
  refine z_aload_n B dL_law_277 rfl 4 rfl ?_
  refine z_iload B dL_law_278 0 rfl ?_
  refine z_iconst (v := 5) B dL_law_280 (by decide) ?_
  refine z_iadd B dL_law_281 ?_
  refine z_seti (y := 5) (by decide) ?_
  refine z_sld (j := 5) (x := x5) B hX hbl hbA (by decide) (show ¬ ((5 : Int32) < 0 ∨ 6 ≤ (5 : Int32).toNatClampNeg) by decide) h_x5 dL_law_282 ?_
  refine z_aload_n B dL_law_283 rfl 1 rfl ?_
  refine z_cSWi (As := [.ref (b + 0), .int 0, .int x2, .int x3, .int x4, .int x5, .ref (b + 431)]) (rest := []) B cw_L_84 dL_law_284 (ci_L_check_422 l hlt (σ := (ap b σ [] [] [])) (b := b) (lyA hK) x2 x3 x4 x5 q1_x2 q2_x2 (rR_at 0 0 (fz_R hF 0 0 rfl rfl)) (rR_at 1 0 (fz_R hF 1 0 rfl rfl))) rfl (by decide) rfl (Nat.le_of_ble_eq_true rfl) (by decide) (fun r u hu => ?_)
  obtain ⟨hu1, z, hu⟩ := hu
  refine z_eqs (σ' := (ap b (wx_Z σ z) [] [] [])) (hu.trans az_ap) ?_
  show zx p l e _ s m _ below meth c g 8 _ _ _ _ 287 [(4, .int 0), (3, .ref (b + 431)), (2, .ref (b + 405)), (1, .ref (b + 0)), (0, .ref bS)] _
  refine z_seti (y := 1) hu1 ?_
  refine z_istore (lv' := [(5, .int 1), (4, .int 0), (3, .ref (b + 431)), (2, .ref (b + 405)), (1, .ref (b + 0)), (0, .ref bS)]) B dL_law_287 (by decide) rfl ?_
  refine z_aload_n B dL_law_289 rfl 3 rfl ?_
  refine z_aload_n B dL_law_290 rfl 5 rfl ?_
  refine z_iload B dL_law_291 1 rfl ?_
  refine z_iconst (v := 1) B dL_law_293 (by decide) ?_
  refine z_iadd B dL_law_294 ?_
  refine z_seti (y := 1) (by decide) ?_
  refine z_sld (j := 1) (x := 0) B hX hbl hbA (by decide) (show ¬ ((1 : Int32) < 0 ∨ 6 ≤ (1 : Int32).toNatClampNeg) by decide) h_x1 dL_law_295 ?_
  refine z_aload_n B dL_law_296 rfl 5 rfl ?_
  refine z_iload B dL_law_297 1 rfl ?_
  refine z_iconst (v := 2) B dL_law_299 (by decide) ?_
  refine z_iadd B dL_law_300 ?_
  refine z_seti (y := 2) (by decide) ?_
  refine z_sld (j := 2) (x := x2) B hX hbl hbA (by decide) (show ¬ ((2 : Int32) < 0 ∨ 6 ≤ (2 : Int32).toNatClampNeg) by decide) h_x2 dL_law_301 ?_
  refine z_aload_n B dL_law_302 rfl 5 rfl ?_
  refine z_iload B dL_law_303 1 rfl ?_
  refine z_iconst (v := 3) B dL_law_305 (by decide) ?_
  refine z_iadd B dL_law_306 ?_
  refine z_seti (y := 3) (by decide) ?_
  refine z_sld (j := 3) (x := x3) B hX hbl hbA (by decide) (show ¬ ((3 : Int32) < 0 ∨ 6 ≤ (3 : Int32).toNatClampNeg) by decide) h_x3 dL_law_307 ?_
  refine z_aload_n B dL_law_308 rfl 5 rfl ?_
  refine z_iload B dL_law_309 1 rfl ?_
  refine z_iconst (v := 4) B dL_law_311 (by decide) ?_
  refine z_iadd B dL_law_312 ?_
  refine z_seti (y := 4) (by decide) ?_
  refine z_sld (j := 4) (x := x4) B hX hbl hbA (by decide) (show ¬ ((4 : Int32) < 0 ∨ 6 ≤ (4 : Int32).toNatClampNeg) by decide) h_x4 dL_law_313 ?_
  refine z_aload_n B dL_law_314 rfl 5 rfl ?_
  refine z_iload B dL_law_315 1 rfl ?_
  refine z_iconst (v := 5) B dL_law_317 (by decide) ?_
  refine z_iadd B dL_law_318 ?_
  refine z_seti (y := 5) (by decide) ?_
  refine z_sld (j := 5) (x := x5) B hX hbl hbA (by decide) (show ¬ ((5 : Int32) < 0 ∨ 6 ≤ (5 : Int32).toNatClampNeg) by decide) h_x5 dL_law_319 ?_
  refine z_cVi (As := [.int 0, .int x2, .int x3, .int x4, .int x5]) (rest := []) B cw_L_86 cx_10 dL_law_320 (ci_X9_check_427 l (σ := (ap b (wx_Z σ z) [] [] [])) (b := b) (lyA (lyZ hK)) x2 x3 x4 x5 q1_x2 q2_x2 q1_x3 q2_x3 q1_x4 q2_x4 q1_x5 q2_x5) (lKA (lKZ (hk_K hK 405 rfl rfl))) rfl (by decide) rfl (Nat.le_of_ble_eq_true rfl) (by decide) (fun r u hu => ?_)
  refine z_eqs (σ' := (ap b (wx_Z σ z) [(405, 0, 1)] [] [])) (hu.2.trans ap_ap) ?_
  show zx p l e _ s m _ below meth c g 8 _ _ _ _ 323 [(5, .int 1), (4, .int 0), (3, .ref (b + 431)), (2, .ref (b + 405)), (1, .ref (b + 0)), (0, .ref bS)] _
  refine z_seti (y := 0) hu.1 ?_
  refine z_istore (lv' := [(6, .int 0), (5, .int 1), (4, .int 0), (3, .ref (b + 431)), (2, .ref (b + 405)), (1, .ref (b + 0)), (0, .ref bS)]) B dL_law_323 (by decide) rfl ?_
  refine z_aload_n B dL_law_325 rfl 4 rfl ?_
  refine z_cVi (As := []) (rest := []) B cw_L_80 cx_10 dL_law_326 (ci_X9_thrown_31 l (σ := (ap b (wx_Z σ z) [(405, 0, 1)] [] [])) (b := b) (lyA (lyZ hK)) (rI_at 405 0 rfl)) (lKA (lKZ (hk_K hK 405 rfl rfl))) rfl (by decide) rfl (Nat.le_of_ble_eq_true rfl) (by decide) (fun r u hu => ?_)
  refine z_eqs (σ' := (ap b (wx_Z σ z) [(405, 0, 1)] [] [])) hu.2 ?_
  show zx p l e _ s m _ below meth c g 8 _ _ _ _ 329 [(6, .int 0), (5, .int 1), (4, .int 0), (3, .ref (b + 431)), (2, .ref (b + 405)), (1, .ref (b + 0)), (0, .ref bS)] _
  refine z_seti (y := 1) hu.1 ?_
  refine z_iload B dL_law_329 1 rfl ?_
  refine z_icmp_eq (tgt := 336) B dL_law_331 (by decide) (fun _ => ?_) (fun h => absurd (by decide) h)
  refine z_iload B dL_law_336 1 rfl ?_
  refine z_if_ne (tgt := 353) B dL_law_338 (by decide) (fun _ => ?_) (fun h => absurd h (by decide))
  refine z_goto (tgt := 1395) B dL_law_353 (by decide) ?_
  exact z_widen (Nat.le_of_ble_eq_true rfl) (Nat.le_of_ble_eq_true rfl) (z_sub _ [2, 6] rfl (kk _))
set_option maxRecDepth 100000 in
set_option maxHeartbeats 4000000 in
theorem lf_1_166 {p : Program} {l : Launch} {e : Env} {s : State} {m : MethodId} {args : Array Value} {below : List Frame} {meth : Method} {c : Code} {g : gx_T} {Q : State → Prop} {σ : sx_T} {b t bS : Nat} {xs : Nat → Int32} (hlt : l.stackTraces = false) (B : zx_B p s m args meth c code RL 8 g) (hX : va_X bS 6 xs s s.heap) (hbl : bS < s.heap.size) (hbA : ¬ gx_b g ≤ bS) (hF : fz_P b t σ) (h_x1 : xs 1 = 0) {x2 : Int32} (h_x2 : xs 2 = x2) (q1_x2 : (20 : Int) ≤ x2.toInt) (q2_x2 : x2.toInt ≤ (2147483647 : Int)) {x3 : Int32} (h_x3 : xs 3 = x3) (q1_x3 : (0 : Int) ≤ x3.toInt) (q2_x3 : x3.toInt ≤ (17 : Int)) {x4 : Int32} (h_x4 : xs 4 = x4) (q1_x4 : (100 : Int) ≤ x4.toInt) (q2_x4 : x4.toInt ≤ (2147483647 : Int)) {x5 : Int32} (h_x5 : xs 5 = x5) (q1_x5 : (-2147483648 : Int) ≤ x5.toInt) (q2_x5 : x5.toInt ≤ (2147483647 : Int)) (kk : ∀ σ', zx p l e room_1 s m args below meth c g 8 600002 7302232 Q σ' 1395 [(4, .int 0), (0, .ref bS)] []) : zx p l e room_1 s m args below meth c g 8 500 100000 Q σ 252 [(4, .int 0), (3, .ref (b + 431)), (2, .ref (b + 405)), (1, .ref (b + 0)), (0, .ref bS)] [] := by
  have hK := fz_lay hF
  refine z_eqs (σ' := (ap b σ [] [] [])) rfl ?_
  refine z_aload_n B dL_law_252 rfl 3 rfl ?_
  refine z_aload_n B dL_law_253 rfl 4 rfl ?_
  refine z_iload B dL_law_254 0 rfl ?_
  refine z_iconst (v := 1) B dL_law_256 (by decide) ?_
  refine z_iadd B dL_law_257 ?_
  refine z_seti (y := 1) (by decide) ?_
  refine z_sld (j := 1) (x := 0) B hX hbl hbA (by decide) (show ¬ ((1 : Int32) < 0 ∨ 6 ≤ (1 : Int32).toNatClampNeg) by decide) h_x1 dL_law_258 ?_
  refine z_aload_n B dL_law_259 rfl 4 rfl ?_
  refine z_iload B dL_law_260 0 rfl ?_
  refine z_iconst (v := 2) B dL_law_262 (by decide) ?_
  refine z_iadd B dL_law_263 ?_
  refine z_seti (y := 2) (by decide) ?_
  refine z_sld (j := 2) (x := x2) B hX hbl hbA (by decide) (show ¬ ((2 : Int32) < 0 ∨ 6 ≤ (2 : Int32).toNatClampNeg) by decide) h_x2 dL_law_264 ?_
  refine z_aload_n B dL_law_265 rfl 4 rfl ?_
  refine z_iload B dL_law_266 0 rfl ?_
  refine z_iconst (v := 3) B dL_law_268 (by decide) ?_
  refine z_iadd B dL_law_269 ?_
  refine z_seti (y := 3) (by decide) ?_
  refine z_sld (j := 3) (x := x3) B hX hbl hbA (by decide) (show ¬ ((3 : Int32) < 0 ∨ 6 ≤ (3 : Int32).toNatClampNeg) by decide) h_x3 dL_law_270 ?_
  refine z_aload_n B dL_law_271 rfl 4 rfl ?_
  refine z_iload B dL_law_272 0 rfl ?_
  refine z_iconst (v := 4) B dL_law_274 (by decide) ?_
  refine z_iadd B dL_law_275 ?_
  refine z_seti (y := 4) (by decide) ?_
  refine z_sld (j := 4) (x := x4) B hX hbl hbA (by decide) (show ¬ ((4 : Int32) < 0 ∨ 6 ≤ (4 : Int32).toNatClampNeg) by decide) h_x4 dL_law_276 ?_
  refine z_aload_n B dL_law_277 rfl 4 rfl ?_
  refine z_iload B dL_law_278 0 rfl ?_
  refine z_iconst (v := 5) B dL_law_280 (by decide) ?_
  refine z_iadd B dL_law_281 ?_
  refine z_seti (y := 5) (by decide) ?_
  refine z_sld (j := 5) (x := x5) B hX hbl hbA (by decide) (show ¬ ((5 : Int32) < 0 ∨ 6 ≤ (5 : Int32).toNatClampNeg) by decide) h_x5 dL_law_282 ?_
  refine z_aload_n B dL_law_283 rfl 1 rfl ?_
  refine z_cSWi (As := [.ref (b + 0), .int 0, .int x2, .int x3, .int x4, .int x5, .ref (b + 431)]) (rest := []) B cw_L_84 dL_law_284 (ci_L_check_422 l hlt (σ := (ap b σ [] [] [])) (b := b) (lyA hK) x2 x3 x4 x5 q1_x2 q2_x2 (rR_at 0 0 (fz_R hF 0 0 rfl rfl)) (rR_at 1 0 (fz_R hF 1 0 rfl rfl))) rfl (by decide) rfl (Nat.le_of_ble_eq_true rfl) (by decide) (fun r u hu => ?_)
  obtain ⟨hu1, z, hu⟩ := hu
  refine z_eqs (σ' := (ap b (wx_Z σ z) [] [] [])) (hu.trans az_ap) ?_
  show zx p l e _ s m _ below meth c g 8 _ _ _ _ 287 [(4, .int 0), (3, .ref (b + 431)), (2, .ref (b + 405)), (1, .ref (b + 0)), (0, .ref bS)] _
  refine z_seti (y := 1) hu1 ?_
  refine z_istore (lv' := [(5, .int 1), (4, .int 0), (3, .ref (b + 431)), (2, .ref (b + 405)), (1, .ref (b + 0)), (0, .ref bS)]) B dL_law_287 (by decide) rfl ?_
  refine z_aload_n B dL_law_289 rfl 3 rfl ?_
  refine z_aload_n B dL_law_290 rfl 5 rfl ?_
  refine z_iload B dL_law_291 1 rfl ?_
  refine z_iconst (v := 1) B dL_law_293 (by decide) ?_
  refine z_iadd B dL_law_294 ?_
  refine z_seti (y := 1) (by decide) ?_
  refine z_sld (j := 1) (x := 0) B hX hbl hbA (by decide) (show ¬ ((1 : Int32) < 0 ∨ 6 ≤ (1 : Int32).toNatClampNeg) by decide) h_x1 dL_law_295 ?_
  refine z_aload_n B dL_law_296 rfl 5 rfl ?_
  refine z_iload B dL_law_297 1 rfl ?_
  refine z_iconst (v := 2) B dL_law_299 (by decide) ?_
  refine z_iadd B dL_law_300 ?_
  refine z_seti (y := 2) (by decide) ?_
  refine z_sld (j := 2) (x := x2) B hX hbl hbA (by decide) (show ¬ ((2 : Int32) < 0 ∨ 6 ≤ (2 : Int32).toNatClampNeg) by decide) h_x2 dL_law_301 ?_
  refine z_aload_n B dL_law_302 rfl 5 rfl ?_
  refine z_iload B dL_law_303 1 rfl ?_
  refine z_iconst (v := 3) B dL_law_305 (by decide) ?_
  refine z_iadd B dL_law_306 ?_
  refine z_seti (y := 3) (by decide) ?_
  refine z_sld (j := 3) (x := x3) B hX hbl hbA (by decide) (show ¬ ((3 : Int32) < 0 ∨ 6 ≤ (3 : Int32).toNatClampNeg) by decide) h_x3 dL_law_307 ?_
  refine z_aload_n B dL_law_308 rfl 5 rfl ?_
  refine z_iload B dL_law_309 1 rfl ?_
  refine z_iconst (v := 4) B dL_law_311 (by decide) ?_
  refine z_iadd B dL_law_312 ?_
  refine z_seti (y := 4) (by decide) ?_
  refine z_sld (j := 4) (x := x4) B hX hbl hbA (by decide) (show ¬ ((4 : Int32) < 0 ∨ 6 ≤ (4 : Int32).toNatClampNeg) by decide) h_x4 dL_law_313 ?_
  refine z_aload_n B dL_law_314 rfl 5 rfl ?_
  refine z_iload B dL_law_315 1 rfl ?_
  refine z_iconst (v := 5) B dL_law_317 (by decide) ?_
  refine z_iadd B dL_law_318 ?_
  refine z_seti (y := 5) (by decide) ?_
  refine z_sld (j := 5) (x := x5) B hX hbl hbA (by decide) (show ¬ ((5 : Int32) < 0 ∨ 6 ≤ (5 : Int32).toNatClampNeg) by decide) h_x5 dL_law_319 ?_
  refine z_cVi (As := [.int 0, .int x2, .int x3, .int x4, .int x5]) (rest := []) B cw_L_86 cx_10 dL_law_320 (ci_X9_check_428 l (σ := (ap b (wx_Z σ z) [] [] [])) (b := b) (lyA (lyZ hK)) x2 x3 x4 x5 q1_x2 q2_x2 q1_x3 q2_x3 q1_x4 q2_x4) (lKA (lKZ (hk_K hK 405 rfl rfl))) rfl (by decide) rfl (Nat.le_of_ble_eq_true rfl) (by decide) (fun r u hu => ?_)
  refine z_eqs (σ' := (ap b (wx_Z σ z) [(405, 0, 1)] [] [])) (hu.2.trans ap_ap) ?_
  show zx p l e _ s m _ below meth c g 8 _ _ _ _ 323 [(5, .int 1), (4, .int 0), (3, .ref (b + 431)), (2, .ref (b + 405)), (1, .ref (b + 0)), (0, .ref bS)] _
  refine z_seti (y := 0) hu.1 ?_
  refine z_istore (lv' := [(6, .int 0), (5, .int 1), (4, .int 0), (3, .ref (b + 431)), (2, .ref (b + 405)), (1, .ref (b + 0)), (0, .ref bS)]) B dL_law_323 (by decide) rfl ?_
  refine z_aload_n B dL_law_325 rfl 4 rfl ?_
  refine z_cVi (As := []) (rest := []) B cw_L_80 cx_10 dL_law_326 (ci_X9_thrown_31 l (σ := (ap b (wx_Z σ z) [(405, 0, 1)] [] [])) (b := b) (lyA (lyZ hK)) (rI_at 405 0 rfl)) (lKA (lKZ (hk_K hK 405 rfl rfl))) rfl (by decide) rfl (Nat.le_of_ble_eq_true rfl) (by decide) (fun r u hu => ?_)
  refine z_eqs (σ' := (ap b (wx_Z σ z) [(405, 0, 1)] [] [])) hu.2 ?_
  show zx p l e _ s m _ below meth c g 8 _ _ _ _ 329 [(6, .int 0), (5, .int 1), (4, .int 0), (3, .ref (b + 431)), (2, .ref (b + 405)), (1, .ref (b + 0)), (0, .ref bS)] _
  refine z_seti (y := 1) hu.1 ?_
  refine z_iload B dL_law_329 1 rfl ?_
  refine z_icmp_eq (tgt := 336) B dL_law_331 (by decide) (fun _ => ?_) (fun h => absurd (by decide) h)
  refine z_iload B dL_law_336 1 rfl ?_
  refine z_if_ne (tgt := 353) B dL_law_338 (by decide) (fun _ => ?_) (fun h => absurd h (by decide))
  refine z_goto (tgt := 1395) B dL_law_353 (by decide) ?_
  exact z_widen (Nat.le_of_ble_eq_true rfl) (Nat.le_of_ble_eq_true rfl) (z_sub _ [2, 6] rfl (kk _))
set_option maxRecDepth 100000 in
set_option maxHeartbeats 4000000 in
theorem lf_1_167 {p : Program} {l : Launch} {e : Env} {s : State} {m : MethodId} {args : Array Value} {below : List Frame} {meth : Method} {c : Code} {g : gx_T} {Q : State → Prop} {σ : sx_T} {b t bS : Nat} {xs : Nat → Int32} (hlt : l.stackTraces = false) (B : zx_B p s m args meth c code RL 8 g) (hX : va_X bS 6 xs s s.heap) (hbl : bS < s.heap.size) (hbA : ¬ gx_b g ≤ bS) (hF : fz_P b t σ) (h_x1 : xs 1 = 0) {x2 : Int32} (h_x2 : xs 2 = x2) (q1_x2 : (20 : Int) ≤ x2.toInt) (q2_x2 : x2.toInt ≤ (2147483647 : Int)) {x3 : Int32} (h_x3 : xs 3 = x3) (q1_x3 : (18 : Int) ≤ x3.toInt) (q2_x3 : x3.toInt ≤ (2147483647 : Int)) {x4 : Int32} (h_x4 : xs 4 = x4) (q1_x4 : (-2147483648 : Int) ≤ x4.toInt) (q2_x4 : x4.toInt ≤ (2147483647 : Int)) {x5 : Int32} (h_x5 : xs 5 = x5) (q1_x5 : (-2147483648 : Int) ≤ x5.toInt) (q2_x5 : x5.toInt ≤ (2147483647 : Int)) (kk : ∀ σ', zx p l e room_1 s m args below meth c g 8 600002 7302232 Q σ' 1395 [(4, .int 0), (0, .ref bS)] []) : zx p l e room_1 s m args below meth c g 8 500 100000 Q σ 252 [(4, .int 0), (3, .ref (b + 431)), (2, .ref (b + 405)), (1, .ref (b + 0)), (0, .ref bS)] [] := by
  have hK := fz_lay hF
  refine z_eqs (σ' := (ap b σ [] [] [])) rfl ?_
  refine z_aload_n B dL_law_252 rfl 3 rfl ?_
  refine z_aload_n B dL_law_253 rfl 4 rfl ?_
  refine z_iload B dL_law_254 0 rfl ?_
  refine z_iconst (v := 1) B dL_law_256 (by decide) ?_
  refine z_iadd B dL_law_257 ?_
  refine z_seti (y := 1) (by decide) ?_
  refine z_sld (j := 1) (x := 0) B hX hbl hbA (by decide) (show ¬ ((1 : Int32) < 0 ∨ 6 ≤ (1 : Int32).toNatClampNeg) by decide) h_x1 dL_law_258 ?_
  refine z_aload_n B dL_law_259 rfl 4 rfl ?_
  refine z_iload B dL_law_260 0 rfl ?_
  refine z_iconst (v := 2) B dL_law_262 (by decide) ?_
  refine z_iadd B dL_law_263 ?_
  refine z_seti (y := 2) (by decide) ?_
  refine z_sld (j := 2) (x := x2) B hX hbl hbA (by decide) (show ¬ ((2 : Int32) < 0 ∨ 6 ≤ (2 : Int32).toNatClampNeg) by decide) h_x2 dL_law_264 ?_
  refine z_aload_n B dL_law_265 rfl 4 rfl ?_
  refine z_iload B dL_law_266 0 rfl ?_
  refine z_iconst (v := 3) B dL_law_268 (by decide) ?_
  refine z_iadd B dL_law_269 ?_
  refine z_seti (y := 3) (by decide) ?_
  refine z_sld (j := 3) (x := x3) B hX hbl hbA (by decide) (show ¬ ((3 : Int32) < 0 ∨ 6 ≤ (3 : Int32).toNatClampNeg) by decide) h_x3 dL_law_270 ?_
  refine z_aload_n B dL_law_271 rfl 4 rfl ?_
  refine z_iload B dL_law_272 0 rfl ?_
  refine z_iconst (v := 4) B dL_law_274 (by decide) ?_
  refine z_iadd B dL_law_275 ?_
  refine z_seti (y := 4) (by decide) ?_
  refine z_sld (j := 4) (x := x4) B hX hbl hbA (by decide) (show ¬ ((4 : Int32) < 0 ∨ 6 ≤ (4 : Int32).toNatClampNeg) by decide) h_x4 dL_law_276 ?_
  refine z_aload_n B dL_law_277 rfl 4 rfl ?_
  refine z_iload B dL_law_278 0 rfl ?_
  refine z_iconst (v := 5) B dL_law_280 (by decide) ?_
  refine z_iadd B dL_law_281 ?_
  refine z_seti (y := 5) (by decide) ?_
  refine z_sld (j := 5) (x := x5) B hX hbl hbA (by decide) (show ¬ ((5 : Int32) < 0 ∨ 6 ≤ (5 : Int32).toNatClampNeg) by decide) h_x5 dL_law_282 ?_
  refine z_aload_n B dL_law_283 rfl 1 rfl ?_
  refine z_cSWi (As := [.ref (b + 0), .int 0, .int x2, .int x3, .int x4, .int x5, .ref (b + 431)]) (rest := []) B cw_L_84 dL_law_284 (ci_L_check_422 l hlt (σ := (ap b σ [] [] [])) (b := b) (lyA hK) x2 x3 x4 x5 q1_x2 q2_x2 (rR_at 0 0 (fz_R hF 0 0 rfl rfl)) (rR_at 1 0 (fz_R hF 1 0 rfl rfl))) rfl (by decide) rfl (Nat.le_of_ble_eq_true rfl) (by decide) (fun r u hu => ?_)
  obtain ⟨hu1, z, hu⟩ := hu
  refine z_eqs (σ' := (ap b (wx_Z σ z) [] [] [])) (hu.trans az_ap) ?_
  show zx p l e _ s m _ below meth c g 8 _ _ _ _ 287 [(4, .int 0), (3, .ref (b + 431)), (2, .ref (b + 405)), (1, .ref (b + 0)), (0, .ref bS)] _
  refine z_seti (y := 1) hu1 ?_
  refine z_istore (lv' := [(5, .int 1), (4, .int 0), (3, .ref (b + 431)), (2, .ref (b + 405)), (1, .ref (b + 0)), (0, .ref bS)]) B dL_law_287 (by decide) rfl ?_
  refine z_aload_n B dL_law_289 rfl 3 rfl ?_
  refine z_aload_n B dL_law_290 rfl 5 rfl ?_
  refine z_iload B dL_law_291 1 rfl ?_
  refine z_iconst (v := 1) B dL_law_293 (by decide) ?_
  refine z_iadd B dL_law_294 ?_
  refine z_seti (y := 1) (by decide) ?_
  refine z_sld (j := 1) (x := 0) B hX hbl hbA (by decide) (show ¬ ((1 : Int32) < 0 ∨ 6 ≤ (1 : Int32).toNatClampNeg) by decide) h_x1 dL_law_295 ?_
  refine z_aload_n B dL_law_296 rfl 5 rfl ?_
  refine z_iload B dL_law_297 1 rfl ?_
  refine z_iconst (v := 2) B dL_law_299 (by decide) ?_
  refine z_iadd B dL_law_300 ?_
  refine z_seti (y := 2) (by decide) ?_
  refine z_sld (j := 2) (x := x2) B hX hbl hbA (by decide) (show ¬ ((2 : Int32) < 0 ∨ 6 ≤ (2 : Int32).toNatClampNeg) by decide) h_x2 dL_law_301 ?_
  refine z_aload_n B dL_law_302 rfl 5 rfl ?_
  refine z_iload B dL_law_303 1 rfl ?_
  refine z_iconst (v := 3) B dL_law_305 (by decide) ?_
  refine z_iadd B dL_law_306 ?_
  refine z_seti (y := 3) (by decide) ?_
  refine z_sld (j := 3) (x := x3) B hX hbl hbA (by decide) (show ¬ ((3 : Int32) < 0 ∨ 6 ≤ (3 : Int32).toNatClampNeg) by decide) h_x3 dL_law_307 ?_
  refine z_aload_n B dL_law_308 rfl 5 rfl ?_
  refine z_iload B dL_law_309 1 rfl ?_
  refine z_iconst (v := 4) B dL_law_311 (by decide) ?_
  refine z_iadd B dL_law_312 ?_
  refine z_seti (y := 4) (by decide) ?_
  refine z_sld (j := 4) (x := x4) B hX hbl hbA (by decide) (show ¬ ((4 : Int32) < 0 ∨ 6 ≤ (4 : Int32).toNatClampNeg) by decide) h_x4 dL_law_313 ?_
  refine z_aload_n B dL_law_314 rfl 5 rfl ?_
  refine z_iload B dL_law_315 1 rfl ?_
  refine z_iconst (v := 5) B dL_law_317 (by decide) ?_
  refine z_iadd B dL_law_318 ?_
  refine z_seti (y := 5) (by decide) ?_
  refine z_sld (j := 5) (x := x5) B hX hbl hbA (by decide) (show ¬ ((5 : Int32) < 0 ∨ 6 ≤ (5 : Int32).toNatClampNeg) by decide) h_x5 dL_law_319 ?_
  refine z_cVi (As := [.int 0, .int x2, .int x3, .int x4, .int x5]) (rest := []) B cw_L_86 cx_10 dL_law_320 (ci_X9_check_429 l (σ := (ap b (wx_Z σ z) [] [] [])) (b := b) (lyA (lyZ hK)) x2 x3 x4 x5 q1_x2 q2_x2 q1_x3 q2_x3) (lKA (lKZ (hk_K hK 405 rfl rfl))) rfl (by decide) rfl (Nat.le_of_ble_eq_true rfl) (by decide) (fun r u hu => ?_)
  refine z_eqs (σ' := (ap b (wx_Z σ z) [(405, 0, 1)] [] [])) (hu.2.trans ap_ap) ?_
  show zx p l e _ s m _ below meth c g 8 _ _ _ _ 323 [(5, .int 1), (4, .int 0), (3, .ref (b + 431)), (2, .ref (b + 405)), (1, .ref (b + 0)), (0, .ref bS)] _
  refine z_seti (y := 0) hu.1 ?_
  refine z_istore (lv' := [(6, .int 0), (5, .int 1), (4, .int 0), (3, .ref (b + 431)), (2, .ref (b + 405)), (1, .ref (b + 0)), (0, .ref bS)]) B dL_law_323 (by decide) rfl ?_
  refine z_aload_n B dL_law_325 rfl 4 rfl ?_
  refine z_cVi (As := []) (rest := []) B cw_L_80 cx_10 dL_law_326 (ci_X9_thrown_31 l (σ := (ap b (wx_Z σ z) [(405, 0, 1)] [] [])) (b := b) (lyA (lyZ hK)) (rI_at 405 0 rfl)) (lKA (lKZ (hk_K hK 405 rfl rfl))) rfl (by decide) rfl (Nat.le_of_ble_eq_true rfl) (by decide) (fun r u hu => ?_)
  refine z_eqs (σ' := (ap b (wx_Z σ z) [(405, 0, 1)] [] [])) hu.2 ?_
  show zx p l e _ s m _ below meth c g 8 _ _ _ _ 329 [(6, .int 0), (5, .int 1), (4, .int 0), (3, .ref (b + 431)), (2, .ref (b + 405)), (1, .ref (b + 0)), (0, .ref bS)] _
  refine z_seti (y := 1) hu.1 ?_
  refine z_iload B dL_law_329 1 rfl ?_
  refine z_icmp_eq (tgt := 336) B dL_law_331 (by decide) (fun _ => ?_) (fun h => absurd (by decide) h)
  refine z_iload B dL_law_336 1 rfl ?_
  refine z_if_ne (tgt := 353) B dL_law_338 (by decide) (fun _ => ?_) (fun h => absurd h (by decide))
  refine z_goto (tgt := 1395) B dL_law_353 (by decide) ?_
  exact z_widen (Nat.le_of_ble_eq_true rfl) (Nat.le_of_ble_eq_true rfl) (z_sub _ [2, 6] rfl (kk _))
set_option maxRecDepth 100000 in
set_option maxHeartbeats 4000000 in
theorem lf_1_168 {p : Program} {l : Launch} {e : Env} {s : State} {m : MethodId} {args : Array Value} {below : List Frame} {meth : Method} {c : Code} {g : gx_T} {Q : State → Prop} {σ : sx_T} {b t bS : Nat} {xs : Nat → Int32} (hlt : l.stackTraces = false) (B : zx_B p s m args meth c code RL 8 g) (hX : va_X bS 6 xs s s.heap) (hbl : bS < s.heap.size) (hbA : ¬ gx_b g ≤ bS) (hF : fz_P b t σ) (h_x1 : xs 1 = 1) {x2 : Int32} (h_x2 : xs 2 = x2) (q1_x2 : (-2147483648 : Int) ≤ x2.toInt) (q2_x2 : x2.toInt ≤ (-1 : Int)) {x3 : Int32} (h_x3 : xs 3 = x3) (q1_x3 : (-2147483648 : Int) ≤ x3.toInt) (q2_x3 : x3.toInt ≤ (-1 : Int)) {x4 : Int32} (h_x4 : xs 4 = x4) (q1_x4 : (-2147483648 : Int) ≤ x4.toInt) (q2_x4 : x4.toInt ≤ (2147483647 : Int)) {x5 : Int32} (h_x5 : xs 5 = x5) (q1_x5 : (-2147483648 : Int) ≤ x5.toInt) (q2_x5 : x5.toInt ≤ (2147483647 : Int)) (kk : ∀ σ', zx p l e room_1 s m args below meth c g 8 600002 7302232 Q σ' 1395 [(4, .int 0), (0, .ref bS)] []) : zx p l e room_1 s m args below meth c g 8 500 100000 Q σ 252 [(4, .int 0), (3, .ref (b + 431)), (2, .ref (b + 405)), (1, .ref (b + 0)), (0, .ref bS)] [] := by
  have hK := fz_lay hF
  refine z_eqs (σ' := (ap b σ [] [] [])) rfl ?_
  refine z_aload_n B dL_law_252 rfl 3 rfl ?_
  refine z_aload_n B dL_law_253 rfl 4 rfl ?_
  refine z_iload B dL_law_254 0 rfl ?_
  refine z_iconst (v := 1) B dL_law_256 (by decide) ?_
  refine z_iadd B dL_law_257 ?_
  refine z_seti (y := 1) (by decide) ?_
  refine z_sld (j := 1) (x := 1) B hX hbl hbA (by decide) (show ¬ ((1 : Int32) < 0 ∨ 6 ≤ (1 : Int32).toNatClampNeg) by decide) h_x1 dL_law_258 ?_
  refine z_aload_n B dL_law_259 rfl 4 rfl ?_
  refine z_iload B dL_law_260 0 rfl ?_
  refine z_iconst (v := 2) B dL_law_262 (by decide) ?_
  refine z_iadd B dL_law_263 ?_
  refine z_seti (y := 2) (by decide) ?_
  refine z_sld (j := 2) (x := x2) B hX hbl hbA (by decide) (show ¬ ((2 : Int32) < 0 ∨ 6 ≤ (2 : Int32).toNatClampNeg) by decide) h_x2 dL_law_264 ?_
  refine z_aload_n B dL_law_265 rfl 4 rfl ?_
  refine z_iload B dL_law_266 0 rfl ?_
  refine z_iconst (v := 3) B dL_law_268 (by decide) ?_
  refine z_iadd B dL_law_269 ?_
  refine z_seti (y := 3) (by decide) ?_
  refine z_sld (j := 3) (x := x3) B hX hbl hbA (by decide) (show ¬ ((3 : Int32) < 0 ∨ 6 ≤ (3 : Int32).toNatClampNeg) by decide) h_x3 dL_law_270 ?_
  refine z_aload_n B dL_law_271 rfl 4 rfl ?_
  refine z_iload B dL_law_272 0 rfl ?_
  refine z_iconst (v := 4) B dL_law_274 (by decide) ?_
  refine z_iadd B dL_law_275 ?_
  refine z_seti (y := 4) (by decide) ?_
  refine z_sld (j := 4) (x := x4) B hX hbl hbA (by decide) (show ¬ ((4 : Int32) < 0 ∨ 6 ≤ (4 : Int32).toNatClampNeg) by decide) h_x4 dL_law_276 ?_
  refine z_aload_n B dL_law_277 rfl 4 rfl ?_
  refine z_iload B dL_law_278 0 rfl ?_
  refine z_iconst (v := 5) B dL_law_280 (by decide) ?_
  refine z_iadd B dL_law_281 ?_
  refine z_seti (y := 5) (by decide) ?_
  refine z_sld (j := 5) (x := x5) B hX hbl hbA (by decide) (show ¬ ((5 : Int32) < 0 ∨ 6 ≤ (5 : Int32).toNatClampNeg) by decide) h_x5 dL_law_282 ?_
  refine z_aload_n B dL_law_283 rfl 1 rfl ?_
  refine z_cSWi (As := [.ref (b + 0), .int 1, .int x2, .int x3, .int x4, .int x5, .ref (b + 431)]) (rest := []) B cw_L_84 dL_law_284 (ci_L_check_431 l hlt (σ := (ap b σ [] [] [])) (b := b) (lyA hK) x2 x3 x4 x5 q1_x2 q2_x2 (rR_at 0 0 (fz_R hF 0 0 rfl rfl)) (rR_at 1 1 (fz_R hF 1 1 rfl rfl))) rfl (by decide) rfl (Nat.le_of_ble_eq_true rfl) (by decide) (fun r u hu => ?_)
  obtain ⟨hu1, z, hu⟩ := hu
  refine z_eqs (σ' := (ap b (wx_Z σ z) [] [] [])) (hu.trans az_ap) ?_
  show zx p l e _ s m _ below meth c g 8 _ _ _ _ 287 [(4, .int 0), (3, .ref (b + 431)), (2, .ref (b + 405)), (1, .ref (b + 0)), (0, .ref bS)] _
  refine z_seti (y := 1) hu1 ?_
  refine z_istore (lv' := [(5, .int 1), (4, .int 0), (3, .ref (b + 431)), (2, .ref (b + 405)), (1, .ref (b + 0)), (0, .ref bS)]) B dL_law_287 (by decide) rfl ?_
  refine z_aload_n B dL_law_289 rfl 3 rfl ?_
  refine z_aload_n B dL_law_290 rfl 5 rfl ?_
  refine z_iload B dL_law_291 1 rfl ?_
  refine z_iconst (v := 1) B dL_law_293 (by decide) ?_
  refine z_iadd B dL_law_294 ?_
  refine z_seti (y := 1) (by decide) ?_
  refine z_sld (j := 1) (x := 1) B hX hbl hbA (by decide) (show ¬ ((1 : Int32) < 0 ∨ 6 ≤ (1 : Int32).toNatClampNeg) by decide) h_x1 dL_law_295 ?_
  refine z_aload_n B dL_law_296 rfl 5 rfl ?_
  refine z_iload B dL_law_297 1 rfl ?_
  refine z_iconst (v := 2) B dL_law_299 (by decide) ?_
  refine z_iadd B dL_law_300 ?_
  refine z_seti (y := 2) (by decide) ?_
  refine z_sld (j := 2) (x := x2) B hX hbl hbA (by decide) (show ¬ ((2 : Int32) < 0 ∨ 6 ≤ (2 : Int32).toNatClampNeg) by decide) h_x2 dL_law_301 ?_
  refine z_aload_n B dL_law_302 rfl 5 rfl ?_
  refine z_iload B dL_law_303 1 rfl ?_
  refine z_iconst (v := 3) B dL_law_305 (by decide) ?_
  refine z_iadd B dL_law_306 ?_
  refine z_seti (y := 3) (by decide) ?_
  refine z_sld (j := 3) (x := x3) B hX hbl hbA (by decide) (show ¬ ((3 : Int32) < 0 ∨ 6 ≤ (3 : Int32).toNatClampNeg) by decide) h_x3 dL_law_307 ?_
  refine z_aload_n B dL_law_308 rfl 5 rfl ?_
  refine z_iload B dL_law_309 1 rfl ?_
  refine z_iconst (v := 4) B dL_law_311 (by decide) ?_
  refine z_iadd B dL_law_312 ?_
  refine z_seti (y := 4) (by decide) ?_
  refine z_sld (j := 4) (x := x4) B hX hbl hbA (by decide) (show ¬ ((4 : Int32) < 0 ∨ 6 ≤ (4 : Int32).toNatClampNeg) by decide) h_x4 dL_law_313 ?_
  refine z_aload_n B dL_law_314 rfl 5 rfl ?_
  refine z_iload B dL_law_315 1 rfl ?_
  refine z_iconst (v := 5) B dL_law_317 (by decide) ?_
  refine z_iadd B dL_law_318 ?_
  refine z_seti (y := 5) (by decide) ?_
  refine z_sld (j := 5) (x := x5) B hX hbl hbA (by decide) (show ¬ ((5 : Int32) < 0 ∨ 6 ≤ (5 : Int32).toNatClampNeg) by decide) h_x5 dL_law_319 ?_
  refine z_cVi (As := [.int 1, .int x2, .int x3, .int x4, .int x5]) (rest := []) B cw_L_86 cx_10 dL_law_320 (ci_X9_check_432 l (σ := (ap b (wx_Z σ z) [] [] [])) (b := b) (lyA (lyZ hK)) x2 x3 x4 x5 q1_x2 q2_x2 q1_x3 q2_x3) (lKA (lKZ (hk_K hK 405 rfl rfl))) rfl (by decide) rfl (Nat.le_of_ble_eq_true rfl) (by decide) (fun r u hu => ?_)
  refine z_eqs (σ' := (ap b (wx_Z σ z) [(405, 0, 1)] [] [])) (hu.2.trans ap_ap) ?_
  show zx p l e _ s m _ below meth c g 8 _ _ _ _ 323 [(5, .int 1), (4, .int 0), (3, .ref (b + 431)), (2, .ref (b + 405)), (1, .ref (b + 0)), (0, .ref bS)] _
  refine z_seti (y := 0) hu.1 ?_
  refine z_istore (lv' := [(6, .int 0), (5, .int 1), (4, .int 0), (3, .ref (b + 431)), (2, .ref (b + 405)), (1, .ref (b + 0)), (0, .ref bS)]) B dL_law_323 (by decide) rfl ?_
  refine z_aload_n B dL_law_325 rfl 4 rfl ?_
  refine z_cVi (As := []) (rest := []) B cw_L_80 cx_10 dL_law_326 (ci_X9_thrown_31 l (σ := (ap b (wx_Z σ z) [(405, 0, 1)] [] [])) (b := b) (lyA (lyZ hK)) (rI_at 405 0 rfl)) (lKA (lKZ (hk_K hK 405 rfl rfl))) rfl (by decide) rfl (Nat.le_of_ble_eq_true rfl) (by decide) (fun r u hu => ?_)
  refine z_eqs (σ' := (ap b (wx_Z σ z) [(405, 0, 1)] [] [])) hu.2 ?_
  show zx p l e _ s m _ below meth c g 8 _ _ _ _ 329 [(6, .int 0), (5, .int 1), (4, .int 0), (3, .ref (b + 431)), (2, .ref (b + 405)), (1, .ref (b + 0)), (0, .ref bS)] _
  refine z_seti (y := 1) hu.1 ?_
  refine z_iload B dL_law_329 1 rfl ?_
  refine z_icmp_eq (tgt := 336) B dL_law_331 (by decide) (fun _ => ?_) (fun h => absurd (by decide) h)
  refine z_iload B dL_law_336 1 rfl ?_
  refine z_if_ne (tgt := 353) B dL_law_338 (by decide) (fun _ => ?_) (fun h => absurd h (by decide))
  refine z_goto (tgt := 1395) B dL_law_353 (by decide) ?_
  exact z_widen (Nat.le_of_ble_eq_true rfl) (Nat.le_of_ble_eq_true rfl) (z_sub _ [2, 6] rfl (kk _))
set_option maxRecDepth 100000 in
set_option maxHeartbeats 4000000 in
theorem lf_1_169 {p : Program} {l : Launch} {e : Env} {s : State} {m : MethodId} {args : Array Value} {below : List Frame} {meth : Method} {c : Code} {g : gx_T} {Q : State → Prop} {σ : sx_T} {b t bS : Nat} {xs : Nat → Int32} (hlt : l.stackTraces = false) (B : zx_B p s m args meth c code RL 8 g) (hX : va_X bS 6 xs s s.heap) (hbl : bS < s.heap.size) (hbA : ¬ gx_b g ≤ bS) (hF : fz_P b t σ) (h_x1 : xs 1 = 1) {x2 : Int32} (h_x2 : xs 2 = x2) (q1_x2 : (-2147483648 : Int) ≤ x2.toInt) (q2_x2 : x2.toInt ≤ (-1 : Int)) {x3 : Int32} (h_x3 : xs 3 = x3) (q1_x3 : (0 : Int) ≤ x3.toInt) (q2_x3 : x3.toInt ≤ (17 : Int)) {x4 : Int32} (h_x4 : xs 4 = x4) (q1_x4 : (-2147483648 : Int) ≤ x4.toInt) (q2_x4 : x4.toInt ≤ (-1 : Int)) {x5 : Int32} (h_x5 : xs 5 = x5) (q1_x5 : (-2147483648 : Int) ≤ x5.toInt) (q2_x5 : x5.toInt ≤ (2147483647 : Int)) (kk : ∀ σ', zx p l e room_1 s m args below meth c g 8 600002 7302232 Q σ' 1395 [(4, .int 0), (0, .ref bS)] []) : zx p l e room_1 s m args below meth c g 8 500 100000 Q σ 252 [(4, .int 0), (3, .ref (b + 431)), (2, .ref (b + 405)), (1, .ref (b + 0)), (0, .ref bS)] [] := by
  have hK := fz_lay hF
  refine z_eqs (σ' := (ap b σ [] [] [])) rfl ?_
  refine z_aload_n B dL_law_252 rfl 3 rfl ?_
  refine z_aload_n B dL_law_253 rfl 4 rfl ?_
  refine z_iload B dL_law_254 0 rfl ?_
  refine z_iconst (v := 1) B dL_law_256 (by decide) ?_
  refine z_iadd B dL_law_257 ?_
  refine z_seti (y := 1) (by decide) ?_
  refine z_sld (j := 1) (x := 1) B hX hbl hbA (by decide) (show ¬ ((1 : Int32) < 0 ∨ 6 ≤ (1 : Int32).toNatClampNeg) by decide) h_x1 dL_law_258 ?_
  refine z_aload_n B dL_law_259 rfl 4 rfl ?_
  refine z_iload B dL_law_260 0 rfl ?_
  refine z_iconst (v := 2) B dL_law_262 (by decide) ?_
  refine z_iadd B dL_law_263 ?_
  refine z_seti (y := 2) (by decide) ?_
  refine z_sld (j := 2) (x := x2) B hX hbl hbA (by decide) (show ¬ ((2 : Int32) < 0 ∨ 6 ≤ (2 : Int32).toNatClampNeg) by decide) h_x2 dL_law_264 ?_
  refine z_aload_n B dL_law_265 rfl 4 rfl ?_
  refine z_iload B dL_law_266 0 rfl ?_
  refine z_iconst (v := 3) B dL_law_268 (by decide) ?_
  refine z_iadd B dL_law_269 ?_
  refine z_seti (y := 3) (by decide) ?_
  refine z_sld (j := 3) (x := x3) B hX hbl hbA (by decide) (show ¬ ((3 : Int32) < 0 ∨ 6 ≤ (3 : Int32).toNatClampNeg) by decide) h_x3 dL_law_270 ?_
  refine z_aload_n B dL_law_271 rfl 4 rfl ?_
  refine z_iload B dL_law_272 0 rfl ?_
  refine z_iconst (v := 4) B dL_law_274 (by decide) ?_
  refine z_iadd B dL_law_275 ?_
  refine z_seti (y := 4) (by decide) ?_
  refine z_sld (j := 4) (x := x4) B hX hbl hbA (by decide) (show ¬ ((4 : Int32) < 0 ∨ 6 ≤ (4 : Int32).toNatClampNeg) by decide) h_x4 dL_law_276 ?_
  refine z_aload_n B dL_law_277 rfl 4 rfl ?_
  refine z_iload B dL_law_278 0 rfl ?_
  refine z_iconst (v := 5) B dL_law_280 (by decide) ?_
  refine z_iadd B dL_law_281 ?_
  refine z_seti (y := 5) (by decide) ?_
  refine z_sld (j := 5) (x := x5) B hX hbl hbA (by decide) (show ¬ ((5 : Int32) < 0 ∨ 6 ≤ (5 : Int32).toNatClampNeg) by decide) h_x5 dL_law_282 ?_
  refine z_aload_n B dL_law_283 rfl 1 rfl ?_
  refine z_cSWi (As := [.ref (b + 0), .int 1, .int x2, .int x3, .int x4, .int x5, .ref (b + 431)]) (rest := []) B cw_L_84 dL_law_284 (ci_L_check_431 l hlt (σ := (ap b σ [] [] [])) (b := b) (lyA hK) x2 x3 x4 x5 q1_x2 q2_x2 (rR_at 0 0 (fz_R hF 0 0 rfl rfl)) (rR_at 1 1 (fz_R hF 1 1 rfl rfl))) rfl (by decide) rfl (Nat.le_of_ble_eq_true rfl) (by decide) (fun r u hu => ?_)
  obtain ⟨hu1, z, hu⟩ := hu
  refine z_eqs (σ' := (ap b (wx_Z σ z) [] [] [])) (hu.trans az_ap) ?_
  show zx p l e _ s m _ below meth c g 8 _ _ _ _ 287 [(4, .int 0), (3, .ref (b + 431)), (2, .ref (b + 405)), (1, .ref (b + 0)), (0, .ref bS)] _
  refine z_seti (y := 1) hu1 ?_
  refine z_istore (lv' := [(5, .int 1), (4, .int 0), (3, .ref (b + 431)), (2, .ref (b + 405)), (1, .ref (b + 0)), (0, .ref bS)]) B dL_law_287 (by decide) rfl ?_
  refine z_aload_n B dL_law_289 rfl 3 rfl ?_
  refine z_aload_n B dL_law_290 rfl 5 rfl ?_
  refine z_iload B dL_law_291 1 rfl ?_
  refine z_iconst (v := 1) B dL_law_293 (by decide) ?_
  refine z_iadd B dL_law_294 ?_
  refine z_seti (y := 1) (by decide) ?_
  refine z_sld (j := 1) (x := 1) B hX hbl hbA (by decide) (show ¬ ((1 : Int32) < 0 ∨ 6 ≤ (1 : Int32).toNatClampNeg) by decide) h_x1 dL_law_295 ?_
  refine z_aload_n B dL_law_296 rfl 5 rfl ?_
  refine z_iload B dL_law_297 1 rfl ?_
  refine z_iconst (v := 2) B dL_law_299 (by decide) ?_
  refine z_iadd B dL_law_300 ?_
  refine z_seti (y := 2) (by decide) ?_
  refine z_sld (j := 2) (x := x2) B hX hbl hbA (by decide) (show ¬ ((2 : Int32) < 0 ∨ 6 ≤ (2 : Int32).toNatClampNeg) by decide) h_x2 dL_law_301 ?_
  refine z_aload_n B dL_law_302 rfl 5 rfl ?_
  refine z_iload B dL_law_303 1 rfl ?_
  refine z_iconst (v := 3) B dL_law_305 (by decide) ?_
  refine z_iadd B dL_law_306 ?_
  refine z_seti (y := 3) (by decide) ?_
  refine z_sld (j := 3) (x := x3) B hX hbl hbA (by decide) (show ¬ ((3 : Int32) < 0 ∨ 6 ≤ (3 : Int32).toNatClampNeg) by decide) h_x3 dL_law_307 ?_
  refine z_aload_n B dL_law_308 rfl 5 rfl ?_
  refine z_iload B dL_law_309 1 rfl ?_
  refine z_iconst (v := 4) B dL_law_311 (by decide) ?_
  refine z_iadd B dL_law_312 ?_
  refine z_seti (y := 4) (by decide) ?_
  refine z_sld (j := 4) (x := x4) B hX hbl hbA (by decide) (show ¬ ((4 : Int32) < 0 ∨ 6 ≤ (4 : Int32).toNatClampNeg) by decide) h_x4 dL_law_313 ?_
  refine z_aload_n B dL_law_314 rfl 5 rfl ?_
  refine z_iload B dL_law_315 1 rfl ?_
  refine z_iconst (v := 5) B dL_law_317 (by decide) ?_
  refine z_iadd B dL_law_318 ?_
  refine z_seti (y := 5) (by decide) ?_
  refine z_sld (j := 5) (x := x5) B hX hbl hbA (by decide) (show ¬ ((5 : Int32) < 0 ∨ 6 ≤ (5 : Int32).toNatClampNeg) by decide) h_x5 dL_law_319 ?_
  refine z_cVi (As := [.int 1, .int x2, .int x3, .int x4, .int x5]) (rest := []) B cw_L_86 cx_10 dL_law_320 (ci_X9_check_433 l (σ := (ap b (wx_Z σ z) [] [] [])) (b := b) (lyA (lyZ hK)) x2 x3 x4 x5 q1_x2 q2_x2 q1_x3 q2_x3 q1_x4 q2_x4) (lKA (lKZ (hk_K hK 405 rfl rfl))) rfl (by decide) rfl (Nat.le_of_ble_eq_true rfl) (by decide) (fun r u hu => ?_)
  refine z_eqs (σ' := (ap b (wx_Z σ z) [(405, 0, 1)] [] [])) (hu.2.trans ap_ap) ?_
  show zx p l e _ s m _ below meth c g 8 _ _ _ _ 323 [(5, .int 1), (4, .int 0), (3, .ref (b + 431)), (2, .ref (b + 405)), (1, .ref (b + 0)), (0, .ref bS)] _
  refine z_seti (y := 0) hu.1 ?_
  refine z_istore (lv' := [(6, .int 0), (5, .int 1), (4, .int 0), (3, .ref (b + 431)), (2, .ref (b + 405)), (1, .ref (b + 0)), (0, .ref bS)]) B dL_law_323 (by decide) rfl ?_
  refine z_aload_n B dL_law_325 rfl 4 rfl ?_
  refine z_cVi (As := []) (rest := []) B cw_L_80 cx_10 dL_law_326 (ci_X9_thrown_31 l (σ := (ap b (wx_Z σ z) [(405, 0, 1)] [] [])) (b := b) (lyA (lyZ hK)) (rI_at 405 0 rfl)) (lKA (lKZ (hk_K hK 405 rfl rfl))) rfl (by decide) rfl (Nat.le_of_ble_eq_true rfl) (by decide) (fun r u hu => ?_)
  refine z_eqs (σ' := (ap b (wx_Z σ z) [(405, 0, 1)] [] [])) hu.2 ?_
  show zx p l e _ s m _ below meth c g 8 _ _ _ _ 329 [(6, .int 0), (5, .int 1), (4, .int 0), (3, .ref (b + 431)), (2, .ref (b + 405)), (1, .ref (b + 0)), (0, .ref bS)] _
  refine z_seti (y := 1) hu.1 ?_
  refine z_iload B dL_law_329 1 rfl ?_
  refine z_icmp_eq (tgt := 336) B dL_law_331 (by decide) (fun _ => ?_) (fun h => absurd (by decide) h)
  refine z_iload B dL_law_336 1 rfl ?_
  refine z_if_ne (tgt := 353) B dL_law_338 (by decide) (fun _ => ?_) (fun h => absurd h (by decide))
  refine z_goto (tgt := 1395) B dL_law_353 (by decide) ?_
  exact z_widen (Nat.le_of_ble_eq_true rfl) (Nat.le_of_ble_eq_true rfl) (z_sub _ [2, 6] rfl (kk _))
set_option maxRecDepth 100000 in
set_option maxHeartbeats 4000000 in
theorem lf_1_170 {p : Program} {l : Launch} {e : Env} {s : State} {m : MethodId} {args : Array Value} {below : List Frame} {meth : Method} {c : Code} {g : gx_T} {Q : State → Prop} {σ : sx_T} {b t bS : Nat} {xs : Nat → Int32} (hlt : l.stackTraces = false) (B : zx_B p s m args meth c code RL 8 g) (hX : va_X bS 6 xs s s.heap) (hbl : bS < s.heap.size) (hbA : ¬ gx_b g ≤ bS) (hF : fz_P b t σ) (h_x1 : xs 1 = 1) {x2 : Int32} (h_x2 : xs 2 = x2) (q1_x2 : (-2147483648 : Int) ≤ x2.toInt) (q2_x2 : x2.toInt ≤ (-1 : Int)) {x3 : Int32} (h_x3 : xs 3 = x3) (q1_x3 : (0 : Int) ≤ x3.toInt) (q2_x3 : x3.toInt ≤ (17 : Int)) {x4 : Int32} (h_x4 : xs 4 = x4) (q1_x4 : (0 : Int) ≤ x4.toInt) (q2_x4 : x4.toInt ≤ (99 : Int)) {x5 : Int32} (h_x5 : xs 5 = x5) (q1_x5 : (-2147483648 : Int) ≤ x5.toInt) (q2_x5 : x5.toInt ≤ (-1 : Int)) (kk : ∀ σ', zx p l e room_1 s m args below meth c g 8 600002 7302232 Q σ' 1395 [(4, .int 0), (0, .ref bS)] []) : zx p l e room_1 s m args below meth c g 8 500 100000 Q σ 252 [(4, .int 0), (3, .ref (b + 431)), (2, .ref (b + 405)), (1, .ref (b + 0)), (0, .ref bS)] [] := by
  have hK := fz_lay hF
  refine z_eqs (σ' := (ap b σ [] [] [])) rfl ?_
  refine z_aload_n B dL_law_252 rfl 3 rfl ?_
  refine z_aload_n B dL_law_253 rfl 4 rfl ?_
  refine z_iload B dL_law_254 0 rfl ?_
  refine z_iconst (v := 1) B dL_law_256 (by decide) ?_
  refine z_iadd B dL_law_257 ?_
  refine z_seti (y := 1) (by decide) ?_
  refine z_sld (j := 1) (x := 1) B hX hbl hbA (by decide) (show ¬ ((1 : Int32) < 0 ∨ 6 ≤ (1 : Int32).toNatClampNeg) by decide) h_x1 dL_law_258 ?_
  refine z_aload_n B dL_law_259 rfl 4 rfl ?_
  refine z_iload B dL_law_260 0 rfl ?_
  refine z_iconst (v := 2) B dL_law_262 (by decide) ?_
  refine z_iadd B dL_law_263 ?_
  refine z_seti (y := 2) (by decide) ?_
  refine z_sld (j := 2) (x := x2) B hX hbl hbA (by decide) (show ¬ ((2 : Int32) < 0 ∨ 6 ≤ (2 : Int32).toNatClampNeg) by decide) h_x2 dL_law_264 ?_
  refine z_aload_n B dL_law_265 rfl 4 rfl ?_
  refine z_iload B dL_law_266 0 rfl ?_
  refine z_iconst (v := 3) B dL_law_268 (by decide) ?_
  refine z_iadd B dL_law_269 ?_
  refine z_seti (y := 3) (by decide) ?_
  refine z_sld (j := 3) (x := x3) B hX hbl hbA (by decide) (show ¬ ((3 : Int32) < 0 ∨ 6 ≤ (3 : Int32).toNatClampNeg) by decide) h_x3 dL_law_270 ?_
  refine z_aload_n B dL_law_271 rfl 4 rfl ?_
  refine z_iload B dL_law_272 0 rfl ?_
  refine z_iconst (v := 4) B dL_law_274 (by decide) ?_
  refine z_iadd B dL_law_275 ?_
  refine z_seti (y := 4) (by decide) ?_
  refine z_sld (j := 4) (x := x4) B hX hbl hbA (by decide) (show ¬ ((4 : Int32) < 0 ∨ 6 ≤ (4 : Int32).toNatClampNeg) by decide) h_x4 dL_law_276 ?_
  refine z_aload_n B dL_law_277 rfl 4 rfl ?_
  refine z_iload B dL_law_278 0 rfl ?_
  refine z_iconst (v := 5) B dL_law_280 (by decide) ?_
  refine z_iadd B dL_law_281 ?_
  refine z_seti (y := 5) (by decide) ?_
  refine z_sld (j := 5) (x := x5) B hX hbl hbA (by decide) (show ¬ ((5 : Int32) < 0 ∨ 6 ≤ (5 : Int32).toNatClampNeg) by decide) h_x5 dL_law_282 ?_
  refine z_aload_n B dL_law_283 rfl 1 rfl ?_
  refine z_cSWi (As := [.ref (b + 0), .int 1, .int x2, .int x3, .int x4, .int x5, .ref (b + 431)]) (rest := []) B cw_L_84 dL_law_284 (ci_L_check_431 l hlt (σ := (ap b σ [] [] [])) (b := b) (lyA hK) x2 x3 x4 x5 q1_x2 q2_x2 (rR_at 0 0 (fz_R hF 0 0 rfl rfl)) (rR_at 1 1 (fz_R hF 1 1 rfl rfl))) rfl (by decide) rfl (Nat.le_of_ble_eq_true rfl) (by decide) (fun r u hu => ?_)
  obtain ⟨hu1, z, hu⟩ := hu
  refine z_eqs (σ' := (ap b (wx_Z σ z) [] [] [])) (hu.trans az_ap) ?_
  show zx p l e _ s m _ below meth c g 8 _ _ _ _ 287 [(4, .int 0), (3, .ref (b + 431)), (2, .ref (b + 405)), (1, .ref (b + 0)), (0, .ref bS)] _
  refine z_seti (y := 1) hu1 ?_
  refine z_istore (lv' := [(5, .int 1), (4, .int 0), (3, .ref (b + 431)), (2, .ref (b + 405)), (1, .ref (b + 0)), (0, .ref bS)]) B dL_law_287 (by decide) rfl ?_
  refine z_aload_n B dL_law_289 rfl 3 rfl ?_
  refine z_aload_n B dL_law_290 rfl 5 rfl ?_
  refine z_iload B dL_law_291 1 rfl ?_
  refine z_iconst (v := 1) B dL_law_293 (by decide) ?_
  refine z_iadd B dL_law_294 ?_
  refine z_seti (y := 1) (by decide) ?_
  refine z_sld (j := 1) (x := 1) B hX hbl hbA (by decide) (show ¬ ((1 : Int32) < 0 ∨ 6 ≤ (1 : Int32).toNatClampNeg) by decide) h_x1 dL_law_295 ?_
  refine z_aload_n B dL_law_296 rfl 5 rfl ?_
  refine z_iload B dL_law_297 1 rfl ?_
  refine z_iconst (v := 2) B dL_law_299 (by decide) ?_
  refine z_iadd B dL_law_300 ?_
  refine z_seti (y := 2) (by decide) ?_
  refine z_sld (j := 2) (x := x2) B hX hbl hbA (by decide) (show ¬ ((2 : Int32) < 0 ∨ 6 ≤ (2 : Int32).toNatClampNeg) by decide) h_x2 dL_law_301 ?_
  refine z_aload_n B dL_law_302 rfl 5 rfl ?_
  refine z_iload B dL_law_303 1 rfl ?_
  refine z_iconst (v := 3) B dL_law_305 (by decide) ?_
  refine z_iadd B dL_law_306 ?_
  refine z_seti (y := 3) (by decide) ?_
  refine z_sld (j := 3) (x := x3) B hX hbl hbA (by decide) (show ¬ ((3 : Int32) < 0 ∨ 6 ≤ (3 : Int32).toNatClampNeg) by decide) h_x3 dL_law_307 ?_
  refine z_aload_n B dL_law_308 rfl 5 rfl ?_
  refine z_iload B dL_law_309 1 rfl ?_
  refine z_iconst (v := 4) B dL_law_311 (by decide) ?_
  refine z_iadd B dL_law_312 ?_
  refine z_seti (y := 4) (by decide) ?_
  refine z_sld (j := 4) (x := x4) B hX hbl hbA (by decide) (show ¬ ((4 : Int32) < 0 ∨ 6 ≤ (4 : Int32).toNatClampNeg) by decide) h_x4 dL_law_313 ?_
  refine z_aload_n B dL_law_314 rfl 5 rfl ?_
  refine z_iload B dL_law_315 1 rfl ?_
  refine z_iconst (v := 5) B dL_law_317 (by decide) ?_
  refine z_iadd B dL_law_318 ?_
  refine z_seti (y := 5) (by decide) ?_
  refine z_sld (j := 5) (x := x5) B hX hbl hbA (by decide) (show ¬ ((5 : Int32) < 0 ∨ 6 ≤ (5 : Int32).toNatClampNeg) by decide) h_x5 dL_law_319 ?_
  refine z_cVi (As := [.int 1, .int x2, .int x3, .int x4, .int x5]) (rest := []) B cw_L_86 cx_10 dL_law_320 (ci_X9_check_434 l (σ := (ap b (wx_Z σ z) [] [] [])) (b := b) (lyA (lyZ hK)) x2 x3 x4 x5 q1_x2 q2_x2 q1_x3 q2_x3 q1_x4 q2_x4 q1_x5 q2_x5) (lKA (lKZ (hk_K hK 405 rfl rfl))) rfl (by decide) rfl (Nat.le_of_ble_eq_true rfl) (by decide) (fun r u hu => ?_)
  refine z_eqs (σ' := (ap b (wx_Z σ z) [(405, 0, 1)] [] [])) (hu.2.trans ap_ap) ?_
  show zx p l e _ s m _ below meth c g 8 _ _ _ _ 323 [(5, .int 1), (4, .int 0), (3, .ref (b + 431)), (2, .ref (b + 405)), (1, .ref (b + 0)), (0, .ref bS)] _
  refine z_seti (y := 0) hu.1 ?_
  refine z_istore (lv' := [(6, .int 0), (5, .int 1), (4, .int 0), (3, .ref (b + 431)), (2, .ref (b + 405)), (1, .ref (b + 0)), (0, .ref bS)]) B dL_law_323 (by decide) rfl ?_
  refine z_aload_n B dL_law_325 rfl 4 rfl ?_
  refine z_cVi (As := []) (rest := []) B cw_L_80 cx_10 dL_law_326 (ci_X9_thrown_31 l (σ := (ap b (wx_Z σ z) [(405, 0, 1)] [] [])) (b := b) (lyA (lyZ hK)) (rI_at 405 0 rfl)) (lKA (lKZ (hk_K hK 405 rfl rfl))) rfl (by decide) rfl (Nat.le_of_ble_eq_true rfl) (by decide) (fun r u hu => ?_)
  refine z_eqs (σ' := (ap b (wx_Z σ z) [(405, 0, 1)] [] [])) hu.2 ?_
  show zx p l e _ s m _ below meth c g 8 _ _ _ _ 329 [(6, .int 0), (5, .int 1), (4, .int 0), (3, .ref (b + 431)), (2, .ref (b + 405)), (1, .ref (b + 0)), (0, .ref bS)] _
  refine z_seti (y := 1) hu.1 ?_
  refine z_iload B dL_law_329 1 rfl ?_
  refine z_icmp_eq (tgt := 336) B dL_law_331 (by decide) (fun _ => ?_) (fun h => absurd (by decide) h)
  refine z_iload B dL_law_336 1 rfl ?_
  refine z_if_ne (tgt := 353) B dL_law_338 (by decide) (fun _ => ?_) (fun h => absurd h (by decide))
  refine z_goto (tgt := 1395) B dL_law_353 (by decide) ?_
  exact z_widen (Nat.le_of_ble_eq_true rfl) (Nat.le_of_ble_eq_true rfl) (z_sub _ [2, 6] rfl (kk _))
set_option maxRecDepth 100000 in
set_option maxHeartbeats 4000000 in
theorem lf_1_171 {p : Program} {l : Launch} {e : Env} {s : State} {m : MethodId} {args : Array Value} {below : List Frame} {meth : Method} {c : Code} {g : gx_T} {Q : State → Prop} {σ : sx_T} {b t bS : Nat} {xs : Nat → Int32} (hlt : l.stackTraces = false) (B : zx_B p s m args meth c code RL 8 g) (hX : va_X bS 6 xs s s.heap) (hbl : bS < s.heap.size) (hbA : ¬ gx_b g ≤ bS) (hF : fz_P b t σ) (h_x1 : xs 1 = 1) {x2 : Int32} (h_x2 : xs 2 = x2) (q1_x2 : (-2147483648 : Int) ≤ x2.toInt) (q2_x2 : x2.toInt ≤ (-1 : Int)) {x3 : Int32} (h_x3 : xs 3 = x3) (q1_x3 : (0 : Int) ≤ x3.toInt) (q2_x3 : x3.toInt ≤ (17 : Int)) {x4 : Int32} (h_x4 : xs 4 = x4) (q1_x4 : (0 : Int) ≤ x4.toInt) (q2_x4 : x4.toInt ≤ (99 : Int)) {x5 : Int32} (h_x5 : xs 5 = x5) (q1_x5 : (0 : Int) ≤ x5.toInt) (q2_x5 : x5.toInt ≤ (99 : Int)) (kk : ∀ σ', zx p l e room_1 s m args below meth c g 8 600002 7302232 Q σ' 1395 [(4, .int 0), (0, .ref bS)] []) : zx p l e room_1 s m args below meth c g 8 500 100000 Q σ 252 [(4, .int 0), (3, .ref (b + 431)), (2, .ref (b + 405)), (1, .ref (b + 0)), (0, .ref bS)] [] := by
  have hK := fz_lay hF
  refine z_eqs (σ' := (ap b σ [] [] [])) rfl ?_
  refine z_aload_n B dL_law_252 rfl 3 rfl ?_
  refine z_aload_n B dL_law_253 rfl 4 rfl ?_
  refine z_iload B dL_law_254 0 rfl ?_
  refine z_iconst (v := 1) B dL_law_256 (by decide) ?_
  refine z_iadd B dL_law_257 ?_
  refine z_seti (y := 1) (by decide) ?_
  refine z_sld (j := 1) (x := 1) B hX hbl hbA (by decide) (show ¬ ((1 : Int32) < 0 ∨ 6 ≤ (1 : Int32).toNatClampNeg) by decide) h_x1 dL_law_258 ?_
  refine z_aload_n B dL_law_259 rfl 4 rfl ?_
  refine z_iload B dL_law_260 0 rfl ?_
  refine z_iconst (v := 2) B dL_law_262 (by decide) ?_
  refine z_iadd B dL_law_263 ?_
  refine z_seti (y := 2) (by decide) ?_
  refine z_sld (j := 2) (x := x2) B hX hbl hbA (by decide) (show ¬ ((2 : Int32) < 0 ∨ 6 ≤ (2 : Int32).toNatClampNeg) by decide) h_x2 dL_law_264 ?_
  refine z_aload_n B dL_law_265 rfl 4 rfl ?_
  refine z_iload B dL_law_266 0 rfl ?_
  refine z_iconst (v := 3) B dL_law_268 (by decide) ?_
  refine z_iadd B dL_law_269 ?_
  refine z_seti (y := 3) (by decide) ?_
  refine z_sld (j := 3) (x := x3) B hX hbl hbA (by decide) (show ¬ ((3 : Int32) < 0 ∨ 6 ≤ (3 : Int32).toNatClampNeg) by decide) h_x3 dL_law_270 ?_
  refine z_aload_n B dL_law_271 rfl 4 rfl ?_
  refine z_iload B dL_law_272 0 rfl ?_
  refine z_iconst (v := 4) B dL_law_274 (by decide) ?_
  refine z_iadd B dL_law_275 ?_
  refine z_seti (y := 4) (by decide) ?_
  refine z_sld (j := 4) (x := x4) B hX hbl hbA (by decide) (show ¬ ((4 : Int32) < 0 ∨ 6 ≤ (4 : Int32).toNatClampNeg) by decide) h_x4 dL_law_276 ?_
  refine z_aload_n B dL_law_277 rfl 4 rfl ?_
  refine z_iload B dL_law_278 0 rfl ?_
  refine z_iconst (v := 5) B dL_law_280 (by decide) ?_
  refine z_iadd B dL_law_281 ?_
  refine z_seti (y := 5) (by decide) ?_
  refine z_sld (j := 5) (x := x5) B hX hbl hbA (by decide) (show ¬ ((5 : Int32) < 0 ∨ 6 ≤ (5 : Int32).toNatClampNeg) by decide) h_x5 dL_law_282 ?_
  refine z_aload_n B dL_law_283 rfl 1 rfl ?_
  refine z_cSWi (As := [.ref (b + 0), .int 1, .int x2, .int x3, .int x4, .int x5, .ref (b + 431)]) (rest := []) B cw_L_84 dL_law_284 (ci_L_check_431 l hlt (σ := (ap b σ [] [] [])) (b := b) (lyA hK) x2 x3 x4 x5 q1_x2 q2_x2 (rR_at 0 0 (fz_R hF 0 0 rfl rfl)) (rR_at 1 1 (fz_R hF 1 1 rfl rfl))) rfl (by decide) rfl (Nat.le_of_ble_eq_true rfl) (by decide) (fun r u hu => ?_)
  obtain ⟨hu1, z, hu⟩ := hu
  refine z_eqs (σ' := (ap b (wx_Z σ z) [] [] [])) (hu.trans az_ap) ?_
  show zx p l e _ s m _ below meth c g 8 _ _ _ _ 287 [(4, .int 0), (3, .ref (b + 431)), (2, .ref (b + 405)), (1, .ref (b + 0)), (0, .ref bS)] _
  refine z_seti (y := 1) hu1 ?_
  refine z_istore (lv' := [(5, .int 1), (4, .int 0), (3, .ref (b + 431)), (2, .ref (b + 405)), (1, .ref (b + 0)), (0, .ref bS)]) B dL_law_287 (by decide) rfl ?_
  refine z_aload_n B dL_law_289 rfl 3 rfl ?_
  refine z_aload_n B dL_law_290 rfl 5 rfl ?_
  refine z_iload B dL_law_291 1 rfl ?_
  refine z_iconst (v := 1) B dL_law_293 (by decide) ?_
  refine z_iadd B dL_law_294 ?_
  refine z_seti (y := 1) (by decide) ?_
  refine z_sld (j := 1) (x := 1) B hX hbl hbA (by decide) (show ¬ ((1 : Int32) < 0 ∨ 6 ≤ (1 : Int32).toNatClampNeg) by decide) h_x1 dL_law_295 ?_
  refine z_aload_n B dL_law_296 rfl 5 rfl ?_
  refine z_iload B dL_law_297 1 rfl ?_
  refine z_iconst (v := 2) B dL_law_299 (by decide) ?_
  refine z_iadd B dL_law_300 ?_
  refine z_seti (y := 2) (by decide) ?_
  refine z_sld (j := 2) (x := x2) B hX hbl hbA (by decide) (show ¬ ((2 : Int32) < 0 ∨ 6 ≤ (2 : Int32).toNatClampNeg) by decide) h_x2 dL_law_301 ?_
  refine z_aload_n B dL_law_302 rfl 5 rfl ?_
  refine z_iload B dL_law_303 1 rfl ?_
  refine z_iconst (v := 3) B dL_law_305 (by decide) ?_
  refine z_iadd B dL_law_306 ?_
  refine z_seti (y := 3) (by decide) ?_
  refine z_sld (j := 3) (x := x3) B hX hbl hbA (by decide) (show ¬ ((3 : Int32) < 0 ∨ 6 ≤ (3 : Int32).toNatClampNeg) by decide) h_x3 dL_law_307 ?_
  refine z_aload_n B dL_law_308 rfl 5 rfl ?_
  refine z_iload B dL_law_309 1 rfl ?_
  refine z_iconst (v := 4) B dL_law_311 (by decide) ?_
  refine z_iadd B dL_law_312 ?_
  refine z_seti (y := 4) (by decide) ?_
  refine z_sld (j := 4) (x := x4) B hX hbl hbA (by decide) (show ¬ ((4 : Int32) < 0 ∨ 6 ≤ (4 : Int32).toNatClampNeg) by decide) h_x4 dL_law_313 ?_
  refine z_aload_n B dL_law_314 rfl 5 rfl ?_
  refine z_iload B dL_law_315 1 rfl ?_
  refine z_iconst (v := 5) B dL_law_317 (by decide) ?_
  refine z_iadd B dL_law_318 ?_
  refine z_seti (y := 5) (by decide) ?_
  refine z_sld (j := 5) (x := x5) B hX hbl hbA (by decide) (show ¬ ((5 : Int32) < 0 ∨ 6 ≤ (5 : Int32).toNatClampNeg) by decide) h_x5 dL_law_319 ?_
  refine z_cVi (As := [.int 1, .int x2, .int x3, .int x4, .int x5]) (rest := []) B cw_L_86 cx_10 dL_law_320 (ci_X9_check_435 l (σ := (ap b (wx_Z σ z) [] [] [])) (b := b) (lyA (lyZ hK)) x2 x3 x4 x5 q1_x2 q2_x2 q1_x3 q2_x3 q1_x4 q2_x4 q1_x5 q2_x5) (lKA (lKZ (hk_K hK 405 rfl rfl))) rfl (by decide) rfl (Nat.le_of_ble_eq_true rfl) (by decide) (fun r u hu => ?_)
  refine z_eqs (σ' := (ap b (wx_Z σ z) [(405, 0, 1)] [] [])) (hu.2.trans ap_ap) ?_
  show zx p l e _ s m _ below meth c g 8 _ _ _ _ 323 [(5, .int 1), (4, .int 0), (3, .ref (b + 431)), (2, .ref (b + 405)), (1, .ref (b + 0)), (0, .ref bS)] _
  refine z_seti (y := 0) hu.1 ?_
  refine z_istore (lv' := [(6, .int 0), (5, .int 1), (4, .int 0), (3, .ref (b + 431)), (2, .ref (b + 405)), (1, .ref (b + 0)), (0, .ref bS)]) B dL_law_323 (by decide) rfl ?_
  refine z_aload_n B dL_law_325 rfl 4 rfl ?_
  refine z_cVi (As := []) (rest := []) B cw_L_80 cx_10 dL_law_326 (ci_X9_thrown_31 l (σ := (ap b (wx_Z σ z) [(405, 0, 1)] [] [])) (b := b) (lyA (lyZ hK)) (rI_at 405 0 rfl)) (lKA (lKZ (hk_K hK 405 rfl rfl))) rfl (by decide) rfl (Nat.le_of_ble_eq_true rfl) (by decide) (fun r u hu => ?_)
  refine z_eqs (σ' := (ap b (wx_Z σ z) [(405, 0, 1)] [] [])) hu.2 ?_
  show zx p l e _ s m _ below meth c g 8 _ _ _ _ 329 [(6, .int 0), (5, .int 1), (4, .int 0), (3, .ref (b + 431)), (2, .ref (b + 405)), (1, .ref (b + 0)), (0, .ref bS)] _
  refine z_seti (y := 1) hu.1 ?_
  refine z_iload B dL_law_329 1 rfl ?_
  refine z_icmp_eq (tgt := 336) B dL_law_331 (by decide) (fun _ => ?_) (fun h => absurd (by decide) h)
  refine z_iload B dL_law_336 1 rfl ?_
  refine z_if_ne (tgt := 353) B dL_law_338 (by decide) (fun _ => ?_) (fun h => absurd h (by decide))
  refine z_goto (tgt := 1395) B dL_law_353 (by decide) ?_
  exact z_widen (Nat.le_of_ble_eq_true rfl) (Nat.le_of_ble_eq_true rfl) (z_sub _ [2, 6] rfl (kk _))
set_option maxRecDepth 100000 in
set_option maxHeartbeats 4000000 in
theorem lf_1_172 {p : Program} {l : Launch} {e : Env} {s : State} {m : MethodId} {args : Array Value} {below : List Frame} {meth : Method} {c : Code} {g : gx_T} {Q : State → Prop} {σ : sx_T} {b t bS : Nat} {xs : Nat → Int32} (hlt : l.stackTraces = false) (B : zx_B p s m args meth c code RL 8 g) (hX : va_X bS 6 xs s s.heap) (hbl : bS < s.heap.size) (hbA : ¬ gx_b g ≤ bS) (hF : fz_P b t σ) (h_x1 : xs 1 = 1) {x2 : Int32} (h_x2 : xs 2 = x2) (q1_x2 : (-2147483648 : Int) ≤ x2.toInt) (q2_x2 : x2.toInt ≤ (-1 : Int)) {x3 : Int32} (h_x3 : xs 3 = x3) (q1_x3 : (0 : Int) ≤ x3.toInt) (q2_x3 : x3.toInt ≤ (17 : Int)) {x4 : Int32} (h_x4 : xs 4 = x4) (q1_x4 : (0 : Int) ≤ x4.toInt) (q2_x4 : x4.toInt ≤ (99 : Int)) {x5 : Int32} (h_x5 : xs 5 = x5) (q1_x5 : (100 : Int) ≤ x5.toInt) (q2_x5 : x5.toInt ≤ (2147483647 : Int)) (kk : ∀ σ', zx p l e room_1 s m args below meth c g 8 600002 7302232 Q σ' 1395 [(4, .int 0), (0, .ref bS)] []) : zx p l e room_1 s m args below meth c g 8 500 100000 Q σ 252 [(4, .int 0), (3, .ref (b + 431)), (2, .ref (b + 405)), (1, .ref (b + 0)), (0, .ref bS)] [] := by
  have hK := fz_lay hF
  refine z_eqs (σ' := (ap b σ [] [] [])) rfl ?_
  refine z_aload_n B dL_law_252 rfl 3 rfl ?_
  refine z_aload_n B dL_law_253 rfl 4 rfl ?_
  refine z_iload B dL_law_254 0 rfl ?_
  refine z_iconst (v := 1) B dL_law_256 (by decide) ?_
  refine z_iadd B dL_law_257 ?_
  refine z_seti (y := 1) (by decide) ?_
  refine z_sld (j := 1) (x := 1) B hX hbl hbA (by decide) (show ¬ ((1 : Int32) < 0 ∨ 6 ≤ (1 : Int32).toNatClampNeg) by decide) h_x1 dL_law_258 ?_
  refine z_aload_n B dL_law_259 rfl 4 rfl ?_
  refine z_iload B dL_law_260 0 rfl ?_
  refine z_iconst (v := 2) B dL_law_262 (by decide) ?_
  refine z_iadd B dL_law_263 ?_
  refine z_seti (y := 2) (by decide) ?_
  refine z_sld (j := 2) (x := x2) B hX hbl hbA (by decide) (show ¬ ((2 : Int32) < 0 ∨ 6 ≤ (2 : Int32).toNatClampNeg) by decide) h_x2 dL_law_264 ?_
  refine z_aload_n B dL_law_265 rfl 4 rfl ?_
  refine z_iload B dL_law_266 0 rfl ?_
  refine z_iconst (v := 3) B dL_law_268 (by decide) ?_
  refine z_iadd B dL_law_269 ?_
  refine z_seti (y := 3) (by decide) ?_
  refine z_sld (j := 3) (x := x3) B hX hbl hbA (by decide) (show ¬ ((3 : Int32) < 0 ∨ 6 ≤ (3 : Int32).toNatClampNeg) by decide) h_x3 dL_law_270 ?_
  refine z_aload_n B dL_law_271 rfl 4 rfl ?_
  refine z_iload B dL_law_272 0 rfl ?_
  refine z_iconst (v := 4) B dL_law_274 (by decide) ?_
  refine z_iadd B dL_law_275 ?_
  refine z_seti (y := 4) (by decide) ?_
  refine z_sld (j := 4) (x := x4) B hX hbl hbA (by decide) (show ¬ ((4 : Int32) < 0 ∨ 6 ≤ (4 : Int32).toNatClampNeg) by decide) h_x4 dL_law_276 ?_
  refine z_aload_n B dL_law_277 rfl 4 rfl ?_
  refine z_iload B dL_law_278 0 rfl ?_
  refine z_iconst (v := 5) B dL_law_280 (by decide) ?_
  refine z_iadd B dL_law_281 ?_
  refine z_seti (y := 5) (by decide) ?_
  refine z_sld (j := 5) (x := x5) B hX hbl hbA (by decide) (show ¬ ((5 : Int32) < 0 ∨ 6 ≤ (5 : Int32).toNatClampNeg) by decide) h_x5 dL_law_282 ?_
  refine z_aload_n B dL_law_283 rfl 1 rfl ?_
  refine z_cSWi (As := [.ref (b + 0), .int 1, .int x2, .int x3, .int x4, .int x5, .ref (b + 431)]) (rest := []) B cw_L_84 dL_law_284 (ci_L_check_431 l hlt (σ := (ap b σ [] [] [])) (b := b) (lyA hK) x2 x3 x4 x5 q1_x2 q2_x2 (rR_at 0 0 (fz_R hF 0 0 rfl rfl)) (rR_at 1 1 (fz_R hF 1 1 rfl rfl))) rfl (by decide) rfl (Nat.le_of_ble_eq_true rfl) (by decide) (fun r u hu => ?_)
  obtain ⟨hu1, z, hu⟩ := hu
  refine z_eqs (σ' := (ap b (wx_Z σ z) [] [] [])) (hu.trans az_ap) ?_
  show zx p l e _ s m _ below meth c g 8 _ _ _ _ 287 [(4, .int 0), (3, .ref (b + 431)), (2, .ref (b + 405)), (1, .ref (b + 0)), (0, .ref bS)] _
  refine z_seti (y := 1) hu1 ?_
  refine z_istore (lv' := [(5, .int 1), (4, .int 0), (3, .ref (b + 431)), (2, .ref (b + 405)), (1, .ref (b + 0)), (0, .ref bS)]) B dL_law_287 (by decide) rfl ?_
  refine z_aload_n B dL_law_289 rfl 3 rfl ?_
  refine z_aload_n B dL_law_290 rfl 5 rfl ?_
  refine z_iload B dL_law_291 1 rfl ?_
  refine z_iconst (v := 1) B dL_law_293 (by decide) ?_
  refine z_iadd B dL_law_294 ?_
  refine z_seti (y := 1) (by decide) ?_
  refine z_sld (j := 1) (x := 1) B hX hbl hbA (by decide) (show ¬ ((1 : Int32) < 0 ∨ 6 ≤ (1 : Int32).toNatClampNeg) by decide) h_x1 dL_law_295 ?_
  refine z_aload_n B dL_law_296 rfl 5 rfl ?_
  refine z_iload B dL_law_297 1 rfl ?_
  refine z_iconst (v := 2) B dL_law_299 (by decide) ?_
  refine z_iadd B dL_law_300 ?_
  refine z_seti (y := 2) (by decide) ?_
  refine z_sld (j := 2) (x := x2) B hX hbl hbA (by decide) (show ¬ ((2 : Int32) < 0 ∨ 6 ≤ (2 : Int32).toNatClampNeg) by decide) h_x2 dL_law_301 ?_
  refine z_aload_n B dL_law_302 rfl 5 rfl ?_
  refine z_iload B dL_law_303 1 rfl ?_
  refine z_iconst (v := 3) B dL_law_305 (by decide) ?_
  refine z_iadd B dL_law_306 ?_
  refine z_seti (y := 3) (by decide) ?_
  refine z_sld (j := 3) (x := x3) B hX hbl hbA (by decide) (show ¬ ((3 : Int32) < 0 ∨ 6 ≤ (3 : Int32).toNatClampNeg) by decide) h_x3 dL_law_307 ?_
  refine z_aload_n B dL_law_308 rfl 5 rfl ?_
  refine z_iload B dL_law_309 1 rfl ?_
  refine z_iconst (v := 4) B dL_law_311 (by decide) ?_
  refine z_iadd B dL_law_312 ?_
  refine z_seti (y := 4) (by decide) ?_
  refine z_sld (j := 4) (x := x4) B hX hbl hbA (by decide) (show ¬ ((4 : Int32) < 0 ∨ 6 ≤ (4 : Int32).toNatClampNeg) by decide) h_x4 dL_law_313 ?_
  refine z_aload_n B dL_law_314 rfl 5 rfl ?_
  refine z_iload B dL_law_315 1 rfl ?_
  refine z_iconst (v := 5) B dL_law_317 (by decide) ?_
  refine z_iadd B dL_law_318 ?_
  refine z_seti (y := 5) (by decide) ?_
  refine z_sld (j := 5) (x := x5) B hX hbl hbA (by decide) (show ¬ ((5 : Int32) < 0 ∨ 6 ≤ (5 : Int32).toNatClampNeg) by decide) h_x5 dL_law_319 ?_
  refine z_cVi (As := [.int 1, .int x2, .int x3, .int x4, .int x5]) (rest := []) B cw_L_86 cx_10 dL_law_320 (ci_X9_check_436 l (σ := (ap b (wx_Z σ z) [] [] [])) (b := b) (lyA (lyZ hK)) x2 x3 x4 x5 q1_x2 q2_x2 q1_x3 q2_x3 q1_x4 q2_x4 q1_x5 q2_x5) (lKA (lKZ (hk_K hK 405 rfl rfl))) rfl (by decide) rfl (Nat.le_of_ble_eq_true rfl) (by decide) (fun r u hu => ?_)
  refine z_eqs (σ' := (ap b (wx_Z σ z) [(405, 0, 1)] [] [])) (hu.2.trans ap_ap) ?_
  show zx p l e _ s m _ below meth c g 8 _ _ _ _ 323 [(5, .int 1), (4, .int 0), (3, .ref (b + 431)), (2, .ref (b + 405)), (1, .ref (b + 0)), (0, .ref bS)] _
  refine z_seti (y := 0) hu.1 ?_
  refine z_istore (lv' := [(6, .int 0), (5, .int 1), (4, .int 0), (3, .ref (b + 431)), (2, .ref (b + 405)), (1, .ref (b + 0)), (0, .ref bS)]) B dL_law_323 (by decide) rfl ?_
  refine z_aload_n B dL_law_325 rfl 4 rfl ?_
  refine z_cVi (As := []) (rest := []) B cw_L_80 cx_10 dL_law_326 (ci_X9_thrown_31 l (σ := (ap b (wx_Z σ z) [(405, 0, 1)] [] [])) (b := b) (lyA (lyZ hK)) (rI_at 405 0 rfl)) (lKA (lKZ (hk_K hK 405 rfl rfl))) rfl (by decide) rfl (Nat.le_of_ble_eq_true rfl) (by decide) (fun r u hu => ?_)
  refine z_eqs (σ' := (ap b (wx_Z σ z) [(405, 0, 1)] [] [])) hu.2 ?_
  show zx p l e _ s m _ below meth c g 8 _ _ _ _ 329 [(6, .int 0), (5, .int 1), (4, .int 0), (3, .ref (b + 431)), (2, .ref (b + 405)), (1, .ref (b + 0)), (0, .ref bS)] _
  refine z_seti (y := 1) hu.1 ?_
  refine z_iload B dL_law_329 1 rfl ?_
  refine z_icmp_eq (tgt := 336) B dL_law_331 (by decide) (fun _ => ?_) (fun h => absurd (by decide) h)
  refine z_iload B dL_law_336 1 rfl ?_
  refine z_if_ne (tgt := 353) B dL_law_338 (by decide) (fun _ => ?_) (fun h => absurd h (by decide))
  refine z_goto (tgt := 1395) B dL_law_353 (by decide) ?_
  exact z_widen (Nat.le_of_ble_eq_true rfl) (Nat.le_of_ble_eq_true rfl) (z_sub _ [2, 6] rfl (kk _))
set_option maxRecDepth 100000 in
set_option maxHeartbeats 4000000 in
theorem lf_1_173 {p : Program} {l : Launch} {e : Env} {s : State} {m : MethodId} {args : Array Value} {below : List Frame} {meth : Method} {c : Code} {g : gx_T} {Q : State → Prop} {σ : sx_T} {b t bS : Nat} {xs : Nat → Int32} (hlt : l.stackTraces = false) (B : zx_B p s m args meth c code RL 8 g) (hX : va_X bS 6 xs s s.heap) (hbl : bS < s.heap.size) (hbA : ¬ gx_b g ≤ bS) (hF : fz_P b t σ) (h_x1 : xs 1 = 1) {x2 : Int32} (h_x2 : xs 2 = x2) (q1_x2 : (-2147483648 : Int) ≤ x2.toInt) (q2_x2 : x2.toInt ≤ (-1 : Int)) {x3 : Int32} (h_x3 : xs 3 = x3) (q1_x3 : (0 : Int) ≤ x3.toInt) (q2_x3 : x3.toInt ≤ (17 : Int)) {x4 : Int32} (h_x4 : xs 4 = x4) (q1_x4 : (100 : Int) ≤ x4.toInt) (q2_x4 : x4.toInt ≤ (2147483647 : Int)) {x5 : Int32} (h_x5 : xs 5 = x5) (q1_x5 : (-2147483648 : Int) ≤ x5.toInt) (q2_x5 : x5.toInt ≤ (2147483647 : Int)) (kk : ∀ σ', zx p l e room_1 s m args below meth c g 8 600002 7302232 Q σ' 1395 [(4, .int 0), (0, .ref bS)] []) : zx p l e room_1 s m args below meth c g 8 500 100000 Q σ 252 [(4, .int 0), (3, .ref (b + 431)), (2, .ref (b + 405)), (1, .ref (b + 0)), (0, .ref bS)] [] := by
  have hK := fz_lay hF
  refine z_eqs (σ' := (ap b σ [] [] [])) rfl ?_
  refine z_aload_n B dL_law_252 rfl 3 rfl ?_
  refine z_aload_n B dL_law_253 rfl 4 rfl ?_
  refine z_iload B dL_law_254 0 rfl ?_
  refine z_iconst (v := 1) B dL_law_256 (by decide) ?_
  refine z_iadd B dL_law_257 ?_
  refine z_seti (y := 1) (by decide) ?_
  refine z_sld (j := 1) (x := 1) B hX hbl hbA (by decide) (show ¬ ((1 : Int32) < 0 ∨ 6 ≤ (1 : Int32).toNatClampNeg) by decide) h_x1 dL_law_258 ?_
  refine z_aload_n B dL_law_259 rfl 4 rfl ?_
  refine z_iload B dL_law_260 0 rfl ?_
  refine z_iconst (v := 2) B dL_law_262 (by decide) ?_
  refine z_iadd B dL_law_263 ?_
  refine z_seti (y := 2) (by decide) ?_
  refine z_sld (j := 2) (x := x2) B hX hbl hbA (by decide) (show ¬ ((2 : Int32) < 0 ∨ 6 ≤ (2 : Int32).toNatClampNeg) by decide) h_x2 dL_law_264 ?_
  refine z_aload_n B dL_law_265 rfl 4 rfl ?_
  refine z_iload B dL_law_266 0 rfl ?_
  refine z_iconst (v := 3) B dL_law_268 (by decide) ?_
  refine z_iadd B dL_law_269 ?_
  refine z_seti (y := 3) (by decide) ?_
  refine z_sld (j := 3) (x := x3) B hX hbl hbA (by decide) (show ¬ ((3 : Int32) < 0 ∨ 6 ≤ (3 : Int32).toNatClampNeg) by decide) h_x3 dL_law_270 ?_
  refine z_aload_n B dL_law_271 rfl 4 rfl ?_
  refine z_iload B dL_law_272 0 rfl ?_
  refine z_iconst (v := 4) B dL_law_274 (by decide) ?_
  refine z_iadd B dL_law_275 ?_
  refine z_seti (y := 4) (by decide) ?_
  refine z_sld (j := 4) (x := x4) B hX hbl hbA (by decide) (show ¬ ((4 : Int32) < 0 ∨ 6 ≤ (4 : Int32).toNatClampNeg) by decide) h_x4 dL_law_276 ?_
  refine z_aload_n B dL_law_277 rfl 4 rfl ?_
  refine z_iload B dL_law_278 0 rfl ?_
  refine z_iconst (v := 5) B dL_law_280 (by decide) ?_
  refine z_iadd B dL_law_281 ?_
  refine z_seti (y := 5) (by decide) ?_
  refine z_sld (j := 5) (x := x5) B hX hbl hbA (by decide) (show ¬ ((5 : Int32) < 0 ∨ 6 ≤ (5 : Int32).toNatClampNeg) by decide) h_x5 dL_law_282 ?_
  refine z_aload_n B dL_law_283 rfl 1 rfl ?_
  refine z_cSWi (As := [.ref (b + 0), .int 1, .int x2, .int x3, .int x4, .int x5, .ref (b + 431)]) (rest := []) B cw_L_84 dL_law_284 (ci_L_check_431 l hlt (σ := (ap b σ [] [] [])) (b := b) (lyA hK) x2 x3 x4 x5 q1_x2 q2_x2 (rR_at 0 0 (fz_R hF 0 0 rfl rfl)) (rR_at 1 1 (fz_R hF 1 1 rfl rfl))) rfl (by decide) rfl (Nat.le_of_ble_eq_true rfl) (by decide) (fun r u hu => ?_)
  obtain ⟨hu1, z, hu⟩ := hu
  refine z_eqs (σ' := (ap b (wx_Z σ z) [] [] [])) (hu.trans az_ap) ?_
  show zx p l e _ s m _ below meth c g 8 _ _ _ _ 287 [(4, .int 0), (3, .ref (b + 431)), (2, .ref (b + 405)), (1, .ref (b + 0)), (0, .ref bS)] _
  refine z_seti (y := 1) hu1 ?_
  refine z_istore (lv' := [(5, .int 1), (4, .int 0), (3, .ref (b + 431)), (2, .ref (b + 405)), (1, .ref (b + 0)), (0, .ref bS)]) B dL_law_287 (by decide) rfl ?_
  refine z_aload_n B dL_law_289 rfl 3 rfl ?_
  refine z_aload_n B dL_law_290 rfl 5 rfl ?_
  refine z_iload B dL_law_291 1 rfl ?_
  refine z_iconst (v := 1) B dL_law_293 (by decide) ?_
  refine z_iadd B dL_law_294 ?_
  refine z_seti (y := 1) (by decide) ?_
  refine z_sld (j := 1) (x := 1) B hX hbl hbA (by decide) (show ¬ ((1 : Int32) < 0 ∨ 6 ≤ (1 : Int32).toNatClampNeg) by decide) h_x1 dL_law_295 ?_
  refine z_aload_n B dL_law_296 rfl 5 rfl ?_
  refine z_iload B dL_law_297 1 rfl ?_
  refine z_iconst (v := 2) B dL_law_299 (by decide) ?_
  refine z_iadd B dL_law_300 ?_
  refine z_seti (y := 2) (by decide) ?_
  refine z_sld (j := 2) (x := x2) B hX hbl hbA (by decide) (show ¬ ((2 : Int32) < 0 ∨ 6 ≤ (2 : Int32).toNatClampNeg) by decide) h_x2 dL_law_301 ?_
  refine z_aload_n B dL_law_302 rfl 5 rfl ?_
  refine z_iload B dL_law_303 1 rfl ?_
  refine z_iconst (v := 3) B dL_law_305 (by decide) ?_
  refine z_iadd B dL_law_306 ?_
  refine z_seti (y := 3) (by decide) ?_
  refine z_sld (j := 3) (x := x3) B hX hbl hbA (by decide) (show ¬ ((3 : Int32) < 0 ∨ 6 ≤ (3 : Int32).toNatClampNeg) by decide) h_x3 dL_law_307 ?_
  refine z_aload_n B dL_law_308 rfl 5 rfl ?_
  refine z_iload B dL_law_309 1 rfl ?_
  refine z_iconst (v := 4) B dL_law_311 (by decide) ?_
  refine z_iadd B dL_law_312 ?_
  refine z_seti (y := 4) (by decide) ?_
  refine z_sld (j := 4) (x := x4) B hX hbl hbA (by decide) (show ¬ ((4 : Int32) < 0 ∨ 6 ≤ (4 : Int32).toNatClampNeg) by decide) h_x4 dL_law_313 ?_
  refine z_aload_n B dL_law_314 rfl 5 rfl ?_
  refine z_iload B dL_law_315 1 rfl ?_
  refine z_iconst (v := 5) B dL_law_317 (by decide) ?_
  refine z_iadd B dL_law_318 ?_
  refine z_seti (y := 5) (by decide) ?_
  refine z_sld (j := 5) (x := x5) B hX hbl hbA (by decide) (show ¬ ((5 : Int32) < 0 ∨ 6 ≤ (5 : Int32).toNatClampNeg) by decide) h_x5 dL_law_319 ?_
  refine z_cVi (As := [.int 1, .int x2, .int x3, .int x4, .int x5]) (rest := []) B cw_L_86 cx_10 dL_law_320 (ci_X9_check_437 l (σ := (ap b (wx_Z σ z) [] [] [])) (b := b) (lyA (lyZ hK)) x2 x3 x4 x5 q1_x2 q2_x2 q1_x3 q2_x3 q1_x4 q2_x4) (lKA (lKZ (hk_K hK 405 rfl rfl))) rfl (by decide) rfl (Nat.le_of_ble_eq_true rfl) (by decide) (fun r u hu => ?_)
  refine z_eqs (σ' := (ap b (wx_Z σ z) [(405, 0, 1)] [] [])) (hu.2.trans ap_ap) ?_
  show zx p l e _ s m _ below meth c g 8 _ _ _ _ 323 [(5, .int 1), (4, .int 0), (3, .ref (b + 431)), (2, .ref (b + 405)), (1, .ref (b + 0)), (0, .ref bS)] _
  refine z_seti (y := 0) hu.1 ?_
  refine z_istore (lv' := [(6, .int 0), (5, .int 1), (4, .int 0), (3, .ref (b + 431)), (2, .ref (b + 405)), (1, .ref (b + 0)), (0, .ref bS)]) B dL_law_323 (by decide) rfl ?_
  refine z_aload_n B dL_law_325 rfl 4 rfl ?_
  refine z_cVi (As := []) (rest := []) B cw_L_80 cx_10 dL_law_326 (ci_X9_thrown_31 l (σ := (ap b (wx_Z σ z) [(405, 0, 1)] [] [])) (b := b) (lyA (lyZ hK)) (rI_at 405 0 rfl)) (lKA (lKZ (hk_K hK 405 rfl rfl))) rfl (by decide) rfl (Nat.le_of_ble_eq_true rfl) (by decide) (fun r u hu => ?_)
  refine z_eqs (σ' := (ap b (wx_Z σ z) [(405, 0, 1)] [] [])) hu.2 ?_
  show zx p l e _ s m _ below meth c g 8 _ _ _ _ 329 [(6, .int 0), (5, .int 1), (4, .int 0), (3, .ref (b + 431)), (2, .ref (b + 405)), (1, .ref (b + 0)), (0, .ref bS)] _
  refine z_seti (y := 1) hu.1 ?_
  refine z_iload B dL_law_329 1 rfl ?_
  refine z_icmp_eq (tgt := 336) B dL_law_331 (by decide) (fun _ => ?_) (fun h => absurd (by decide) h)
  refine z_iload B dL_law_336 1 rfl ?_
  refine z_if_ne (tgt := 353) B dL_law_338 (by decide) (fun _ => ?_) (fun h => absurd h (by decide))
  refine z_goto (tgt := 1395) B dL_law_353 (by decide) ?_
  exact z_widen (Nat.le_of_ble_eq_true rfl) (Nat.le_of_ble_eq_true rfl) (z_sub _ [2, 6] rfl (kk _))
set_option maxRecDepth 100000 in
set_option maxHeartbeats 4000000 in
theorem lf_1_174 {p : Program} {l : Launch} {e : Env} {s : State} {m : MethodId} {args : Array Value} {below : List Frame} {meth : Method} {c : Code} {g : gx_T} {Q : State → Prop} {σ : sx_T} {b t bS : Nat} {xs : Nat → Int32} (hlt : l.stackTraces = false) (B : zx_B p s m args meth c code RL 8 g) (hX : va_X bS 6 xs s s.heap) (hbl : bS < s.heap.size) (hbA : ¬ gx_b g ≤ bS) (hF : fz_P b t σ) (h_x1 : xs 1 = 1) {x2 : Int32} (h_x2 : xs 2 = x2) (q1_x2 : (-2147483648 : Int) ≤ x2.toInt) (q2_x2 : x2.toInt ≤ (-1 : Int)) {x3 : Int32} (h_x3 : xs 3 = x3) (q1_x3 : (18 : Int) ≤ x3.toInt) (q2_x3 : x3.toInt ≤ (2147483647 : Int)) {x4 : Int32} (h_x4 : xs 4 = x4) (q1_x4 : (-2147483648 : Int) ≤ x4.toInt) (q2_x4 : x4.toInt ≤ (2147483647 : Int)) {x5 : Int32} (h_x5 : xs 5 = x5) (q1_x5 : (-2147483648 : Int) ≤ x5.toInt) (q2_x5 : x5.toInt ≤ (2147483647 : Int)) (kk : ∀ σ', zx p l e room_1 s m args below meth c g 8 600002 7302232 Q σ' 1395 [(4, .int 0), (0, .ref bS)] []) : zx p l e room_1 s m args below meth c g 8 500 100000 Q σ 252 [(4, .int 0), (3, .ref (b + 431)), (2, .ref (b + 405)), (1, .ref (b + 0)), (0, .ref bS)] [] := by
  have hK := fz_lay hF
  refine z_eqs (σ' := (ap b σ [] [] [])) rfl ?_
  refine z_aload_n B dL_law_252 rfl 3 rfl ?_
  refine z_aload_n B dL_law_253 rfl 4 rfl ?_
  refine z_iload B dL_law_254 0 rfl ?_
  refine z_iconst (v := 1) B dL_law_256 (by decide) ?_
  refine z_iadd B dL_law_257 ?_
  refine z_seti (y := 1) (by decide) ?_
  refine z_sld (j := 1) (x := 1) B hX hbl hbA (by decide) (show ¬ ((1 : Int32) < 0 ∨ 6 ≤ (1 : Int32).toNatClampNeg) by decide) h_x1 dL_law_258 ?_
  refine z_aload_n B dL_law_259 rfl 4 rfl ?_
  refine z_iload B dL_law_260 0 rfl ?_
  refine z_iconst (v := 2) B dL_law_262 (by decide) ?_
  refine z_iadd B dL_law_263 ?_
  refine z_seti (y := 2) (by decide) ?_
  refine z_sld (j := 2) (x := x2) B hX hbl hbA (by decide) (show ¬ ((2 : Int32) < 0 ∨ 6 ≤ (2 : Int32).toNatClampNeg) by decide) h_x2 dL_law_264 ?_
  refine z_aload_n B dL_law_265 rfl 4 rfl ?_
  refine z_iload B dL_law_266 0 rfl ?_
  refine z_iconst (v := 3) B dL_law_268 (by decide) ?_
  refine z_iadd B dL_law_269 ?_
  refine z_seti (y := 3) (by decide) ?_
  refine z_sld (j := 3) (x := x3) B hX hbl hbA (by decide) (show ¬ ((3 : Int32) < 0 ∨ 6 ≤ (3 : Int32).toNatClampNeg) by decide) h_x3 dL_law_270 ?_
  refine z_aload_n B dL_law_271 rfl 4 rfl ?_
  refine z_iload B dL_law_272 0 rfl ?_
  refine z_iconst (v := 4) B dL_law_274 (by decide) ?_
  refine z_iadd B dL_law_275 ?_
  refine z_seti (y := 4) (by decide) ?_
  refine z_sld (j := 4) (x := x4) B hX hbl hbA (by decide) (show ¬ ((4 : Int32) < 0 ∨ 6 ≤ (4 : Int32).toNatClampNeg) by decide) h_x4 dL_law_276 ?_
  refine z_aload_n B dL_law_277 rfl 4 rfl ?_
  refine z_iload B dL_law_278 0 rfl ?_
  refine z_iconst (v := 5) B dL_law_280 (by decide) ?_
  refine z_iadd B dL_law_281 ?_
  refine z_seti (y := 5) (by decide) ?_
  refine z_sld (j := 5) (x := x5) B hX hbl hbA (by decide) (show ¬ ((5 : Int32) < 0 ∨ 6 ≤ (5 : Int32).toNatClampNeg) by decide) h_x5 dL_law_282 ?_
  refine z_aload_n B dL_law_283 rfl 1 rfl ?_
  refine z_cSWi (As := [.ref (b + 0), .int 1, .int x2, .int x3, .int x4, .int x5, .ref (b + 431)]) (rest := []) B cw_L_84 dL_law_284 (ci_L_check_431 l hlt (σ := (ap b σ [] [] [])) (b := b) (lyA hK) x2 x3 x4 x5 q1_x2 q2_x2 (rR_at 0 0 (fz_R hF 0 0 rfl rfl)) (rR_at 1 1 (fz_R hF 1 1 rfl rfl))) rfl (by decide) rfl (Nat.le_of_ble_eq_true rfl) (by decide) (fun r u hu => ?_)
  obtain ⟨hu1, z, hu⟩ := hu
  refine z_eqs (σ' := (ap b (wx_Z σ z) [] [] [])) (hu.trans az_ap) ?_
  show zx p l e _ s m _ below meth c g 8 _ _ _ _ 287 [(4, .int 0), (3, .ref (b + 431)), (2, .ref (b + 405)), (1, .ref (b + 0)), (0, .ref bS)] _
  refine z_seti (y := 1) hu1 ?_
  refine z_istore (lv' := [(5, .int 1), (4, .int 0), (3, .ref (b + 431)), (2, .ref (b + 405)), (1, .ref (b + 0)), (0, .ref bS)]) B dL_law_287 (by decide) rfl ?_
  refine z_aload_n B dL_law_289 rfl 3 rfl ?_
  refine z_aload_n B dL_law_290 rfl 5 rfl ?_
  refine z_iload B dL_law_291 1 rfl ?_
  refine z_iconst (v := 1) B dL_law_293 (by decide) ?_
  refine z_iadd B dL_law_294 ?_
  refine z_seti (y := 1) (by decide) ?_
  refine z_sld (j := 1) (x := 1) B hX hbl hbA (by decide) (show ¬ ((1 : Int32) < 0 ∨ 6 ≤ (1 : Int32).toNatClampNeg) by decide) h_x1 dL_law_295 ?_
  refine z_aload_n B dL_law_296 rfl 5 rfl ?_
  refine z_iload B dL_law_297 1 rfl ?_
  refine z_iconst (v := 2) B dL_law_299 (by decide) ?_
  refine z_iadd B dL_law_300 ?_
  refine z_seti (y := 2) (by decide) ?_
  refine z_sld (j := 2) (x := x2) B hX hbl hbA (by decide) (show ¬ ((2 : Int32) < 0 ∨ 6 ≤ (2 : Int32).toNatClampNeg) by decide) h_x2 dL_law_301 ?_
  refine z_aload_n B dL_law_302 rfl 5 rfl ?_
  refine z_iload B dL_law_303 1 rfl ?_
  refine z_iconst (v := 3) B dL_law_305 (by decide) ?_
  refine z_iadd B dL_law_306 ?_
  refine z_seti (y := 3) (by decide) ?_
  refine z_sld (j := 3) (x := x3) B hX hbl hbA (by decide) (show ¬ ((3 : Int32) < 0 ∨ 6 ≤ (3 : Int32).toNatClampNeg) by decide) h_x3 dL_law_307 ?_
  refine z_aload_n B dL_law_308 rfl 5 rfl ?_
  refine z_iload B dL_law_309 1 rfl ?_
  refine z_iconst (v := 4) B dL_law_311 (by decide) ?_
  refine z_iadd B dL_law_312 ?_
  refine z_seti (y := 4) (by decide) ?_
  refine z_sld (j := 4) (x := x4) B hX hbl hbA (by decide) (show ¬ ((4 : Int32) < 0 ∨ 6 ≤ (4 : Int32).toNatClampNeg) by decide) h_x4 dL_law_313 ?_
  refine z_aload_n B dL_law_314 rfl 5 rfl ?_
  refine z_iload B dL_law_315 1 rfl ?_
  refine z_iconst (v := 5) B dL_law_317 (by decide) ?_
  refine z_iadd B dL_law_318 ?_
  refine z_seti (y := 5) (by decide) ?_
  refine z_sld (j := 5) (x := x5) B hX hbl hbA (by decide) (show ¬ ((5 : Int32) < 0 ∨ 6 ≤ (5 : Int32).toNatClampNeg) by decide) h_x5 dL_law_319 ?_
  refine z_cVi (As := [.int 1, .int x2, .int x3, .int x4, .int x5]) (rest := []) B cw_L_86 cx_10 dL_law_320 (ci_X9_check_438 l (σ := (ap b (wx_Z σ z) [] [] [])) (b := b) (lyA (lyZ hK)) x2 x3 x4 x5 q1_x2 q2_x2 q1_x3 q2_x3) (lKA (lKZ (hk_K hK 405 rfl rfl))) rfl (by decide) rfl (Nat.le_of_ble_eq_true rfl) (by decide) (fun r u hu => ?_)
  refine z_eqs (σ' := (ap b (wx_Z σ z) [(405, 0, 1)] [] [])) (hu.2.trans ap_ap) ?_
  show zx p l e _ s m _ below meth c g 8 _ _ _ _ 323 [(5, .int 1), (4, .int 0), (3, .ref (b + 431)), (2, .ref (b + 405)), (1, .ref (b + 0)), (0, .ref bS)] _
  refine z_seti (y := 0) hu.1 ?_
  refine z_istore (lv' := [(6, .int 0), (5, .int 1), (4, .int 0), (3, .ref (b + 431)), (2, .ref (b + 405)), (1, .ref (b + 0)), (0, .ref bS)]) B dL_law_323 (by decide) rfl ?_
  refine z_aload_n B dL_law_325 rfl 4 rfl ?_
  refine z_cVi (As := []) (rest := []) B cw_L_80 cx_10 dL_law_326 (ci_X9_thrown_31 l (σ := (ap b (wx_Z σ z) [(405, 0, 1)] [] [])) (b := b) (lyA (lyZ hK)) (rI_at 405 0 rfl)) (lKA (lKZ (hk_K hK 405 rfl rfl))) rfl (by decide) rfl (Nat.le_of_ble_eq_true rfl) (by decide) (fun r u hu => ?_)
  refine z_eqs (σ' := (ap b (wx_Z σ z) [(405, 0, 1)] [] [])) hu.2 ?_
  show zx p l e _ s m _ below meth c g 8 _ _ _ _ 329 [(6, .int 0), (5, .int 1), (4, .int 0), (3, .ref (b + 431)), (2, .ref (b + 405)), (1, .ref (b + 0)), (0, .ref bS)] _
  refine z_seti (y := 1) hu.1 ?_
  refine z_iload B dL_law_329 1 rfl ?_
  refine z_icmp_eq (tgt := 336) B dL_law_331 (by decide) (fun _ => ?_) (fun h => absurd (by decide) h)
  refine z_iload B dL_law_336 1 rfl ?_
  refine z_if_ne (tgt := 353) B dL_law_338 (by decide) (fun _ => ?_) (fun h => absurd h (by decide))
  refine z_goto (tgt := 1395) B dL_law_353 (by decide) ?_
  exact z_widen (Nat.le_of_ble_eq_true rfl) (Nat.le_of_ble_eq_true rfl) (z_sub _ [2, 6] rfl (kk _))
set_option maxRecDepth 100000 in
set_option maxHeartbeats 4000000 in
theorem lf_1_175 {p : Program} {l : Launch} {e : Env} {s : State} {m : MethodId} {args : Array Value} {below : List Frame} {meth : Method} {c : Code} {g : gx_T} {Q : State → Prop} {σ : sx_T} {b t bS : Nat} {xs : Nat → Int32} (hlt : l.stackTraces = false) (B : zx_B p s m args meth c code RL 8 g) (hX : va_X bS 6 xs s s.heap) (hbl : bS < s.heap.size) (hbA : ¬ gx_b g ≤ bS) (hF : fz_P b t σ) (h_x1 : xs 1 = 1) {x2 : Int32} (h_x2 : xs 2 = x2) (q1_x2 : (0 : Int) ≤ x2.toInt) (q2_x2 : x2.toInt ≤ (19 : Int)) {x3 : Int32} (h_x3 : xs 3 = x3) (q1_x3 : (-2147483648 : Int) ≤ x3.toInt) (q2_x3 : x3.toInt ≤ (-1 : Int)) {x4 : Int32} (h_x4 : xs 4 = x4) (q1_x4 : (-2147483648 : Int) ≤ x4.toInt) (q2_x4 : x4.toInt ≤ (2147483647 : Int)) {x5 : Int32} (h_x5 : xs 5 = x5) (q1_x5 : (-2147483648 : Int) ≤ x5.toInt) (q2_x5 : x5.toInt ≤ (2147483647 : Int)) (kk : ∀ σ', zx p l e room_1 s m args below meth c g 8 600002 7302232 Q σ' 1395 [(4, .int 0), (0, .ref bS)] []) : zx p l e room_1 s m args below meth c g 8 500 100000 Q σ 252 [(4, .int 0), (3, .ref (b + 431)), (2, .ref (b + 405)), (1, .ref (b + 0)), (0, .ref bS)] [] := by
  have hK := fz_lay hF
  refine z_eqs (σ' := (ap b σ [] [] [])) rfl ?_
  refine z_aload_n B dL_law_252 rfl 3 rfl ?_
  refine z_aload_n B dL_law_253 rfl 4 rfl ?_
  refine z_iload B dL_law_254 0 rfl ?_
  refine z_iconst (v := 1) B dL_law_256 (by decide) ?_
  refine z_iadd B dL_law_257 ?_
  refine z_seti (y := 1) (by decide) ?_
  refine z_sld (j := 1) (x := 1) B hX hbl hbA (by decide) (show ¬ ((1 : Int32) < 0 ∨ 6 ≤ (1 : Int32).toNatClampNeg) by decide) h_x1 dL_law_258 ?_
  refine z_aload_n B dL_law_259 rfl 4 rfl ?_
  refine z_iload B dL_law_260 0 rfl ?_
  refine z_iconst (v := 2) B dL_law_262 (by decide) ?_
  refine z_iadd B dL_law_263 ?_
  refine z_seti (y := 2) (by decide) ?_
  refine z_sld (j := 2) (x := x2) B hX hbl hbA (by decide) (show ¬ ((2 : Int32) < 0 ∨ 6 ≤ (2 : Int32).toNatClampNeg) by decide) h_x2 dL_law_264 ?_
  refine z_aload_n B dL_law_265 rfl 4 rfl ?_
  refine z_iload B dL_law_266 0 rfl ?_
  refine z_iconst (v := 3) B dL_law_268 (by decide) ?_
  refine z_iadd B dL_law_269 ?_
  refine z_seti (y := 3) (by decide) ?_
  refine z_sld (j := 3) (x := x3) B hX hbl hbA (by decide) (show ¬ ((3 : Int32) < 0 ∨ 6 ≤ (3 : Int32).toNatClampNeg) by decide) h_x3 dL_law_270 ?_
  refine z_aload_n B dL_law_271 rfl 4 rfl ?_
  refine z_iload B dL_law_272 0 rfl ?_
  refine z_iconst (v := 4) B dL_law_274 (by decide) ?_
  refine z_iadd B dL_law_275 ?_
  refine z_seti (y := 4) (by decide) ?_
  refine z_sld (j := 4) (x := x4) B hX hbl hbA (by decide) (show ¬ ((4 : Int32) < 0 ∨ 6 ≤ (4 : Int32).toNatClampNeg) by decide) h_x4 dL_law_276 ?_
  refine z_aload_n B dL_law_277 rfl 4 rfl ?_
  refine z_iload B dL_law_278 0 rfl ?_
  refine z_iconst (v := 5) B dL_law_280 (by decide) ?_
  refine z_iadd B dL_law_281 ?_
  refine z_seti (y := 5) (by decide) ?_
  refine z_sld (j := 5) (x := x5) B hX hbl hbA (by decide) (show ¬ ((5 : Int32) < 0 ∨ 6 ≤ (5 : Int32).toNatClampNeg) by decide) h_x5 dL_law_282 ?_
  refine z_aload_n B dL_law_283 rfl 1 rfl ?_
  refine z_cSWi (As := [.ref (b + 0), .int 1, .int x2, .int x3, .int x4, .int x5, .ref (b + 431)]) (rest := []) B cw_L_84 dL_law_284 (ci_L_check_440 l hlt (σ := (ap b σ [] [] [])) (b := b) (lyA hK) x2 x3 x4 x5 q1_x2 q2_x2 q1_x3 q2_x3 (rR_at 0 0 (fz_R hF 0 0 rfl rfl)) (rR_at 1 1 (fz_R hF 1 1 rfl rfl))) rfl (by decide) rfl (Nat.le_of_ble_eq_true rfl) (by decide) (fun r u hu => ?_)
  obtain ⟨hu1, z, hu⟩ := hu
  refine z_eqs (σ' := (ap b (wx_Z σ z) [] [] [])) (hu.trans az_ap) ?_
  show zx p l e _ s m _ below meth c g 8 _ _ _ _ 287 [(4, .int 0), (3, .ref (b + 431)), (2, .ref (b + 405)), (1, .ref (b + 0)), (0, .ref bS)] _
  refine z_seti (y := 2) hu1 ?_
  refine z_istore (lv' := [(5, .int 2), (4, .int 0), (3, .ref (b + 431)), (2, .ref (b + 405)), (1, .ref (b + 0)), (0, .ref bS)]) B dL_law_287 (by decide) rfl ?_
  refine z_aload_n B dL_law_289 rfl 3 rfl ?_
  refine z_aload_n B dL_law_290 rfl 5 rfl ?_
  refine z_iload B dL_law_291 1 rfl ?_
  refine z_iconst (v := 1) B dL_law_293 (by decide) ?_
  refine z_iadd B dL_law_294 ?_
  refine z_seti (y := 1) (by decide) ?_
  refine z_sld (j := 1) (x := 1) B hX hbl hbA (by decide) (show ¬ ((1 : Int32) < 0 ∨ 6 ≤ (1 : Int32).toNatClampNeg) by decide) h_x1 dL_law_295 ?_
  refine z_aload_n B dL_law_296 rfl 5 rfl ?_
  refine z_iload B dL_law_297 1 rfl ?_
  refine z_iconst (v := 2) B dL_law_299 (by decide) ?_
  refine z_iadd B dL_law_300 ?_
  refine z_seti (y := 2) (by decide) ?_
  refine z_sld (j := 2) (x := x2) B hX hbl hbA (by decide) (show ¬ ((2 : Int32) < 0 ∨ 6 ≤ (2 : Int32).toNatClampNeg) by decide) h_x2 dL_law_301 ?_
  refine z_aload_n B dL_law_302 rfl 5 rfl ?_
  refine z_iload B dL_law_303 1 rfl ?_
  refine z_iconst (v := 3) B dL_law_305 (by decide) ?_
  refine z_iadd B dL_law_306 ?_
  refine z_seti (y := 3) (by decide) ?_
  refine z_sld (j := 3) (x := x3) B hX hbl hbA (by decide) (show ¬ ((3 : Int32) < 0 ∨ 6 ≤ (3 : Int32).toNatClampNeg) by decide) h_x3 dL_law_307 ?_
  refine z_aload_n B dL_law_308 rfl 5 rfl ?_
  refine z_iload B dL_law_309 1 rfl ?_
  refine z_iconst (v := 4) B dL_law_311 (by decide) ?_
  refine z_iadd B dL_law_312 ?_
  refine z_seti (y := 4) (by decide) ?_
  refine z_sld (j := 4) (x := x4) B hX hbl hbA (by decide) (show ¬ ((4 : Int32) < 0 ∨ 6 ≤ (4 : Int32).toNatClampNeg) by decide) h_x4 dL_law_313 ?_
  refine z_aload_n B dL_law_314 rfl 5 rfl ?_
  refine z_iload B dL_law_315 1 rfl ?_
  refine z_iconst (v := 5) B dL_law_317 (by decide) ?_
  refine z_iadd B dL_law_318 ?_
  refine z_seti (y := 5) (by decide) ?_
  refine z_sld (j := 5) (x := x5) B hX hbl hbA (by decide) (show ¬ ((5 : Int32) < 0 ∨ 6 ≤ (5 : Int32).toNatClampNeg) by decide) h_x5 dL_law_319 ?_
  refine z_cVi (As := [.int 1, .int x2, .int x3, .int x4, .int x5]) (rest := []) B cw_L_86 cx_10 dL_law_320 (ci_X9_check_441 l (σ := (ap b (wx_Z σ z) [] [] [])) (b := b) (lyA (lyZ hK)) x2 x3 x4 x5 q1_x2 q2_x2 q1_x3 q2_x3) (lKA (lKZ (hk_K hK 405 rfl rfl))) rfl (by decide) rfl (Nat.le_of_ble_eq_true rfl) (by decide) (fun r u hu => ?_)
  refine z_eqs (σ' := (ap b (wx_Z σ z) [(405, 0, 2)] [] [])) (hu.2.trans ap_ap) ?_
  show zx p l e _ s m _ below meth c g 8 _ _ _ _ 323 [(5, .int 2), (4, .int 0), (3, .ref (b + 431)), (2, .ref (b + 405)), (1, .ref (b + 0)), (0, .ref bS)] _
  refine z_seti (y := 0) hu.1 ?_
  refine z_istore (lv' := [(6, .int 0), (5, .int 2), (4, .int 0), (3, .ref (b + 431)), (2, .ref (b + 405)), (1, .ref (b + 0)), (0, .ref bS)]) B dL_law_323 (by decide) rfl ?_
  refine z_aload_n B dL_law_325 rfl 4 rfl ?_
  refine z_cVi (As := []) (rest := []) B cw_L_80 cx_10 dL_law_326 (ci_X9_thrown_73 l (σ := (ap b (wx_Z σ z) [(405, 0, 2)] [] [])) (b := b) (lyA (lyZ hK)) (rI_at 405 0 rfl)) (lKA (lKZ (hk_K hK 405 rfl rfl))) rfl (by decide) rfl (Nat.le_of_ble_eq_true rfl) (by decide) (fun r u hu => ?_)
  refine z_eqs (σ' := (ap b (wx_Z σ z) [(405, 0, 2)] [] [])) hu.2 ?_
  show zx p l e _ s m _ below meth c g 8 _ _ _ _ 329 [(6, .int 0), (5, .int 2), (4, .int 0), (3, .ref (b + 431)), (2, .ref (b + 405)), (1, .ref (b + 0)), (0, .ref bS)] _
  refine z_seti (y := 2) hu.1 ?_
  refine z_iload B dL_law_329 1 rfl ?_
  refine z_icmp_eq (tgt := 336) B dL_law_331 (by decide) (fun _ => ?_) (fun h => absurd (by decide) h)
  refine z_iload B dL_law_336 1 rfl ?_
  refine z_if_ne (tgt := 353) B dL_law_338 (by decide) (fun _ => ?_) (fun h => absurd h (by decide))
  refine z_goto (tgt := 1395) B dL_law_353 (by decide) ?_
  exact z_widen (Nat.le_of_ble_eq_true rfl) (Nat.le_of_ble_eq_true rfl) (z_sub _ [2, 6] rfl (kk _))
set_option maxRecDepth 100000 in
set_option maxHeartbeats 4000000 in
theorem lf_1_176 {p : Program} {l : Launch} {e : Env} {s : State} {m : MethodId} {args : Array Value} {below : List Frame} {meth : Method} {c : Code} {g : gx_T} {Q : State → Prop} {σ : sx_T} {b t bS : Nat} {xs : Nat → Int32} (hlt : l.stackTraces = false) (B : zx_B p s m args meth c code RL 8 g) (hX : va_X bS 6 xs s s.heap) (hbl : bS < s.heap.size) (hbA : ¬ gx_b g ≤ bS) (hF : fz_P b t σ) (h_x1 : xs 1 = 1) {x2 : Int32} (h_x2 : xs 2 = x2) (q1_x2 : (0 : Int) ≤ x2.toInt) (q2_x2 : x2.toInt ≤ (19 : Int)) {x3 : Int32} (h_x3 : xs 3 = x3) (q1_x3 : (0 : Int) ≤ x3.toInt) (q2_x3 : x3.toInt ≤ (17 : Int)) {x4 : Int32} (h_x4 : xs 4 = x4) (q1_x4 : (-2147483648 : Int) ≤ x4.toInt) (q2_x4 : x4.toInt ≤ (-1 : Int)) {x5 : Int32} (h_x5 : xs 5 = x5) (q1_x5 : (-2147483648 : Int) ≤ x5.toInt) (q2_x5 : x5.toInt ≤ (2147483647 : Int)) (kk : ∀ σ', zx p l e room_1 s m args below meth c g 8 600002 7302232 Q σ' 1395 [(4, .int 0), (0, .ref bS)] []) : zx p l e room_1 s m args below meth c g 8 500 100000 Q σ 252 [(4, .int 0), (3, .ref (b + 431)), (2, .ref (b + 405)), (1, .ref (b + 0)), (0, .ref bS)] [] := by
  have hK := fz_lay hF
  refine z_eqs (σ' := (ap b σ [] [] [])) rfl ?_
  refine z_aload_n B dL_law_252 rfl 3 rfl ?_
  refine z_aload_n B dL_law_253 rfl 4 rfl ?_
  refine z_iload B dL_law_254 0 rfl ?_
  refine z_iconst (v := 1) B dL_law_256 (by decide) ?_
  refine z_iadd B dL_law_257 ?_
  refine z_seti (y := 1) (by decide) ?_
  refine z_sld (j := 1) (x := 1) B hX hbl hbA (by decide) (show ¬ ((1 : Int32) < 0 ∨ 6 ≤ (1 : Int32).toNatClampNeg) by decide) h_x1 dL_law_258 ?_
  refine z_aload_n B dL_law_259 rfl 4 rfl ?_
  refine z_iload B dL_law_260 0 rfl ?_
  refine z_iconst (v := 2) B dL_law_262 (by decide) ?_
  refine z_iadd B dL_law_263 ?_
  refine z_seti (y := 2) (by decide) ?_
  refine z_sld (j := 2) (x := x2) B hX hbl hbA (by decide) (show ¬ ((2 : Int32) < 0 ∨ 6 ≤ (2 : Int32).toNatClampNeg) by decide) h_x2 dL_law_264 ?_
  refine z_aload_n B dL_law_265 rfl 4 rfl ?_
  refine z_iload B dL_law_266 0 rfl ?_
  refine z_iconst (v := 3) B dL_law_268 (by decide) ?_
  refine z_iadd B dL_law_269 ?_
  refine z_seti (y := 3) (by decide) ?_
  refine z_sld (j := 3) (x := x3) B hX hbl hbA (by decide) (show ¬ ((3 : Int32) < 0 ∨ 6 ≤ (3 : Int32).toNatClampNeg) by decide) h_x3 dL_law_270 ?_
  refine z_aload_n B dL_law_271 rfl 4 rfl ?_
  refine z_iload B dL_law_272 0 rfl ?_
  refine z_iconst (v := 4) B dL_law_274 (by decide) ?_
  refine z_iadd B dL_law_275 ?_
  refine z_seti (y := 4) (by decide) ?_
  refine z_sld (j := 4) (x := x4) B hX hbl hbA (by decide) (show ¬ ((4 : Int32) < 0 ∨ 6 ≤ (4 : Int32).toNatClampNeg) by decide) h_x4 dL_law_276 ?_
  refine z_aload_n B dL_law_277 rfl 4 rfl ?_
  refine z_iload B dL_law_278 0 rfl ?_
  refine z_iconst (v := 5) B dL_law_280 (by decide) ?_
  refine z_iadd B dL_law_281 ?_
  refine z_seti (y := 5) (by decide) ?_
  refine z_sld (j := 5) (x := x5) B hX hbl hbA (by decide) (show ¬ ((5 : Int32) < 0 ∨ 6 ≤ (5 : Int32).toNatClampNeg) by decide) h_x5 dL_law_282 ?_
  refine z_aload_n B dL_law_283 rfl 1 rfl ?_
  refine z_cSWi (As := [.ref (b + 0), .int 1, .int x2, .int x3, .int x4, .int x5, .ref (b + 431)]) (rest := []) B cw_L_84 dL_law_284 (ci_L_check_443 l hlt (σ := (ap b σ [] [] [])) (b := b) (lyA hK) x2 x3 x4 x5 q1_x2 q2_x2 q1_x3 q2_x3 q1_x4 q2_x4 (rR_at 0 0 (fz_R hF 0 0 rfl rfl)) (rR_at 1 1 (fz_R hF 1 1 rfl rfl))) rfl (by decide) rfl (Nat.le_of_ble_eq_true rfl) (by decide) (fun r u hu => ?_)
  obtain ⟨hu1, z, hu⟩ := hu
  refine z_eqs (σ' := (ap b (wx_Z σ z) [] [] [])) (hu.trans az_ap) ?_
  show zx p l e _ s m _ below meth c g 8 _ _ _ _ 287 [(4, .int 0), (3, .ref (b + 431)), (2, .ref (b + 405)), (1, .ref (b + 0)), (0, .ref bS)] _
  refine z_seti (y := 2) hu1 ?_
  refine z_istore (lv' := [(5, .int 2), (4, .int 0), (3, .ref (b + 431)), (2, .ref (b + 405)), (1, .ref (b + 0)), (0, .ref bS)]) B dL_law_287 (by decide) rfl ?_
  refine z_aload_n B dL_law_289 rfl 3 rfl ?_
  refine z_aload_n B dL_law_290 rfl 5 rfl ?_
  refine z_iload B dL_law_291 1 rfl ?_
  refine z_iconst (v := 1) B dL_law_293 (by decide) ?_
  refine z_iadd B dL_law_294 ?_
  refine z_seti (y := 1) (by decide) ?_
  refine z_sld (j := 1) (x := 1) B hX hbl hbA (by decide) (show ¬ ((1 : Int32) < 0 ∨ 6 ≤ (1 : Int32).toNatClampNeg) by decide) h_x1 dL_law_295 ?_
  refine z_aload_n B dL_law_296 rfl 5 rfl ?_
  refine z_iload B dL_law_297 1 rfl ?_
  refine z_iconst (v := 2) B dL_law_299 (by decide) ?_
  refine z_iadd B dL_law_300 ?_
  refine z_seti (y := 2) (by decide) ?_
  refine z_sld (j := 2) (x := x2) B hX hbl hbA (by decide) (show ¬ ((2 : Int32) < 0 ∨ 6 ≤ (2 : Int32).toNatClampNeg) by decide) h_x2 dL_law_301 ?_
  refine z_aload_n B dL_law_302 rfl 5 rfl ?_
  refine z_iload B dL_law_303 1 rfl ?_
  refine z_iconst (v := 3) B dL_law_305 (by decide) ?_
  refine z_iadd B dL_law_306 ?_
  refine z_seti (y := 3) (by decide) ?_
  refine z_sld (j := 3) (x := x3) B hX hbl hbA (by decide) (show ¬ ((3 : Int32) < 0 ∨ 6 ≤ (3 : Int32).toNatClampNeg) by decide) h_x3 dL_law_307 ?_
  refine z_aload_n B dL_law_308 rfl 5 rfl ?_
  refine z_iload B dL_law_309 1 rfl ?_
  refine z_iconst (v := 4) B dL_law_311 (by decide) ?_
  refine z_iadd B dL_law_312 ?_
  refine z_seti (y := 4) (by decide) ?_
  refine z_sld (j := 4) (x := x4) B hX hbl hbA (by decide) (show ¬ ((4 : Int32) < 0 ∨ 6 ≤ (4 : Int32).toNatClampNeg) by decide) h_x4 dL_law_313 ?_
  refine z_aload_n B dL_law_314 rfl 5 rfl ?_
  refine z_iload B dL_law_315 1 rfl ?_
  refine z_iconst (v := 5) B dL_law_317 (by decide) ?_
  refine z_iadd B dL_law_318 ?_
  refine z_seti (y := 5) (by decide) ?_
  refine z_sld (j := 5) (x := x5) B hX hbl hbA (by decide) (show ¬ ((5 : Int32) < 0 ∨ 6 ≤ (5 : Int32).toNatClampNeg) by decide) h_x5 dL_law_319 ?_
  refine z_cVi (As := [.int 1, .int x2, .int x3, .int x4, .int x5]) (rest := []) B cw_L_86 cx_10 dL_law_320 (ci_X9_check_444 l (σ := (ap b (wx_Z σ z) [] [] [])) (b := b) (lyA (lyZ hK)) x2 x3 x4 x5 q1_x2 q2_x2 q1_x3 q2_x3 q1_x4 q2_x4) (lKA (lKZ (hk_K hK 405 rfl rfl))) rfl (by decide) rfl (Nat.le_of_ble_eq_true rfl) (by decide) (fun r u hu => ?_)
  refine z_eqs (σ' := (ap b (wx_Z σ z) [(405, 0, 2)] [] [])) (hu.2.trans ap_ap) ?_
  show zx p l e _ s m _ below meth c g 8 _ _ _ _ 323 [(5, .int 2), (4, .int 0), (3, .ref (b + 431)), (2, .ref (b + 405)), (1, .ref (b + 0)), (0, .ref bS)] _
  refine z_seti (y := 0) hu.1 ?_
  refine z_istore (lv' := [(6, .int 0), (5, .int 2), (4, .int 0), (3, .ref (b + 431)), (2, .ref (b + 405)), (1, .ref (b + 0)), (0, .ref bS)]) B dL_law_323 (by decide) rfl ?_
  refine z_aload_n B dL_law_325 rfl 4 rfl ?_
  refine z_cVi (As := []) (rest := []) B cw_L_80 cx_10 dL_law_326 (ci_X9_thrown_73 l (σ := (ap b (wx_Z σ z) [(405, 0, 2)] [] [])) (b := b) (lyA (lyZ hK)) (rI_at 405 0 rfl)) (lKA (lKZ (hk_K hK 405 rfl rfl))) rfl (by decide) rfl (Nat.le_of_ble_eq_true rfl) (by decide) (fun r u hu => ?_)
  refine z_eqs (σ' := (ap b (wx_Z σ z) [(405, 0, 2)] [] [])) hu.2 ?_
  show zx p l e _ s m _ below meth c g 8 _ _ _ _ 329 [(6, .int 0), (5, .int 2), (4, .int 0), (3, .ref (b + 431)), (2, .ref (b + 405)), (1, .ref (b + 0)), (0, .ref bS)] _
  refine z_seti (y := 2) hu.1 ?_
  refine z_iload B dL_law_329 1 rfl ?_
  refine z_icmp_eq (tgt := 336) B dL_law_331 (by decide) (fun _ => ?_) (fun h => absurd (by decide) h)
  refine z_iload B dL_law_336 1 rfl ?_
  refine z_if_ne (tgt := 353) B dL_law_338 (by decide) (fun _ => ?_) (fun h => absurd h (by decide))
  refine z_goto (tgt := 1395) B dL_law_353 (by decide) ?_
  exact z_widen (Nat.le_of_ble_eq_true rfl) (Nat.le_of_ble_eq_true rfl) (z_sub _ [2, 6] rfl (kk _))
set_option maxRecDepth 100000 in
set_option maxHeartbeats 4000000 in
theorem lf_1_177 {p : Program} {l : Launch} {e : Env} {s : State} {m : MethodId} {args : Array Value} {below : List Frame} {meth : Method} {c : Code} {g : gx_T} {Q : State → Prop} {σ : sx_T} {b t bS : Nat} {xs : Nat → Int32} (hlt : l.stackTraces = false) (B : zx_B p s m args meth c code RL 8 g) (hX : va_X bS 6 xs s s.heap) (hbl : bS < s.heap.size) (hbA : ¬ gx_b g ≤ bS) (hF : fz_P b t σ) (h_x1 : xs 1 = 1) {x2 : Int32} (h_x2 : xs 2 = x2) (q1_x2 : (0 : Int) ≤ x2.toInt) (q2_x2 : x2.toInt ≤ (19 : Int)) {x3 : Int32} (h_x3 : xs 3 = x3) (q1_x3 : (0 : Int) ≤ x3.toInt) (q2_x3 : x3.toInt ≤ (17 : Int)) {x4 : Int32} (h_x4 : xs 4 = x4) (q1_x4 : (0 : Int) ≤ x4.toInt) (q2_x4 : x4.toInt ≤ (99 : Int)) {x5 : Int32} (h_x5 : xs 5 = x5) (q1_x5 : (-2147483648 : Int) ≤ x5.toInt) (q2_x5 : x5.toInt ≤ (-1 : Int)) (kk : ∀ σ', zx p l e room_1 s m args below meth c g 8 600002 7302232 Q σ' 1395 [(4, .int 0), (0, .ref bS)] []) : zx p l e room_1 s m args below meth c g 8 500 100000 Q σ 252 [(4, .int 0), (3, .ref (b + 431)), (2, .ref (b + 405)), (1, .ref (b + 0)), (0, .ref bS)] [] := by
  have hK := fz_lay hF
  refine z_eqs (σ' := (ap b σ [] [] [])) rfl ?_
  refine z_aload_n B dL_law_252 rfl 3 rfl ?_
  refine z_aload_n B dL_law_253 rfl 4 rfl ?_
  refine z_iload B dL_law_254 0 rfl ?_
  refine z_iconst (v := 1) B dL_law_256 (by decide) ?_
  refine z_iadd B dL_law_257 ?_
  refine z_seti (y := 1) (by decide) ?_
  refine z_sld (j := 1) (x := 1) B hX hbl hbA (by decide) (show ¬ ((1 : Int32) < 0 ∨ 6 ≤ (1 : Int32).toNatClampNeg) by decide) h_x1 dL_law_258 ?_
  refine z_aload_n B dL_law_259 rfl 4 rfl ?_
  refine z_iload B dL_law_260 0 rfl ?_
  refine z_iconst (v := 2) B dL_law_262 (by decide) ?_
  refine z_iadd B dL_law_263 ?_
  refine z_seti (y := 2) (by decide) ?_
  refine z_sld (j := 2) (x := x2) B hX hbl hbA (by decide) (show ¬ ((2 : Int32) < 0 ∨ 6 ≤ (2 : Int32).toNatClampNeg) by decide) h_x2 dL_law_264 ?_
  refine z_aload_n B dL_law_265 rfl 4 rfl ?_
  refine z_iload B dL_law_266 0 rfl ?_
  refine z_iconst (v := 3) B dL_law_268 (by decide) ?_
  refine z_iadd B dL_law_269 ?_
  refine z_seti (y := 3) (by decide) ?_
  refine z_sld (j := 3) (x := x3) B hX hbl hbA (by decide) (show ¬ ((3 : Int32) < 0 ∨ 6 ≤ (3 : Int32).toNatClampNeg) by decide) h_x3 dL_law_270 ?_
  refine z_aload_n B dL_law_271 rfl 4 rfl ?_
  refine z_iload B dL_law_272 0 rfl ?_
  refine z_iconst (v := 4) B dL_law_274 (by decide) ?_
  refine z_iadd B dL_law_275 ?_
  refine z_seti (y := 4) (by decide) ?_
  refine z_sld (j := 4) (x := x4) B hX hbl hbA (by decide) (show ¬ ((4 : Int32) < 0 ∨ 6 ≤ (4 : Int32).toNatClampNeg) by decide) h_x4 dL_law_276 ?_
  refine z_aload_n B dL_law_277 rfl 4 rfl ?_
  refine z_iload B dL_law_278 0 rfl ?_
  refine z_iconst (v := 5) B dL_law_280 (by decide) ?_
  refine z_iadd B dL_law_281 ?_
  refine z_seti (y := 5) (by decide) ?_
  refine z_sld (j := 5) (x := x5) B hX hbl hbA (by decide) (show ¬ ((5 : Int32) < 0 ∨ 6 ≤ (5 : Int32).toNatClampNeg) by decide) h_x5 dL_law_282 ?_
  refine z_aload_n B dL_law_283 rfl 1 rfl ?_
  refine z_cSWi (As := [.ref (b + 0), .int 1, .int x2, .int x3, .int x4, .int x5, .ref (b + 431)]) (rest := []) B cw_L_84 dL_law_284 (ci_L_check_446 l hlt (σ := (ap b σ [] [] [])) (b := b) (lyA hK) x2 x3 x4 x5 q1_x2 q2_x2 q1_x3 q2_x3 q1_x4 q2_x4 q1_x5 q2_x5 (rR_at 0 0 (fz_R hF 0 0 rfl rfl)) (rR_at 1 1 (fz_R hF 1 1 rfl rfl))) rfl (by decide) rfl (Nat.le_of_ble_eq_true rfl) (by decide) (fun r u hu => ?_)
  obtain ⟨hu1, z, hu⟩ := hu
  refine z_eqs (σ' := (ap b (wx_Z σ z) [] [] [])) (hu.trans az_ap) ?_
  show zx p l e _ s m _ below meth c g 8 _ _ _ _ 287 [(4, .int 0), (3, .ref (b + 431)), (2, .ref (b + 405)), (1, .ref (b + 0)), (0, .ref bS)] _
  refine z_seti (y := 2) hu1 ?_
  refine z_istore (lv' := [(5, .int 2), (4, .int 0), (3, .ref (b + 431)), (2, .ref (b + 405)), (1, .ref (b + 0)), (0, .ref bS)]) B dL_law_287 (by decide) rfl ?_
  refine z_aload_n B dL_law_289 rfl 3 rfl ?_
  refine z_aload_n B dL_law_290 rfl 5 rfl ?_
  refine z_iload B dL_law_291 1 rfl ?_
  refine z_iconst (v := 1) B dL_law_293 (by decide) ?_
  refine z_iadd B dL_law_294 ?_
  refine z_seti (y := 1) (by decide) ?_
  refine z_sld (j := 1) (x := 1) B hX hbl hbA (by decide) (show ¬ ((1 : Int32) < 0 ∨ 6 ≤ (1 : Int32).toNatClampNeg) by decide) h_x1 dL_law_295 ?_
  refine z_aload_n B dL_law_296 rfl 5 rfl ?_
  refine z_iload B dL_law_297 1 rfl ?_
  refine z_iconst (v := 2) B dL_law_299 (by decide) ?_
  refine z_iadd B dL_law_300 ?_
  refine z_seti (y := 2) (by decide) ?_
  refine z_sld (j := 2) (x := x2) B hX hbl hbA (by decide) (show ¬ ((2 : Int32) < 0 ∨ 6 ≤ (2 : Int32).toNatClampNeg) by decide) h_x2 dL_law_301 ?_
  refine z_aload_n B dL_law_302 rfl 5 rfl ?_
  refine z_iload B dL_law_303 1 rfl ?_
  refine z_iconst (v := 3) B dL_law_305 (by decide) ?_
  refine z_iadd B dL_law_306 ?_
  refine z_seti (y := 3) (by decide) ?_
  refine z_sld (j := 3) (x := x3) B hX hbl hbA (by decide) (show ¬ ((3 : Int32) < 0 ∨ 6 ≤ (3 : Int32).toNatClampNeg) by decide) h_x3 dL_law_307 ?_
  refine z_aload_n B dL_law_308 rfl 5 rfl ?_
  refine z_iload B dL_law_309 1 rfl ?_
  refine z_iconst (v := 4) B dL_law_311 (by decide) ?_
  refine z_iadd B dL_law_312 ?_
  refine z_seti (y := 4) (by decide) ?_
  refine z_sld (j := 4) (x := x4) B hX hbl hbA (by decide) (show ¬ ((4 : Int32) < 0 ∨ 6 ≤ (4 : Int32).toNatClampNeg) by decide) h_x4 dL_law_313 ?_
  refine z_aload_n B dL_law_314 rfl 5 rfl ?_
  refine z_iload B dL_law_315 1 rfl ?_
  refine z_iconst (v := 5) B dL_law_317 (by decide) ?_
  refine z_iadd B dL_law_318 ?_
  refine z_seti (y := 5) (by decide) ?_
  refine z_sld (j := 5) (x := x5) B hX hbl hbA (by decide) (show ¬ ((5 : Int32) < 0 ∨ 6 ≤ (5 : Int32).toNatClampNeg) by decide) h_x5 dL_law_319 ?_
  refine z_cVi (As := [.int 1, .int x2, .int x3, .int x4, .int x5]) (rest := []) B cw_L_86 cx_10 dL_law_320 (ci_X9_check_447 l (σ := (ap b (wx_Z σ z) [] [] [])) (b := b) (lyA (lyZ hK)) x2 x3 x4 x5 q1_x2 q2_x2 q1_x3 q2_x3 q1_x4 q2_x4 q1_x5 q2_x5) (lKA (lKZ (hk_K hK 405 rfl rfl))) rfl (by decide) rfl (Nat.le_of_ble_eq_true rfl) (by decide) (fun r u hu => ?_)
  refine z_eqs (σ' := (ap b (wx_Z σ z) [(405, 0, 2)] [] [])) (hu.2.trans ap_ap) ?_
  show zx p l e _ s m _ below meth c g 8 _ _ _ _ 323 [(5, .int 2), (4, .int 0), (3, .ref (b + 431)), (2, .ref (b + 405)), (1, .ref (b + 0)), (0, .ref bS)] _
  refine z_seti (y := 0) hu.1 ?_
  refine z_istore (lv' := [(6, .int 0), (5, .int 2), (4, .int 0), (3, .ref (b + 431)), (2, .ref (b + 405)), (1, .ref (b + 0)), (0, .ref bS)]) B dL_law_323 (by decide) rfl ?_
  refine z_aload_n B dL_law_325 rfl 4 rfl ?_
  refine z_cVi (As := []) (rest := []) B cw_L_80 cx_10 dL_law_326 (ci_X9_thrown_73 l (σ := (ap b (wx_Z σ z) [(405, 0, 2)] [] [])) (b := b) (lyA (lyZ hK)) (rI_at 405 0 rfl)) (lKA (lKZ (hk_K hK 405 rfl rfl))) rfl (by decide) rfl (Nat.le_of_ble_eq_true rfl) (by decide) (fun r u hu => ?_)
  refine z_eqs (σ' := (ap b (wx_Z σ z) [(405, 0, 2)] [] [])) hu.2 ?_
  show zx p l e _ s m _ below meth c g 8 _ _ _ _ 329 [(6, .int 0), (5, .int 2), (4, .int 0), (3, .ref (b + 431)), (2, .ref (b + 405)), (1, .ref (b + 0)), (0, .ref bS)] _
  refine z_seti (y := 2) hu.1 ?_
  refine z_iload B dL_law_329 1 rfl ?_
  refine z_icmp_eq (tgt := 336) B dL_law_331 (by decide) (fun _ => ?_) (fun h => absurd (by decide) h)
  refine z_iload B dL_law_336 1 rfl ?_
  refine z_if_ne (tgt := 353) B dL_law_338 (by decide) (fun _ => ?_) (fun h => absurd h (by decide))
  refine z_goto (tgt := 1395) B dL_law_353 (by decide) ?_
  exact z_widen (Nat.le_of_ble_eq_true rfl) (Nat.le_of_ble_eq_true rfl) (z_sub _ [2, 6] rfl (kk _))
set_option maxRecDepth 100000 in
set_option maxHeartbeats 4000000 in
theorem lf_1_178 {p : Program} {l : Launch} {e : Env} {s : State} {m : MethodId} {args : Array Value} {below : List Frame} {meth : Method} {c : Code} {g : gx_T} {Q : State → Prop} {σ : sx_T} {b t bS : Nat} {xs : Nat → Int32} (hlt : l.stackTraces = false) (B : zx_B p s m args meth c code RL 8 g) (hX : va_X bS 6 xs s s.heap) (hbl : bS < s.heap.size) (hbA : ¬ gx_b g ≤ bS) (hF : fz_P b t σ) (h_x1 : xs 1 = 1) {x2 : Int32} (h_x2 : xs 2 = x2) (q1_x2 : (0 : Int) ≤ x2.toInt) (q2_x2 : x2.toInt ≤ (19 : Int)) {x3 : Int32} (h_x3 : xs 3 = x3) (q1_x3 : (0 : Int) ≤ x3.toInt) (q2_x3 : x3.toInt ≤ (17 : Int)) {x4 : Int32} (h_x4 : xs 4 = x4) (q1_x4 : (0 : Int) ≤ x4.toInt) (q2_x4 : x4.toInt ≤ (99 : Int)) {x5 : Int32} (h_x5 : xs 5 = x5) (q1_x5 : (0 : Int) ≤ x5.toInt) (q2_x5 : x5.toInt ≤ (99 : Int)) (kk : ∀ σ', zx p l e room_1 s m args below meth c g 8 600002 7302232 Q σ' 1395 [(4, .int 0), (0, .ref bS)] []) : zx p l e room_1 s m args below meth c g 8 500 100000 Q σ 252 [(4, .int 0), (3, .ref (b + 431)), (2, .ref (b + 405)), (1, .ref (b + 0)), (0, .ref bS)] [] := by
  have hK := fz_lay hF
  refine z_eqs (σ' := (ap b σ [] [] [])) rfl ?_
  refine z_aload_n B dL_law_252 rfl 3 rfl ?_
  refine z_aload_n B dL_law_253 rfl 4 rfl ?_
  refine z_iload B dL_law_254 0 rfl ?_
  refine z_iconst (v := 1) B dL_law_256 (by decide) ?_
  refine z_iadd B dL_law_257 ?_
  refine z_seti (y := 1) (by decide) ?_
  refine z_sld (j := 1) (x := 1) B hX hbl hbA (by decide) (show ¬ ((1 : Int32) < 0 ∨ 6 ≤ (1 : Int32).toNatClampNeg) by decide) h_x1 dL_law_258 ?_
  refine z_aload_n B dL_law_259 rfl 4 rfl ?_
  refine z_iload B dL_law_260 0 rfl ?_
  refine z_iconst (v := 2) B dL_law_262 (by decide) ?_
  refine z_iadd B dL_law_263 ?_
  refine z_seti (y := 2) (by decide) ?_
  refine z_sld (j := 2) (x := x2) B hX hbl hbA (by decide) (show ¬ ((2 : Int32) < 0 ∨ 6 ≤ (2 : Int32).toNatClampNeg) by decide) h_x2 dL_law_264 ?_
  refine z_aload_n B dL_law_265 rfl 4 rfl ?_
  refine z_iload B dL_law_266 0 rfl ?_
  refine z_iconst (v := 3) B dL_law_268 (by decide) ?_
  refine z_iadd B dL_law_269 ?_
  refine z_seti (y := 3) (by decide) ?_
  refine z_sld (j := 3) (x := x3) B hX hbl hbA (by decide) (show ¬ ((3 : Int32) < 0 ∨ 6 ≤ (3 : Int32).toNatClampNeg) by decide) h_x3 dL_law_270 ?_
  refine z_aload_n B dL_law_271 rfl 4 rfl ?_
  refine z_iload B dL_law_272 0 rfl ?_
  refine z_iconst (v := 4) B dL_law_274 (by decide) ?_
  refine z_iadd B dL_law_275 ?_
  refine z_seti (y := 4) (by decide) ?_
  refine z_sld (j := 4) (x := x4) B hX hbl hbA (by decide) (show ¬ ((4 : Int32) < 0 ∨ 6 ≤ (4 : Int32).toNatClampNeg) by decide) h_x4 dL_law_276 ?_
  refine z_aload_n B dL_law_277 rfl 4 rfl ?_
  refine z_iload B dL_law_278 0 rfl ?_
  refine z_iconst (v := 5) B dL_law_280 (by decide) ?_
  refine z_iadd B dL_law_281 ?_
  refine z_seti (y := 5) (by decide) ?_
  refine z_sld (j := 5) (x := x5) B hX hbl hbA (by decide) (show ¬ ((5 : Int32) < 0 ∨ 6 ≤ (5 : Int32).toNatClampNeg) by decide) h_x5 dL_law_282 ?_
  refine z_aload_n B dL_law_283 rfl 1 rfl ?_
  refine z_cSWi (As := [.ref (b + 0), .int 1, .int x2, .int x3, .int x4, .int x5, .ref (b + 431)]) (rest := []) B cw_L_84 dL_law_284 (ci_L_check_452 l (σ := (ap b σ [] [] [])) (b := b) (lyA hK) x2 x3 x4 x5 q1_x2 q2_x2 q1_x3 q2_x3 q1_x4 q2_x4 q1_x5 q2_x5 (rI_at 0 7 (fz_I hF 0 7 rfl rfl)) (rR_at 0 0 (fz_R hF 0 0 rfl rfl)) (rR_at 1 1 (fz_R hF 1 1 rfl rfl)) (rR_at 13 1 (fz_R hF 13 1 rfl rfl)) (rR_at 13 2 (fz_R hF 13 2 rfl rfl)) (rR_at 13 3 (fz_R hF 13 3 rfl rfl))) rfl (by decide) rfl (Nat.le_of_ble_eq_true rfl) (by decide) (fun r u hu => ?_)
  obtain ⟨y1, y2, y3, hu⟩ := hu
  refine z_eqs (σ' := (ap b (wx_I (ap b (wx_I (ap b (wx_I (ap b (ap b (wx_I (ap b (wx_I (ap b (wx_I (ap b (ap b (ap b (ap b σ [] [] []) [] [] []) [] [] []) [] [] []) (b + 14) x2.toNatClampNeg x3) [] [] []) (b + 15) x2.toNatClampNeg x4) [] [] []) (b + 16) x2.toNatClampNeg x5) [] [] []) [] [] []) (b + 14) x2.toNatClampNeg y1) [] [] []) (b + 15) x2.toNatClampNeg y2) [] [] []) (b + 16) x2.toNatClampNeg y3) [] [(431, 0, 0)] [])) hu.2 ?_
  show zx p l e _ s m _ below meth c g 8 _ _ _ _ 287 [(4, .int 0), (3, .ref (b + 431)), (2, .ref (b + 405)), (1, .ref (b + 0)), (0, .ref bS)] _
  refine z_seti (y := 0) hu.1 ?_
  refine z_istore (lv' := [(5, .int 0), (4, .int 0), (3, .ref (b + 431)), (2, .ref (b + 405)), (1, .ref (b + 0)), (0, .ref bS)]) B dL_law_287 (by decide) rfl ?_
  refine z_aload_n B dL_law_289 rfl 3 rfl ?_
  refine z_aload_n B dL_law_290 rfl 5 rfl ?_
  refine z_iload B dL_law_291 1 rfl ?_
  refine z_iconst (v := 1) B dL_law_293 (by decide) ?_
  refine z_iadd B dL_law_294 ?_
  refine z_seti (y := 1) (by decide) ?_
  refine z_sld (j := 1) (x := 1) B hX hbl hbA (by decide) (show ¬ ((1 : Int32) < 0 ∨ 6 ≤ (1 : Int32).toNatClampNeg) by decide) h_x1 dL_law_295 ?_
  refine z_aload_n B dL_law_296 rfl 5 rfl ?_
  refine z_iload B dL_law_297 1 rfl ?_
  refine z_iconst (v := 2) B dL_law_299 (by decide) ?_
  refine z_iadd B dL_law_300 ?_
  refine z_seti (y := 2) (by decide) ?_
  refine z_sld (j := 2) (x := x2) B hX hbl hbA (by decide) (show ¬ ((2 : Int32) < 0 ∨ 6 ≤ (2 : Int32).toNatClampNeg) by decide) h_x2 dL_law_301 ?_
  refine z_aload_n B dL_law_302 rfl 5 rfl ?_
  refine z_iload B dL_law_303 1 rfl ?_
  refine z_iconst (v := 3) B dL_law_305 (by decide) ?_
  refine z_iadd B dL_law_306 ?_
  refine z_seti (y := 3) (by decide) ?_
  refine z_sld (j := 3) (x := x3) B hX hbl hbA (by decide) (show ¬ ((3 : Int32) < 0 ∨ 6 ≤ (3 : Int32).toNatClampNeg) by decide) h_x3 dL_law_307 ?_
  refine z_aload_n B dL_law_308 rfl 5 rfl ?_
  refine z_iload B dL_law_309 1 rfl ?_
  refine z_iconst (v := 4) B dL_law_311 (by decide) ?_
  refine z_iadd B dL_law_312 ?_
  refine z_seti (y := 4) (by decide) ?_
  refine z_sld (j := 4) (x := x4) B hX hbl hbA (by decide) (show ¬ ((4 : Int32) < 0 ∨ 6 ≤ (4 : Int32).toNatClampNeg) by decide) h_x4 dL_law_313 ?_
  refine z_aload_n B dL_law_314 rfl 5 rfl ?_
  refine z_iload B dL_law_315 1 rfl ?_
  refine z_iconst (v := 5) B dL_law_317 (by decide) ?_
  refine z_iadd B dL_law_318 ?_
  refine z_seti (y := 5) (by decide) ?_
  refine z_sld (j := 5) (x := x5) B hX hbl hbA (by decide) (show ¬ ((5 : Int32) < 0 ∨ 6 ≤ (5 : Int32).toNatClampNeg) by decide) h_x5 dL_law_319 ?_
  refine z_cVi (As := [.int 1, .int x2, .int x3, .int x4, .int x5]) (rest := []) B cw_L_86 cx_10 dL_law_320 (ci_X9_check_453 l (σ := (ap b (wx_I (ap b (wx_I (ap b (wx_I (ap b (ap b (wx_I (ap b (wx_I (ap b (wx_I (ap b (ap b (ap b (ap b σ [] [] []) [] [] []) [] [] []) [] [] []) (b + 14) x2.toNatClampNeg x3) [] [] []) (b + 15) x2.toNatClampNeg x4) [] [] []) (b + 16) x2.toNatClampNeg x5) [] [] []) [] [] []) (b + 14) x2.toNatClampNeg y1) [] [] []) (b + 15) x2.toNatClampNeg y2) [] [] []) (b + 16) x2.toNatClampNeg y3) [] [(431, 0, 0)] [])) (b := b) (lyA (lyW (lyA (lyW (lyA (lyW (lyA (lyA (lyW (lyA (lyW (lyA (lyW (lyA (lyA (lyA (lyA hK))))))))))))))))) x2 x3 x4 x5 q1_x2 q2_x2 q1_x3 q2_x3 q1_x4 q2_x4 q1_x5 q2_x5 (rI_at 405 6 ((ux_a (by omega)).trans (rI_at 405 6 ((ux_a (by omega)).trans (rI_at 405 6 ((ux_a (by omega)).trans (rI_at 405 6 (rI_at 405 6 ((ux_a (by omega)).trans (rI_at 405 6 ((ux_a (by omega)).trans (rI_at 405 6 ((ux_a (by omega)).trans (rI_at 405 6 (rI_at 405 6 (rI_at 405 6 (rI_at 405 6 (fz_I hF 405 6 rfl rfl)))))))))))))))))) (rR_at 405 3 (rR_w (rR_at 405 3 (rR_w (rR_at 405 3 (rR_w (rR_at 405 3 (rR_at 405 3 (rR_w (rR_at 405 3 (rR_w (rR_at 405 3 (rR_w (rR_at 405 3 (rR_at 405 3 (rR_at 405 3 (rR_at 405 3 (fz_R hF 405 3 rfl rfl)))))))))))))))))) (rR_at 405 4 (rR_w (rR_at 405 4 (rR_w (rR_at 405 4 (rR_w (rR_at 405 4 (rR_at 405 4 (rR_w (rR_at 405 4 (rR_w (rR_at 405 4 (rR_w (rR_at 405 4 (rR_at 405 4 (rR_at 405 4 (rR_at 405 4 (fz_R hF 405 4 rfl rfl)))))))))))))))))) (rR_at 405 5 (rR_w (rR_at 405 5 (rR_w (rR_at 405 5 (rR_w (rR_at 405 5 (rR_at 405 5 (rR_w (rR_at 405 5 (rR_w (rR_at 405 5 (rR_w (rR_at 405 5 (rR_at 405 5 (rR_at 405 5 (rR_at 405 5 (fz_R hF 405 5 rfl rfl))))))))))))))))))) (lKA (lKW (lKA (lKW (lKA (lKW (lKA (lKA (lKW (lKA (lKW (lKA (lKW (lKA (lKA (lKA (lKA (hk_K hK 405 rfl rfl)))))))))))))))))) rfl (by decide) rfl (Nat.le_of_ble_eq_true rfl) (by decide) (fun r u hu => ?_)
  obtain ⟨y4, y5, y6, hu⟩ := hu
  refine z_eqs (σ' := (ap b (wx_I (ap b (wx_I (ap b (wx_I (ap b (ap b (wx_I (ap b (wx_I (ap b (wx_I (ap b (ap b (ap b (wx_I (ap b (wx_I (ap b (wx_I (ap b (ap b (wx_I (ap b (wx_I (ap b (wx_I (ap b (ap b (ap b (ap b σ [] [] []) [] [] []) [] [] []) [] [] []) (b + 14) x2.toNatClampNeg x3) [] [] []) (b + 15) x2.toNatClampNeg x4) [] [] []) (b + 16) x2.toNatClampNeg x5) [] [] []) [] [] []) (b + 14) x2.toNatClampNeg y1) [] [] []) (b + 15) x2.toNatClampNeg y2) [] [] []) (b + 16) x2.toNatClampNeg y3) [] [(431, 0, 0)] []) [(405, 0, 0)] [] []) [] [] []) (b + 406) (20 + x2).toNatClampNeg x3) [] [] []) (b + 407) (20 + x2).toNatClampNeg x4) [] [] []) (b + 408) (20 + x2).toNatClampNeg x5) [] [] []) [] [] []) (b + 406) (20 + x2).toNatClampNeg y4) [] [] []) (b + 407) (20 + x2).toNatClampNeg y5) [] [] []) (b + 408) (20 + x2).toNatClampNeg y6) [] [] [])) hu.2 ?_
  show zx p l e _ s m _ below meth c g 8 _ _ _ _ 323 [(5, .int 0), (4, .int 0), (3, .ref (b + 431)), (2, .ref (b + 405)), (1, .ref (b + 0)), (0, .ref bS)] _
  refine z_seti (y := 0) hu.1 ?_
  refine z_istore (lv' := [(6, .int 0), (5, .int 0), (4, .int 0), (3, .ref (b + 431)), (2, .ref (b + 405)), (1, .ref (b + 0)), (0, .ref bS)]) B dL_law_323 (by decide) rfl ?_
  refine z_aload_n B dL_law_325 rfl 4 rfl ?_
  refine z_cVi (As := []) (rest := []) B cw_L_80 cx_10 dL_law_326 (ci_X9_thrown_95 l (σ := (ap b (wx_I (ap b (wx_I (ap b (wx_I (ap b (ap b (wx_I (ap b (wx_I (ap b (wx_I (ap b (ap b (ap b (wx_I (ap b (wx_I (ap b (wx_I (ap b (ap b (wx_I (ap b (wx_I (ap b (wx_I (ap b (ap b (ap b (ap b σ [] [] []) [] [] []) [] [] []) [] [] []) (b + 14) x2.toNatClampNeg x3) [] [] []) (b + 15) x2.toNatClampNeg x4) [] [] []) (b + 16) x2.toNatClampNeg x5) [] [] []) [] [] []) (b + 14) x2.toNatClampNeg y1) [] [] []) (b + 15) x2.toNatClampNeg y2) [] [] []) (b + 16) x2.toNatClampNeg y3) [] [(431, 0, 0)] []) [(405, 0, 0)] [] []) [] [] []) (b + 406) (20 + x2).toNatClampNeg x3) [] [] []) (b + 407) (20 + x2).toNatClampNeg x4) [] [] []) (b + 408) (20 + x2).toNatClampNeg x5) [] [] []) [] [] []) (b + 406) (20 + x2).toNatClampNeg y4) [] [] []) (b + 407) (20 + x2).toNatClampNeg y5) [] [] []) (b + 408) (20 + x2).toNatClampNeg y6) [] [] [])) (b := b) (lyA (lyW (lyA (lyW (lyA (lyW (lyA (lyA (lyW (lyA (lyW (lyA (lyW (lyA (lyA (lyA (lyW (lyA (lyW (lyA (lyW (lyA (lyA (lyW (lyA (lyW (lyA (lyW (lyA (lyA (lyA (lyA hK)))))))))))))))))))))))))))))))) (rI_at 405 0 ((ux_a (by omega)).trans (rI_at 405 0 ((ux_a (by omega)).trans (rI_at 405 0 ((ux_a (by omega)).trans (rI_at 405 0 (rI_at 405 0 ((ux_a (by omega)).trans (rI_at 405 0 ((ux_a (by omega)).trans (rI_at 405 0 ((ux_a (by omega)).trans (rI_at 405 0 (rI_at 405 0 rfl)))))))))))))))) (lKA (lKW (lKA (lKW (lKA (lKW (lKA (lKA (lKW (lKA (lKW (lKA (lKW (lKA (lKA (lKA (lKW (lKA (lKW (lKA (lKW (lKA (lKA (lKW (lKA (lKW (lKA (lKW (lKA (lKA (lKA (lKA (hk_K hK 405 rfl rfl))))))))))))))))))))))))))))))))) rfl (by decide) rfl (Nat.le_of_ble_eq_true rfl) (by decide) (fun r u hu => ?_)
  refine z_eqs (σ' := (ap b (wx_I (ap b (wx_I (ap b (wx_I (ap b (ap b (wx_I (ap b (wx_I (ap b (wx_I (ap b (ap b (ap b (wx_I (ap b (wx_I (ap b (wx_I (ap b (ap b (wx_I (ap b (wx_I (ap b (wx_I (ap b (ap b (ap b (ap b σ [] [] []) [] [] []) [] [] []) [] [] []) (b + 14) x2.toNatClampNeg x3) [] [] []) (b + 15) x2.toNatClampNeg x4) [] [] []) (b + 16) x2.toNatClampNeg x5) [] [] []) [] [] []) (b + 14) x2.toNatClampNeg y1) [] [] []) (b + 15) x2.toNatClampNeg y2) [] [] []) (b + 16) x2.toNatClampNeg y3) [] [(431, 0, 0)] []) [(405, 0, 0)] [] []) [] [] []) (b + 406) (20 + x2).toNatClampNeg x3) [] [] []) (b + 407) (20 + x2).toNatClampNeg x4) [] [] []) (b + 408) (20 + x2).toNatClampNeg x5) [] [] []) [] [] []) (b + 406) (20 + x2).toNatClampNeg y4) [] [] []) (b + 407) (20 + x2).toNatClampNeg y5) [] [] []) (b + 408) (20 + x2).toNatClampNeg y6) [] [] [])) hu.2 ?_
  show zx p l e _ s m _ below meth c g 8 _ _ _ _ 329 [(6, .int 0), (5, .int 0), (4, .int 0), (3, .ref (b + 431)), (2, .ref (b + 405)), (1, .ref (b + 0)), (0, .ref bS)] _
  refine z_seti (y := 0) hu.1 ?_
  refine z_iload B dL_law_329 1 rfl ?_
  refine z_icmp_eq (tgt := 336) B dL_law_331 (by decide) (fun _ => ?_) (fun h => absurd (by decide) h)
  refine z_iload B dL_law_336 1 rfl ?_
  refine z_if_ne (tgt := 353) B dL_law_338 (by decide) (fun h => absurd (by decide) h) (fun _ => ?_)
  refine z_aload_n B dL_law_341 rfl 3 rfl ?_
  refine z_iconst (v := 0) B dL_law_342 (by decide) ?_
  refine z_lald (j := 0) (x := 0) B (lKA (lKW (lKA (lKW (lKA (lKW (lKA (lKA (lKW (lKA (lKW (lKA (lKW (lKA (lKA (lKA (lKW (lKA (lKW (lKA (lKW (lKA (lKA (lKW (lKA (lKW (lKA (lKW (lKA (lKA (lKA (lKA (hk_K hK 431 rfl rfl))))))))))))))))))))))))))))))))) (by decide) (in_of (lNA (lNW (lNA (lNW (lNA (lNW (lNA (lNA (lNW (lNA (lNW (lNA (lNW (lNA (lNA (lNA (lNW (lNA (lNW (lNA (lNW (lNA (lNA (lNW (lNA (lNW (lNA (lNW (lNA (lNA (lNA (lNA (hk_N hK 431 rfl rfl))))))))))))))))))))))))))))))))) (show ¬ ((0 : Int32) < 0 ∨ 1 ≤ (0 : Int32).toNatClampNeg) by decide)) (rJ_at 431 0 (rJ_w (rJ_at 431 0 (rJ_w (rJ_at 431 0 (rJ_w (rJ_at 431 0 (rJ_at 431 0 (rJ_w (rJ_at 431 0 (rJ_w (rJ_at 431 0 (rJ_w (rJ_at 431 0 (rJ_at 431 0 (rJ_at 431 0 rfl)))))))))))))))) dL_law_343 ?_
  refine z_iload B dL_law_344 0 rfl ?_
  refine z_i2l (v := 0) B dL_law_346 (by decide) ?_
  refine z_lcmp (v := 0) B dL_law_347 (by decide) ?_
  refine z_if_eq (tgt := 353) B dL_law_348 (by decide) (fun _ => ?_) (fun h => absurd (by decide) h)
  refine z_goto (tgt := 1395) B dL_law_353 (by decide) ?_
  exact z_widen (Nat.le_of_ble_eq_true rfl) (Nat.le_of_ble_eq_true rfl) (z_sub _ [2, 6] rfl (kk _))
set_option maxRecDepth 100000 in
set_option maxHeartbeats 4000000 in
theorem lf_1_179 {p : Program} {l : Launch} {e : Env} {s : State} {m : MethodId} {args : Array Value} {below : List Frame} {meth : Method} {c : Code} {g : gx_T} {Q : State → Prop} {σ : sx_T} {b t bS : Nat} {xs : Nat → Int32} (hlt : l.stackTraces = false) (B : zx_B p s m args meth c code RL 8 g) (hX : va_X bS 6 xs s s.heap) (hbl : bS < s.heap.size) (hbA : ¬ gx_b g ≤ bS) (hF : fz_P b t σ) (h_x1 : xs 1 = 1) {x2 : Int32} (h_x2 : xs 2 = x2) (q1_x2 : (0 : Int) ≤ x2.toInt) (q2_x2 : x2.toInt ≤ (19 : Int)) {x3 : Int32} (h_x3 : xs 3 = x3) (q1_x3 : (0 : Int) ≤ x3.toInt) (q2_x3 : x3.toInt ≤ (17 : Int)) {x4 : Int32} (h_x4 : xs 4 = x4) (q1_x4 : (0 : Int) ≤ x4.toInt) (q2_x4 : x4.toInt ≤ (99 : Int)) {x5 : Int32} (h_x5 : xs 5 = x5) (q1_x5 : (100 : Int) ≤ x5.toInt) (q2_x5 : x5.toInt ≤ (2147483647 : Int)) (kk : ∀ σ', zx p l e room_1 s m args below meth c g 8 600002 7302232 Q σ' 1395 [(4, .int 0), (0, .ref bS)] []) : zx p l e room_1 s m args below meth c g 8 500 100000 Q σ 252 [(4, .int 0), (3, .ref (b + 431)), (2, .ref (b + 405)), (1, .ref (b + 0)), (0, .ref bS)] [] := by
  have hK := fz_lay hF
  refine z_eqs (σ' := (ap b σ [] [] [])) rfl ?_
  refine z_aload_n B dL_law_252 rfl 3 rfl ?_
  refine z_aload_n B dL_law_253 rfl 4 rfl ?_
  refine z_iload B dL_law_254 0 rfl ?_
  refine z_iconst (v := 1) B dL_law_256 (by decide) ?_
  refine z_iadd B dL_law_257 ?_
  refine z_seti (y := 1) (by decide) ?_
  refine z_sld (j := 1) (x := 1) B hX hbl hbA (by decide) (show ¬ ((1 : Int32) < 0 ∨ 6 ≤ (1 : Int32).toNatClampNeg) by decide) h_x1 dL_law_258 ?_
  refine z_aload_n B dL_law_259 rfl 4 rfl ?_
  refine z_iload B dL_law_260 0 rfl ?_
  refine z_iconst (v := 2) B dL_law_262 (by decide) ?_
  refine z_iadd B dL_law_263 ?_
  refine z_seti (y := 2) (by decide) ?_
  refine z_sld (j := 2) (x := x2) B hX hbl hbA (by decide) (show ¬ ((2 : Int32) < 0 ∨ 6 ≤ (2 : Int32).toNatClampNeg) by decide) h_x2 dL_law_264 ?_
  refine z_aload_n B dL_law_265 rfl 4 rfl ?_
  refine z_iload B dL_law_266 0 rfl ?_
  refine z_iconst (v := 3) B dL_law_268 (by decide) ?_
  refine z_iadd B dL_law_269 ?_
  refine z_seti (y := 3) (by decide) ?_
  refine z_sld (j := 3) (x := x3) B hX hbl hbA (by decide) (show ¬ ((3 : Int32) < 0 ∨ 6 ≤ (3 : Int32).toNatClampNeg) by decide) h_x3 dL_law_270 ?_
  refine z_aload_n B dL_law_271 rfl 4 rfl ?_
  refine z_iload B dL_law_272 0 rfl ?_
  refine z_iconst (v := 4) B dL_law_274 (by decide) ?_
  refine z_iadd B dL_law_275 ?_
  refine z_seti (y := 4) (by decide) ?_
  refine z_sld (j := 4) (x := x4) B hX hbl hbA (by decide) (show ¬ ((4 : Int32) < 0 ∨ 6 ≤ (4 : Int32).toNatClampNeg) by decide) h_x4 dL_law_276 ?_
  refine z_aload_n B dL_law_277 rfl 4 rfl ?_
  refine z_iload B dL_law_278 0 rfl ?_
  refine z_iconst (v := 5) B dL_law_280 (by decide) ?_
  refine z_iadd B dL_law_281 ?_
  refine z_seti (y := 5) (by decide) ?_
  refine z_sld (j := 5) (x := x5) B hX hbl hbA (by decide) (show ¬ ((5 : Int32) < 0 ∨ 6 ≤ (5 : Int32).toNatClampNeg) by decide) h_x5 dL_law_282 ?_
  refine z_aload_n B dL_law_283 rfl 1 rfl ?_
  refine z_cSWi (As := [.ref (b + 0), .int 1, .int x2, .int x3, .int x4, .int x5, .ref (b + 431)]) (rest := []) B cw_L_84 dL_law_284 (ci_L_check_455 l hlt (σ := (ap b σ [] [] [])) (b := b) (lyA hK) x2 x3 x4 x5 q1_x2 q2_x2 q1_x3 q2_x3 q1_x4 q2_x4 q1_x5 q2_x5 (rR_at 0 0 (fz_R hF 0 0 rfl rfl)) (rR_at 1 1 (fz_R hF 1 1 rfl rfl))) rfl (by decide) rfl (Nat.le_of_ble_eq_true rfl) (by decide) (fun r u hu => ?_)
  obtain ⟨hu1, z, hu⟩ := hu
  refine z_eqs (σ' := (ap b (wx_Z σ z) [] [] [])) (hu.trans az_ap) ?_
  show zx p l e _ s m _ below meth c g 8 _ _ _ _ 287 [(4, .int 0), (3, .ref (b + 431)), (2, .ref (b + 405)), (1, .ref (b + 0)), (0, .ref bS)] _
  refine z_seti (y := 2) hu1 ?_
  refine z_istore (lv' := [(5, .int 2), (4, .int 0), (3, .ref (b + 431)), (2, .ref (b + 405)), (1, .ref (b + 0)), (0, .ref bS)]) B dL_law_287 (by decide) rfl ?_
  refine z_aload_n B dL_law_289 rfl 3 rfl ?_
  refine z_aload_n B dL_law_290 rfl 5 rfl ?_
  refine z_iload B dL_law_291 1 rfl ?_
  refine z_iconst (v := 1) B dL_law_293 (by decide) ?_
  refine z_iadd B dL_law_294 ?_
  refine z_seti (y := 1) (by decide) ?_
  refine z_sld (j := 1) (x := 1) B hX hbl hbA (by decide) (show ¬ ((1 : Int32) < 0 ∨ 6 ≤ (1 : Int32).toNatClampNeg) by decide) h_x1 dL_law_295 ?_
  refine z_aload_n B dL_law_296 rfl 5 rfl ?_
  refine z_iload B dL_law_297 1 rfl ?_
  refine z_iconst (v := 2) B dL_law_299 (by decide) ?_
  refine z_iadd B dL_law_300 ?_
  refine z_seti (y := 2) (by decide) ?_
  refine z_sld (j := 2) (x := x2) B hX hbl hbA (by decide) (show ¬ ((2 : Int32) < 0 ∨ 6 ≤ (2 : Int32).toNatClampNeg) by decide) h_x2 dL_law_301 ?_
  refine z_aload_n B dL_law_302 rfl 5 rfl ?_
  refine z_iload B dL_law_303 1 rfl ?_
  refine z_iconst (v := 3) B dL_law_305 (by decide) ?_
  refine z_iadd B dL_law_306 ?_
  refine z_seti (y := 3) (by decide) ?_
  refine z_sld (j := 3) (x := x3) B hX hbl hbA (by decide) (show ¬ ((3 : Int32) < 0 ∨ 6 ≤ (3 : Int32).toNatClampNeg) by decide) h_x3 dL_law_307 ?_
  refine z_aload_n B dL_law_308 rfl 5 rfl ?_
  refine z_iload B dL_law_309 1 rfl ?_
  refine z_iconst (v := 4) B dL_law_311 (by decide) ?_
  refine z_iadd B dL_law_312 ?_
  refine z_seti (y := 4) (by decide) ?_
  refine z_sld (j := 4) (x := x4) B hX hbl hbA (by decide) (show ¬ ((4 : Int32) < 0 ∨ 6 ≤ (4 : Int32).toNatClampNeg) by decide) h_x4 dL_law_313 ?_
  refine z_aload_n B dL_law_314 rfl 5 rfl ?_
  refine z_iload B dL_law_315 1 rfl ?_
  refine z_iconst (v := 5) B dL_law_317 (by decide) ?_
  refine z_iadd B dL_law_318 ?_
  refine z_seti (y := 5) (by decide) ?_
  refine z_sld (j := 5) (x := x5) B hX hbl hbA (by decide) (show ¬ ((5 : Int32) < 0 ∨ 6 ≤ (5 : Int32).toNatClampNeg) by decide) h_x5 dL_law_319 ?_
  refine z_cVi (As := [.int 1, .int x2, .int x3, .int x4, .int x5]) (rest := []) B cw_L_86 cx_10 dL_law_320 (ci_X9_check_456 l (σ := (ap b (wx_Z σ z) [] [] [])) (b := b) (lyA (lyZ hK)) x2 x3 x4 x5 q1_x2 q2_x2 q1_x3 q2_x3 q1_x4 q2_x4 q1_x5 q2_x5) (lKA (lKZ (hk_K hK 405 rfl rfl))) rfl (by decide) rfl (Nat.le_of_ble_eq_true rfl) (by decide) (fun r u hu => ?_)
  refine z_eqs (σ' := (ap b (wx_Z σ z) [(405, 0, 2)] [] [])) (hu.2.trans ap_ap) ?_
  show zx p l e _ s m _ below meth c g 8 _ _ _ _ 323 [(5, .int 2), (4, .int 0), (3, .ref (b + 431)), (2, .ref (b + 405)), (1, .ref (b + 0)), (0, .ref bS)] _
  refine z_seti (y := 0) hu.1 ?_
  refine z_istore (lv' := [(6, .int 0), (5, .int 2), (4, .int 0), (3, .ref (b + 431)), (2, .ref (b + 405)), (1, .ref (b + 0)), (0, .ref bS)]) B dL_law_323 (by decide) rfl ?_
  refine z_aload_n B dL_law_325 rfl 4 rfl ?_
  refine z_cVi (As := []) (rest := []) B cw_L_80 cx_10 dL_law_326 (ci_X9_thrown_73 l (σ := (ap b (wx_Z σ z) [(405, 0, 2)] [] [])) (b := b) (lyA (lyZ hK)) (rI_at 405 0 rfl)) (lKA (lKZ (hk_K hK 405 rfl rfl))) rfl (by decide) rfl (Nat.le_of_ble_eq_true rfl) (by decide) (fun r u hu => ?_)
  refine z_eqs (σ' := (ap b (wx_Z σ z) [(405, 0, 2)] [] [])) hu.2 ?_
  show zx p l e _ s m _ below meth c g 8 _ _ _ _ 329 [(6, .int 0), (5, .int 2), (4, .int 0), (3, .ref (b + 431)), (2, .ref (b + 405)), (1, .ref (b + 0)), (0, .ref bS)] _
  refine z_seti (y := 2) hu.1 ?_
  refine z_iload B dL_law_329 1 rfl ?_
  refine z_icmp_eq (tgt := 336) B dL_law_331 (by decide) (fun _ => ?_) (fun h => absurd (by decide) h)
  refine z_iload B dL_law_336 1 rfl ?_
  refine z_if_ne (tgt := 353) B dL_law_338 (by decide) (fun _ => ?_) (fun h => absurd h (by decide))
  refine z_goto (tgt := 1395) B dL_law_353 (by decide) ?_
  exact z_widen (Nat.le_of_ble_eq_true rfl) (Nat.le_of_ble_eq_true rfl) (z_sub _ [2, 6] rfl (kk _))
set_option maxRecDepth 100000 in
set_option maxHeartbeats 4000000 in
theorem lf_1_180 {p : Program} {l : Launch} {e : Env} {s : State} {m : MethodId} {args : Array Value} {below : List Frame} {meth : Method} {c : Code} {g : gx_T} {Q : State → Prop} {σ : sx_T} {b t bS : Nat} {xs : Nat → Int32} (hlt : l.stackTraces = false) (B : zx_B p s m args meth c code RL 8 g) (hX : va_X bS 6 xs s s.heap) (hbl : bS < s.heap.size) (hbA : ¬ gx_b g ≤ bS) (hF : fz_P b t σ) (h_x1 : xs 1 = 1) {x2 : Int32} (h_x2 : xs 2 = x2) (q1_x2 : (0 : Int) ≤ x2.toInt) (q2_x2 : x2.toInt ≤ (19 : Int)) {x3 : Int32} (h_x3 : xs 3 = x3) (q1_x3 : (0 : Int) ≤ x3.toInt) (q2_x3 : x3.toInt ≤ (17 : Int)) {x4 : Int32} (h_x4 : xs 4 = x4) (q1_x4 : (100 : Int) ≤ x4.toInt) (q2_x4 : x4.toInt ≤ (2147483647 : Int)) {x5 : Int32} (h_x5 : xs 5 = x5) (q1_x5 : (-2147483648 : Int) ≤ x5.toInt) (q2_x5 : x5.toInt ≤ (2147483647 : Int)) (kk : ∀ σ', zx p l e room_1 s m args below meth c g 8 600002 7302232 Q σ' 1395 [(4, .int 0), (0, .ref bS)] []) : zx p l e room_1 s m args below meth c g 8 500 100000 Q σ 252 [(4, .int 0), (3, .ref (b + 431)), (2, .ref (b + 405)), (1, .ref (b + 0)), (0, .ref bS)] [] := by
  have hK := fz_lay hF
  refine z_eqs (σ' := (ap b σ [] [] [])) rfl ?_
  refine z_aload_n B dL_law_252 rfl 3 rfl ?_
  refine z_aload_n B dL_law_253 rfl 4 rfl ?_
  refine z_iload B dL_law_254 0 rfl ?_
  refine z_iconst (v := 1) B dL_law_256 (by decide) ?_
  refine z_iadd B dL_law_257 ?_
  refine z_seti (y := 1) (by decide) ?_
  refine z_sld (j := 1) (x := 1) B hX hbl hbA (by decide) (show ¬ ((1 : Int32) < 0 ∨ 6 ≤ (1 : Int32).toNatClampNeg) by decide) h_x1 dL_law_258 ?_
  refine z_aload_n B dL_law_259 rfl 4 rfl ?_
  refine z_iload B dL_law_260 0 rfl ?_
  refine z_iconst (v := 2) B dL_law_262 (by decide) ?_
  refine z_iadd B dL_law_263 ?_
  refine z_seti (y := 2) (by decide) ?_
  refine z_sld (j := 2) (x := x2) B hX hbl hbA (by decide) (show ¬ ((2 : Int32) < 0 ∨ 6 ≤ (2 : Int32).toNatClampNeg) by decide) h_x2 dL_law_264 ?_
  refine z_aload_n B dL_law_265 rfl 4 rfl ?_
  refine z_iload B dL_law_266 0 rfl ?_
  refine z_iconst (v := 3) B dL_law_268 (by decide) ?_
  refine z_iadd B dL_law_269 ?_
  refine z_seti (y := 3) (by decide) ?_
  refine z_sld (j := 3) (x := x3) B hX hbl hbA (by decide) (show ¬ ((3 : Int32) < 0 ∨ 6 ≤ (3 : Int32).toNatClampNeg) by decide) h_x3 dL_law_270 ?_
  refine z_aload_n B dL_law_271 rfl 4 rfl ?_
  refine z_iload B dL_law_272 0 rfl ?_
  refine z_iconst (v := 4) B dL_law_274 (by decide) ?_
  refine z_iadd B dL_law_275 ?_
  refine z_seti (y := 4) (by decide) ?_
  refine z_sld (j := 4) (x := x4) B hX hbl hbA (by decide) (show ¬ ((4 : Int32) < 0 ∨ 6 ≤ (4 : Int32).toNatClampNeg) by decide) h_x4 dL_law_276 ?_
  refine z_aload_n B dL_law_277 rfl 4 rfl ?_
  refine z_iload B dL_law_278 0 rfl ?_
  refine z_iconst (v := 5) B dL_law_280 (by decide) ?_
  refine z_iadd B dL_law_281 ?_
  refine z_seti (y := 5) (by decide) ?_
  refine z_sld (j := 5) (x := x5) B hX hbl hbA (by decide) (show ¬ ((5 : Int32) < 0 ∨ 6 ≤ (5 : Int32).toNatClampNeg) by decide) h_x5 dL_law_282 ?_
  refine z_aload_n B dL_law_283 rfl 1 rfl ?_
  refine z_cSWi (As := [.ref (b + 0), .int 1, .int x2, .int x3, .int x4, .int x5, .ref (b + 431)]) (rest := []) B cw_L_84 dL_law_284 (ci_L_check_458 l hlt (σ := (ap b σ [] [] [])) (b := b) (lyA hK) x2 x3 x4 x5 q1_x2 q2_x2 q1_x3 q2_x3 q1_x4 q2_x4 (rR_at 0 0 (fz_R hF 0 0 rfl rfl)) (rR_at 1 1 (fz_R hF 1 1 rfl rfl))) rfl (by decide) rfl (Nat.le_of_ble_eq_true rfl) (by decide) (fun r u hu => ?_)
  obtain ⟨hu1, z, hu⟩ := hu
  refine z_eqs (σ' := (ap b (wx_Z σ z) [] [] [])) (hu.trans az_ap) ?_
  show zx p l e _ s m _ below meth c g 8 _ _ _ _ 287 [(4, .int 0), (3, .ref (b + 431)), (2, .ref (b + 405)), (1, .ref (b + 0)), (0, .ref bS)] _
  refine z_seti (y := 2) hu1 ?_
  refine z_istore (lv' := [(5, .int 2), (4, .int 0), (3, .ref (b + 431)), (2, .ref (b + 405)), (1, .ref (b + 0)), (0, .ref bS)]) B dL_law_287 (by decide) rfl ?_
  refine z_aload_n B dL_law_289 rfl 3 rfl ?_
  refine z_aload_n B dL_law_290 rfl 5 rfl ?_
  refine z_iload B dL_law_291 1 rfl ?_
  refine z_iconst (v := 1) B dL_law_293 (by decide) ?_
  refine z_iadd B dL_law_294 ?_
  refine z_seti (y := 1) (by decide) ?_
  refine z_sld (j := 1) (x := 1) B hX hbl hbA (by decide) (show ¬ ((1 : Int32) < 0 ∨ 6 ≤ (1 : Int32).toNatClampNeg) by decide) h_x1 dL_law_295 ?_
  refine z_aload_n B dL_law_296 rfl 5 rfl ?_
  refine z_iload B dL_law_297 1 rfl ?_
  refine z_iconst (v := 2) B dL_law_299 (by decide) ?_
  refine z_iadd B dL_law_300 ?_
  refine z_seti (y := 2) (by decide) ?_
  refine z_sld (j := 2) (x := x2) B hX hbl hbA (by decide) (show ¬ ((2 : Int32) < 0 ∨ 6 ≤ (2 : Int32).toNatClampNeg) by decide) h_x2 dL_law_301 ?_
  refine z_aload_n B dL_law_302 rfl 5 rfl ?_
  refine z_iload B dL_law_303 1 rfl ?_
  refine z_iconst (v := 3) B dL_law_305 (by decide) ?_
  refine z_iadd B dL_law_306 ?_
  refine z_seti (y := 3) (by decide) ?_
  refine z_sld (j := 3) (x := x3) B hX hbl hbA (by decide) (show ¬ ((3 : Int32) < 0 ∨ 6 ≤ (3 : Int32).toNatClampNeg) by decide) h_x3 dL_law_307 ?_
  refine z_aload_n B dL_law_308 rfl 5 rfl ?_
  refine z_iload B dL_law_309 1 rfl ?_
  refine z_iconst (v := 4) B dL_law_311 (by decide) ?_
  refine z_iadd B dL_law_312 ?_
  refine z_seti (y := 4) (by decide) ?_
  refine z_sld (j := 4) (x := x4) B hX hbl hbA (by decide) (show ¬ ((4 : Int32) < 0 ∨ 6 ≤ (4 : Int32).toNatClampNeg) by decide) h_x4 dL_law_313 ?_
  refine z_aload_n B dL_law_314 rfl 5 rfl ?_
  refine z_iload B dL_law_315 1 rfl ?_
  refine z_iconst (v := 5) B dL_law_317 (by decide) ?_
  refine z_iadd B dL_law_318 ?_
  refine z_seti (y := 5) (by decide) ?_
  refine z_sld (j := 5) (x := x5) B hX hbl hbA (by decide) (show ¬ ((5 : Int32) < 0 ∨ 6 ≤ (5 : Int32).toNatClampNeg) by decide) h_x5 dL_law_319 ?_
  refine z_cVi (As := [.int 1, .int x2, .int x3, .int x4, .int x5]) (rest := []) B cw_L_86 cx_10 dL_law_320 (ci_X9_check_459 l (σ := (ap b (wx_Z σ z) [] [] [])) (b := b) (lyA (lyZ hK)) x2 x3 x4 x5 q1_x2 q2_x2 q1_x3 q2_x3 q1_x4 q2_x4) (lKA (lKZ (hk_K hK 405 rfl rfl))) rfl (by decide) rfl (Nat.le_of_ble_eq_true rfl) (by decide) (fun r u hu => ?_)
  refine z_eqs (σ' := (ap b (wx_Z σ z) [(405, 0, 2)] [] [])) (hu.2.trans ap_ap) ?_
  show zx p l e _ s m _ below meth c g 8 _ _ _ _ 323 [(5, .int 2), (4, .int 0), (3, .ref (b + 431)), (2, .ref (b + 405)), (1, .ref (b + 0)), (0, .ref bS)] _
  refine z_seti (y := 0) hu.1 ?_
  refine z_istore (lv' := [(6, .int 0), (5, .int 2), (4, .int 0), (3, .ref (b + 431)), (2, .ref (b + 405)), (1, .ref (b + 0)), (0, .ref bS)]) B dL_law_323 (by decide) rfl ?_
  refine z_aload_n B dL_law_325 rfl 4 rfl ?_
  refine z_cVi (As := []) (rest := []) B cw_L_80 cx_10 dL_law_326 (ci_X9_thrown_73 l (σ := (ap b (wx_Z σ z) [(405, 0, 2)] [] [])) (b := b) (lyA (lyZ hK)) (rI_at 405 0 rfl)) (lKA (lKZ (hk_K hK 405 rfl rfl))) rfl (by decide) rfl (Nat.le_of_ble_eq_true rfl) (by decide) (fun r u hu => ?_)
  refine z_eqs (σ' := (ap b (wx_Z σ z) [(405, 0, 2)] [] [])) hu.2 ?_
  show zx p l e _ s m _ below meth c g 8 _ _ _ _ 329 [(6, .int 0), (5, .int 2), (4, .int 0), (3, .ref (b + 431)), (2, .ref (b + 405)), (1, .ref (b + 0)), (0, .ref bS)] _
  refine z_seti (y := 2) hu.1 ?_
  refine z_iload B dL_law_329 1 rfl ?_
  refine z_icmp_eq (tgt := 336) B dL_law_331 (by decide) (fun _ => ?_) (fun h => absurd (by decide) h)
  refine z_iload B dL_law_336 1 rfl ?_
  refine z_if_ne (tgt := 353) B dL_law_338 (by decide) (fun _ => ?_) (fun h => absurd h (by decide))
  refine z_goto (tgt := 1395) B dL_law_353 (by decide) ?_
  exact z_widen (Nat.le_of_ble_eq_true rfl) (Nat.le_of_ble_eq_true rfl) (z_sub _ [2, 6] rfl (kk _))
set_option maxRecDepth 100000 in
set_option maxHeartbeats 4000000 in
theorem lf_1_181 {p : Program} {l : Launch} {e : Env} {s : State} {m : MethodId} {args : Array Value} {below : List Frame} {meth : Method} {c : Code} {g : gx_T} {Q : State → Prop} {σ : sx_T} {b t bS : Nat} {xs : Nat → Int32} (hlt : l.stackTraces = false) (B : zx_B p s m args meth c code RL 8 g) (hX : va_X bS 6 xs s s.heap) (hbl : bS < s.heap.size) (hbA : ¬ gx_b g ≤ bS) (hF : fz_P b t σ) (h_x1 : xs 1 = 1) {x2 : Int32} (h_x2 : xs 2 = x2) (q1_x2 : (0 : Int) ≤ x2.toInt) (q2_x2 : x2.toInt ≤ (19 : Int)) {x3 : Int32} (h_x3 : xs 3 = x3) (q1_x3 : (18 : Int) ≤ x3.toInt) (q2_x3 : x3.toInt ≤ (2147483647 : Int)) {x4 : Int32} (h_x4 : xs 4 = x4) (q1_x4 : (-2147483648 : Int) ≤ x4.toInt) (q2_x4 : x4.toInt ≤ (2147483647 : Int)) {x5 : Int32} (h_x5 : xs 5 = x5) (q1_x5 : (-2147483648 : Int) ≤ x5.toInt) (q2_x5 : x5.toInt ≤ (2147483647 : Int)) (kk : ∀ σ', zx p l e room_1 s m args below meth c g 8 600002 7302232 Q σ' 1395 [(4, .int 0), (0, .ref bS)] []) : zx p l e room_1 s m args below meth c g 8 500 100000 Q σ 252 [(4, .int 0), (3, .ref (b + 431)), (2, .ref (b + 405)), (1, .ref (b + 0)), (0, .ref bS)] [] := by
  have hK := fz_lay hF
  refine z_eqs (σ' := (ap b σ [] [] [])) rfl ?_
  refine z_aload_n B dL_law_252 rfl 3 rfl ?_
  refine z_aload_n B dL_law_253 rfl 4 rfl ?_
  refine z_iload B dL_law_254 0 rfl ?_
  refine z_iconst (v := 1) B dL_law_256 (by decide) ?_
  refine z_iadd B dL_law_257 ?_
  refine z_seti (y := 1) (by decide) ?_
  refine z_sld (j := 1) (x := 1) B hX hbl hbA (by decide) (show ¬ ((1 : Int32) < 0 ∨ 6 ≤ (1 : Int32).toNatClampNeg) by decide) h_x1 dL_law_258 ?_
  refine z_aload_n B dL_law_259 rfl 4 rfl ?_
  refine z_iload B dL_law_260 0 rfl ?_
  refine z_iconst (v := 2) B dL_law_262 (by decide) ?_
  refine z_iadd B dL_law_263 ?_
  refine z_seti (y := 2) (by decide) ?_
  refine z_sld (j := 2) (x := x2) B hX hbl hbA (by decide) (show ¬ ((2 : Int32) < 0 ∨ 6 ≤ (2 : Int32).toNatClampNeg) by decide) h_x2 dL_law_264 ?_
  refine z_aload_n B dL_law_265 rfl 4 rfl ?_
  refine z_iload B dL_law_266 0 rfl ?_
  refine z_iconst (v := 3) B dL_law_268 (by decide) ?_
  refine z_iadd B dL_law_269 ?_
  refine z_seti (y := 3) (by decide) ?_
  refine z_sld (j := 3) (x := x3) B hX hbl hbA (by decide) (show ¬ ((3 : Int32) < 0 ∨ 6 ≤ (3 : Int32).toNatClampNeg) by decide) h_x3 dL_law_270 ?_
  refine z_aload_n B dL_law_271 rfl 4 rfl ?_
  refine z_iload B dL_law_272 0 rfl ?_
  refine z_iconst (v := 4) B dL_law_274 (by decide) ?_
  refine z_iadd B dL_law_275 ?_
  refine z_seti (y := 4) (by decide) ?_
  refine z_sld (j := 4) (x := x4) B hX hbl hbA (by decide) (show ¬ ((4 : Int32) < 0 ∨ 6 ≤ (4 : Int32).toNatClampNeg) by decide) h_x4 dL_law_276 ?_
  refine z_aload_n B dL_law_277 rfl 4 rfl ?_
  refine z_iload B dL_law_278 0 rfl ?_
  refine z_iconst (v := 5) B dL_law_280 (by decide) ?_
  refine z_iadd B dL_law_281 ?_
  refine z_seti (y := 5) (by decide) ?_
  refine z_sld (j := 5) (x := x5) B hX hbl hbA (by decide) (show ¬ ((5 : Int32) < 0 ∨ 6 ≤ (5 : Int32).toNatClampNeg) by decide) h_x5 dL_law_282 ?_
  refine z_aload_n B dL_law_283 rfl 1 rfl ?_
  refine z_cSWi (As := [.ref (b + 0), .int 1, .int x2, .int x3, .int x4, .int x5, .ref (b + 431)]) (rest := []) B cw_L_84 dL_law_284 (ci_L_check_461 l hlt (σ := (ap b σ [] [] [])) (b := b) (lyA hK) x2 x3 x4 x5 q1_x2 q2_x2 q1_x3 q2_x3 (rR_at 0 0 (fz_R hF 0 0 rfl rfl)) (rR_at 1 1 (fz_R hF 1 1 rfl rfl))) rfl (by decide) rfl (Nat.le_of_ble_eq_true rfl) (by decide) (fun r u hu => ?_)
  obtain ⟨hu1, z, hu⟩ := hu
  refine z_eqs (σ' := (ap b (wx_Z σ z) [] [] [])) (hu.trans az_ap) ?_
  show zx p l e _ s m _ below meth c g 8 _ _ _ _ 287 [(4, .int 0), (3, .ref (b + 431)), (2, .ref (b + 405)), (1, .ref (b + 0)), (0, .ref bS)] _
  refine z_seti (y := 2) hu1 ?_
  refine z_istore (lv' := [(5, .int 2), (4, .int 0), (3, .ref (b + 431)), (2, .ref (b + 405)), (1, .ref (b + 0)), (0, .ref bS)]) B dL_law_287 (by decide) rfl ?_
  refine z_aload_n B dL_law_289 rfl 3 rfl ?_
  refine z_aload_n B dL_law_290 rfl 5 rfl ?_
  refine z_iload B dL_law_291 1 rfl ?_
  refine z_iconst (v := 1) B dL_law_293 (by decide) ?_
  refine z_iadd B dL_law_294 ?_
  refine z_seti (y := 1) (by decide) ?_
  refine z_sld (j := 1) (x := 1) B hX hbl hbA (by decide) (show ¬ ((1 : Int32) < 0 ∨ 6 ≤ (1 : Int32).toNatClampNeg) by decide) h_x1 dL_law_295 ?_
  refine z_aload_n B dL_law_296 rfl 5 rfl ?_
  refine z_iload B dL_law_297 1 rfl ?_
  refine z_iconst (v := 2) B dL_law_299 (by decide) ?_
  refine z_iadd B dL_law_300 ?_
  refine z_seti (y := 2) (by decide) ?_
  refine z_sld (j := 2) (x := x2) B hX hbl hbA (by decide) (show ¬ ((2 : Int32) < 0 ∨ 6 ≤ (2 : Int32).toNatClampNeg) by decide) h_x2 dL_law_301 ?_
  refine z_aload_n B dL_law_302 rfl 5 rfl ?_
  refine z_iload B dL_law_303 1 rfl ?_
  refine z_iconst (v := 3) B dL_law_305 (by decide) ?_
  refine z_iadd B dL_law_306 ?_
  refine z_seti (y := 3) (by decide) ?_
  refine z_sld (j := 3) (x := x3) B hX hbl hbA (by decide) (show ¬ ((3 : Int32) < 0 ∨ 6 ≤ (3 : Int32).toNatClampNeg) by decide) h_x3 dL_law_307 ?_
  refine z_aload_n B dL_law_308 rfl 5 rfl ?_
  refine z_iload B dL_law_309 1 rfl ?_
  refine z_iconst (v := 4) B dL_law_311 (by decide) ?_
  refine z_iadd B dL_law_312 ?_
  refine z_seti (y := 4) (by decide) ?_
  refine z_sld (j := 4) (x := x4) B hX hbl hbA (by decide) (show ¬ ((4 : Int32) < 0 ∨ 6 ≤ (4 : Int32).toNatClampNeg) by decide) h_x4 dL_law_313 ?_
  refine z_aload_n B dL_law_314 rfl 5 rfl ?_
  refine z_iload B dL_law_315 1 rfl ?_
  refine z_iconst (v := 5) B dL_law_317 (by decide) ?_
  refine z_iadd B dL_law_318 ?_
  refine z_seti (y := 5) (by decide) ?_
  refine z_sld (j := 5) (x := x5) B hX hbl hbA (by decide) (show ¬ ((5 : Int32) < 0 ∨ 6 ≤ (5 : Int32).toNatClampNeg) by decide) h_x5 dL_law_319 ?_
  refine z_cVi (As := [.int 1, .int x2, .int x3, .int x4, .int x5]) (rest := []) B cw_L_86 cx_10 dL_law_320 (ci_X9_check_462 l (σ := (ap b (wx_Z σ z) [] [] [])) (b := b) (lyA (lyZ hK)) x2 x3 x4 x5 q1_x2 q2_x2 q1_x3 q2_x3) (lKA (lKZ (hk_K hK 405 rfl rfl))) rfl (by decide) rfl (Nat.le_of_ble_eq_true rfl) (by decide) (fun r u hu => ?_)
  refine z_eqs (σ' := (ap b (wx_Z σ z) [(405, 0, 2)] [] [])) (hu.2.trans ap_ap) ?_
  show zx p l e _ s m _ below meth c g 8 _ _ _ _ 323 [(5, .int 2), (4, .int 0), (3, .ref (b + 431)), (2, .ref (b + 405)), (1, .ref (b + 0)), (0, .ref bS)] _
  refine z_seti (y := 0) hu.1 ?_
  refine z_istore (lv' := [(6, .int 0), (5, .int 2), (4, .int 0), (3, .ref (b + 431)), (2, .ref (b + 405)), (1, .ref (b + 0)), (0, .ref bS)]) B dL_law_323 (by decide) rfl ?_
  refine z_aload_n B dL_law_325 rfl 4 rfl ?_
  refine z_cVi (As := []) (rest := []) B cw_L_80 cx_10 dL_law_326 (ci_X9_thrown_73 l (σ := (ap b (wx_Z σ z) [(405, 0, 2)] [] [])) (b := b) (lyA (lyZ hK)) (rI_at 405 0 rfl)) (lKA (lKZ (hk_K hK 405 rfl rfl))) rfl (by decide) rfl (Nat.le_of_ble_eq_true rfl) (by decide) (fun r u hu => ?_)
  refine z_eqs (σ' := (ap b (wx_Z σ z) [(405, 0, 2)] [] [])) hu.2 ?_
  show zx p l e _ s m _ below meth c g 8 _ _ _ _ 329 [(6, .int 0), (5, .int 2), (4, .int 0), (3, .ref (b + 431)), (2, .ref (b + 405)), (1, .ref (b + 0)), (0, .ref bS)] _
  refine z_seti (y := 2) hu.1 ?_
  refine z_iload B dL_law_329 1 rfl ?_
  refine z_icmp_eq (tgt := 336) B dL_law_331 (by decide) (fun _ => ?_) (fun h => absurd (by decide) h)
  refine z_iload B dL_law_336 1 rfl ?_
  refine z_if_ne (tgt := 353) B dL_law_338 (by decide) (fun _ => ?_) (fun h => absurd h (by decide))
  refine z_goto (tgt := 1395) B dL_law_353 (by decide) ?_
  exact z_widen (Nat.le_of_ble_eq_true rfl) (Nat.le_of_ble_eq_true rfl) (z_sub _ [2, 6] rfl (kk _))
set_option maxRecDepth 100000 in
set_option maxHeartbeats 4000000 in
theorem lf_1_182 {p : Program} {l : Launch} {e : Env} {s : State} {m : MethodId} {args : Array Value} {below : List Frame} {meth : Method} {c : Code} {g : gx_T} {Q : State → Prop} {σ : sx_T} {b t bS : Nat} {xs : Nat → Int32} (hlt : l.stackTraces = false) (B : zx_B p s m args meth c code RL 8 g) (hX : va_X bS 6 xs s s.heap) (hbl : bS < s.heap.size) (hbA : ¬ gx_b g ≤ bS) (hF : fz_P b t σ) (h_x1 : xs 1 = 1) {x2 : Int32} (h_x2 : xs 2 = x2) (q1_x2 : (20 : Int) ≤ x2.toInt) (q2_x2 : x2.toInt ≤ (2147483647 : Int)) {x3 : Int32} (h_x3 : xs 3 = x3) (q1_x3 : (-2147483648 : Int) ≤ x3.toInt) (q2_x3 : x3.toInt ≤ (-1 : Int)) {x4 : Int32} (h_x4 : xs 4 = x4) (q1_x4 : (-2147483648 : Int) ≤ x4.toInt) (q2_x4 : x4.toInt ≤ (2147483647 : Int)) {x5 : Int32} (h_x5 : xs 5 = x5) (q1_x5 : (-2147483648 : Int) ≤ x5.toInt) (q2_x5 : x5.toInt ≤ (2147483647 : Int)) (kk : ∀ σ', zx p l e room_1 s m args below meth c g 8 600002 7302232 Q σ' 1395 [(4, .int 0), (0, .ref bS)] []) : zx p l e room_1 s m args below meth c g 8 500 100000 Q σ 252 [(4, .int 0), (3, .ref (b + 431)), (2, .ref (b + 405)), (1, .ref (b + 0)), (0, .ref bS)] [] := by
  have hK := fz_lay hF
  refine z_eqs (σ' := (ap b σ [] [] [])) rfl ?_
  refine z_aload_n B dL_law_252 rfl 3 rfl ?_
  refine z_aload_n B dL_law_253 rfl 4 rfl ?_
  refine z_iload B dL_law_254 0 rfl ?_
  refine z_iconst (v := 1) B dL_law_256 (by decide) ?_
  refine z_iadd B dL_law_257 ?_
  refine z_seti (y := 1) (by decide) ?_
  refine z_sld (j := 1) (x := 1) B hX hbl hbA (by decide) (show ¬ ((1 : Int32) < 0 ∨ 6 ≤ (1 : Int32).toNatClampNeg) by decide) h_x1 dL_law_258 ?_
  refine z_aload_n B dL_law_259 rfl 4 rfl ?_
  refine z_iload B dL_law_260 0 rfl ?_
  refine z_iconst (v := 2) B dL_law_262 (by decide) ?_
  refine z_iadd B dL_law_263 ?_
  refine z_seti (y := 2) (by decide) ?_
  refine z_sld (j := 2) (x := x2) B hX hbl hbA (by decide) (show ¬ ((2 : Int32) < 0 ∨ 6 ≤ (2 : Int32).toNatClampNeg) by decide) h_x2 dL_law_264 ?_
  refine z_aload_n B dL_law_265 rfl 4 rfl ?_
  refine z_iload B dL_law_266 0 rfl ?_
  refine z_iconst (v := 3) B dL_law_268 (by decide) ?_
  refine z_iadd B dL_law_269 ?_
  refine z_seti (y := 3) (by decide) ?_
  refine z_sld (j := 3) (x := x3) B hX hbl hbA (by decide) (show ¬ ((3 : Int32) < 0 ∨ 6 ≤ (3 : Int32).toNatClampNeg) by decide) h_x3 dL_law_270 ?_
  refine z_aload_n B dL_law_271 rfl 4 rfl ?_
  refine z_iload B dL_law_272 0 rfl ?_
  refine z_iconst (v := 4) B dL_law_274 (by decide) ?_
  refine z_iadd B dL_law_275 ?_
  refine z_seti (y := 4) (by decide) ?_
  refine z_sld (j := 4) (x := x4) B hX hbl hbA (by decide) (show ¬ ((4 : Int32) < 0 ∨ 6 ≤ (4 : Int32).toNatClampNeg) by decide) h_x4 dL_law_276 ?_
  refine z_aload_n B dL_law_277 rfl 4 rfl ?_
  refine z_iload B dL_law_278 0 rfl ?_
  refine z_iconst (v := 5) B dL_law_280 (by decide) ?_
  refine z_iadd B dL_law_281 ?_
  refine z_seti (y := 5) (by decide) ?_
  refine z_sld (j := 5) (x := x5) B hX hbl hbA (by decide) (show ¬ ((5 : Int32) < 0 ∨ 6 ≤ (5 : Int32).toNatClampNeg) by decide) h_x5 dL_law_282 ?_
  refine z_aload_n B dL_law_283 rfl 1 rfl ?_
  refine z_cSWi (As := [.ref (b + 0), .int 1, .int x2, .int x3, .int x4, .int x5, .ref (b + 431)]) (rest := []) B cw_L_84 dL_law_284 (ci_L_check_464 l hlt (σ := (ap b σ [] [] [])) (b := b) (lyA hK) x2 x3 x4 x5 q1_x2 q2_x2 (rR_at 0 0 (fz_R hF 0 0 rfl rfl)) (rR_at 1 1 (fz_R hF 1 1 rfl rfl))) rfl (by decide) rfl (Nat.le_of_ble_eq_true rfl) (by decide) (fun r u hu => ?_)
  obtain ⟨hu1, z, hu⟩ := hu
  refine z_eqs (σ' := (ap b (wx_Z σ z) [] [] [])) (hu.trans az_ap) ?_
  show zx p l e _ s m _ below meth c g 8 _ _ _ _ 287 [(4, .int 0), (3, .ref (b + 431)), (2, .ref (b + 405)), (1, .ref (b + 0)), (0, .ref bS)] _
  refine z_seti (y := 1) hu1 ?_
  refine z_istore (lv' := [(5, .int 1), (4, .int 0), (3, .ref (b + 431)), (2, .ref (b + 405)), (1, .ref (b + 0)), (0, .ref bS)]) B dL_law_287 (by decide) rfl ?_
  refine z_aload_n B dL_law_289 rfl 3 rfl ?_
  refine z_aload_n B dL_law_290 rfl 5 rfl ?_
  refine z_iload B dL_law_291 1 rfl ?_
  refine z_iconst (v := 1) B dL_law_293 (by decide) ?_
  refine z_iadd B dL_law_294 ?_
  refine z_seti (y := 1) (by decide) ?_
  refine z_sld (j := 1) (x := 1) B hX hbl hbA (by decide) (show ¬ ((1 : Int32) < 0 ∨ 6 ≤ (1 : Int32).toNatClampNeg) by decide) h_x1 dL_law_295 ?_
  refine z_aload_n B dL_law_296 rfl 5 rfl ?_
  refine z_iload B dL_law_297 1 rfl ?_
  refine z_iconst (v := 2) B dL_law_299 (by decide) ?_
  refine z_iadd B dL_law_300 ?_
  refine z_seti (y := 2) (by decide) ?_
  refine z_sld (j := 2) (x := x2) B hX hbl hbA (by decide) (show ¬ ((2 : Int32) < 0 ∨ 6 ≤ (2 : Int32).toNatClampNeg) by decide) h_x2 dL_law_301 ?_
  refine z_aload_n B dL_law_302 rfl 5 rfl ?_
  refine z_iload B dL_law_303 1 rfl ?_
  refine z_iconst (v := 3) B dL_law_305 (by decide) ?_
  refine z_iadd B dL_law_306 ?_
  refine z_seti (y := 3) (by decide) ?_
  refine z_sld (j := 3) (x := x3) B hX hbl hbA (by decide) (show ¬ ((3 : Int32) < 0 ∨ 6 ≤ (3 : Int32).toNatClampNeg) by decide) h_x3 dL_law_307 ?_
  refine z_aload_n B dL_law_308 rfl 5 rfl ?_
  refine z_iload B dL_law_309 1 rfl ?_
  refine z_iconst (v := 4) B dL_law_311 (by decide) ?_
  refine z_iadd B dL_law_312 ?_
  refine z_seti (y := 4) (by decide) ?_
  refine z_sld (j := 4) (x := x4) B hX hbl hbA (by decide) (show ¬ ((4 : Int32) < 0 ∨ 6 ≤ (4 : Int32).toNatClampNeg) by decide) h_x4 dL_law_313 ?_
  refine z_aload_n B dL_law_314 rfl 5 rfl ?_
  refine z_iload B dL_law_315 1 rfl ?_
  refine z_iconst (v := 5) B dL_law_317 (by decide) ?_
  refine z_iadd B dL_law_318 ?_
  refine z_seti (y := 5) (by decide) ?_
  refine z_sld (j := 5) (x := x5) B hX hbl hbA (by decide) (show ¬ ((5 : Int32) < 0 ∨ 6 ≤ (5 : Int32).toNatClampNeg) by decide) h_x5 dL_law_319 ?_
  refine z_cVi (As := [.int 1, .int x2, .int x3, .int x4, .int x5]) (rest := []) B cw_L_86 cx_10 dL_law_320 (ci_X9_check_465 l (σ := (ap b (wx_Z σ z) [] [] [])) (b := b) (lyA (lyZ hK)) x2 x3 x4 x5 q1_x2 q2_x2 q1_x3 q2_x3) (lKA (lKZ (hk_K hK 405 rfl rfl))) rfl (by decide) rfl (Nat.le_of_ble_eq_true rfl) (by decide) (fun r u hu => ?_)
  refine z_eqs (σ' := (ap b (wx_Z σ z) [(405, 0, 1)] [] [])) (hu.2.trans ap_ap) ?_
  show zx p l e _ s m _ below meth c g 8 _ _ _ _ 323 [(5, .int 1), (4, .int 0), (3, .ref (b + 431)), (2, .ref (b + 405)), (1, .ref (b + 0)), (0, .ref bS)] _
  refine z_seti (y := 0) hu.1 ?_
  refine z_istore (lv' := [(6, .int 0), (5, .int 1), (4, .int 0), (3, .ref (b + 431)), (2, .ref (b + 405)), (1, .ref (b + 0)), (0, .ref bS)]) B dL_law_323 (by decide) rfl ?_
  refine z_aload_n B dL_law_325 rfl 4 rfl ?_
  refine z_cVi (As := []) (rest := []) B cw_L_80 cx_10 dL_law_326 (ci_X9_thrown_31 l (σ := (ap b (wx_Z σ z) [(405, 0, 1)] [] [])) (b := b) (lyA (lyZ hK)) (rI_at 405 0 rfl)) (lKA (lKZ (hk_K hK 405 rfl rfl))) rfl (by decide) rfl (Nat.le_of_ble_eq_true rfl) (by decide) (fun r u hu => ?_)
  refine z_eqs (σ' := (ap b (wx_Z σ z) [(405, 0, 1)] [] [])) hu.2 ?_
  show zx p l e _ s m _ below meth c g 8 _ _ _ _ 329 [(6, .int 0), (5, .int 1), (4, .int 0), (3, .ref (b + 431)), (2, .ref (b + 405)), (1, .ref (b + 0)), (0, .ref bS)] _
  refine z_seti (y := 1) hu.1 ?_
  refine z_iload B dL_law_329 1 rfl ?_
  refine z_icmp_eq (tgt := 336) B dL_law_331 (by decide) (fun _ => ?_) (fun h => absurd (by decide) h)
  refine z_iload B dL_law_336 1 rfl ?_
  refine z_if_ne (tgt := 353) B dL_law_338 (by decide) (fun _ => ?_) (fun h => absurd h (by decide))
  refine z_goto (tgt := 1395) B dL_law_353 (by decide) ?_
  exact z_widen (Nat.le_of_ble_eq_true rfl) (Nat.le_of_ble_eq_true rfl) (z_sub _ [2, 6] rfl (kk _))
set_option maxRecDepth 100000 in
set_option maxHeartbeats 4000000 in
theorem lf_1_183 {p : Program} {l : Launch} {e : Env} {s : State} {m : MethodId} {args : Array Value} {below : List Frame} {meth : Method} {c : Code} {g : gx_T} {Q : State → Prop} {σ : sx_T} {b t bS : Nat} {xs : Nat → Int32} (hlt : l.stackTraces = false) (B : zx_B p s m args meth c code RL 8 g) (hX : va_X bS 6 xs s s.heap) (hbl : bS < s.heap.size) (hbA : ¬ gx_b g ≤ bS) (hF : fz_P b t σ) (h_x1 : xs 1 = 1) {x2 : Int32} (h_x2 : xs 2 = x2) (q1_x2 : (20 : Int) ≤ x2.toInt) (q2_x2 : x2.toInt ≤ (2147483647 : Int)) {x3 : Int32} (h_x3 : xs 3 = x3) (q1_x3 : (0 : Int) ≤ x3.toInt) (q2_x3 : x3.toInt ≤ (17 : Int)) {x4 : Int32} (h_x4 : xs 4 = x4) (q1_x4 : (-2147483648 : Int) ≤ x4.toInt) (q2_x4 : x4.toInt ≤ (-1 : Int)) {x5 : Int32} (h_x5 : xs 5 = x5) (q1_x5 : (-2147483648 : Int) ≤ x5.toInt) (q2_x5 : x5.toInt ≤ (2147483647 : Int)) (kk : ∀ σ', zx p l e room_1 s m args below meth c g 8 600002 7302232 Q σ' 1395 [(4, .int 0), (0, .ref bS)] []) : zx p l e room_1 s m args below meth c g 8 500 100000 Q σ 252 [(4, .int 0), (3, .ref (b + 431)), (2, .ref (b + 405)), (1, .ref (b + 0)), (0, .ref bS)] [] := by
  have hK := fz_lay hF
  refine z_eqs (σ' := (ap b σ [] [] [])) rfl ?_
  refine z_aload_n B dL_law_252 rfl 3 rfl ?_
  refine z_aload_n B dL_law_253 rfl 4 rfl ?_
  refine z_iload B dL_law_254 0 rfl ?_
  refine z_iconst (v := 1) B dL_law_256 (by decide) ?_
  refine z_iadd B dL_law_257 ?_
  refine z_seti (y := 1) (by decide) ?_
  refine z_sld (j := 1) (x := 1) B hX hbl hbA (by decide) (show ¬ ((1 : Int32) < 0 ∨ 6 ≤ (1 : Int32).toNatClampNeg) by decide) h_x1 dL_law_258 ?_
  refine z_aload_n B dL_law_259 rfl 4 rfl ?_
  refine z_iload B dL_law_260 0 rfl ?_
  refine z_iconst (v := 2) B dL_law_262 (by decide) ?_
  refine z_iadd B dL_law_263 ?_
  refine z_seti (y := 2) (by decide) ?_
  refine z_sld (j := 2) (x := x2) B hX hbl hbA (by decide) (show ¬ ((2 : Int32) < 0 ∨ 6 ≤ (2 : Int32).toNatClampNeg) by decide) h_x2 dL_law_264 ?_
  refine z_aload_n B dL_law_265 rfl 4 rfl ?_
  refine z_iload B dL_law_266 0 rfl ?_
  refine z_iconst (v := 3) B dL_law_268 (by decide) ?_
  refine z_iadd B dL_law_269 ?_
  refine z_seti (y := 3) (by decide) ?_
  refine z_sld (j := 3) (x := x3) B hX hbl hbA (by decide) (show ¬ ((3 : Int32) < 0 ∨ 6 ≤ (3 : Int32).toNatClampNeg) by decide) h_x3 dL_law_270 ?_
  refine z_aload_n B dL_law_271 rfl 4 rfl ?_
  refine z_iload B dL_law_272 0 rfl ?_
  refine z_iconst (v := 4) B dL_law_274 (by decide) ?_
  refine z_iadd B dL_law_275 ?_
  refine z_seti (y := 4) (by decide) ?_
  refine z_sld (j := 4) (x := x4) B hX hbl hbA (by decide) (show ¬ ((4 : Int32) < 0 ∨ 6 ≤ (4 : Int32).toNatClampNeg) by decide) h_x4 dL_law_276 ?_
  refine z_aload_n B dL_law_277 rfl 4 rfl ?_
  refine z_iload B dL_law_278 0 rfl ?_
  refine z_iconst (v := 5) B dL_law_280 (by decide) ?_
  refine z_iadd B dL_law_281 ?_
  refine z_seti (y := 5) (by decide) ?_
  refine z_sld (j := 5) (x := x5) B hX hbl hbA (by decide) (show ¬ ((5 : Int32) < 0 ∨ 6 ≤ (5 : Int32).toNatClampNeg) by decide) h_x5 dL_law_282 ?_
  refine z_aload_n B dL_law_283 rfl 1 rfl ?_
  refine z_cSWi (As := [.ref (b + 0), .int 1, .int x2, .int x3, .int x4, .int x5, .ref (b + 431)]) (rest := []) B cw_L_84 dL_law_284 (ci_L_check_464 l hlt (σ := (ap b σ [] [] [])) (b := b) (lyA hK) x2 x3 x4 x5 q1_x2 q2_x2 (rR_at 0 0 (fz_R hF 0 0 rfl rfl)) (rR_at 1 1 (fz_R hF 1 1 rfl rfl))) rfl (by decide) rfl (Nat.le_of_ble_eq_true rfl) (by decide) (fun r u hu => ?_)
  obtain ⟨hu1, z, hu⟩ := hu
  refine z_eqs (σ' := (ap b (wx_Z σ z) [] [] [])) (hu.trans az_ap) ?_
  show zx p l e _ s m _ below meth c g 8 _ _ _ _ 287 [(4, .int 0), (3, .ref (b + 431)), (2, .ref (b + 405)), (1, .ref (b + 0)), (0, .ref bS)] _
  refine z_seti (y := 1) hu1 ?_
  refine z_istore (lv' := [(5, .int 1), (4, .int 0), (3, .ref (b + 431)), (2, .ref (b + 405)), (1, .ref (b + 0)), (0, .ref bS)]) B dL_law_287 (by decide) rfl ?_
  refine z_aload_n B dL_law_289 rfl 3 rfl ?_
  refine z_aload_n B dL_law_290 rfl 5 rfl ?_
  refine z_iload B dL_law_291 1 rfl ?_
  refine z_iconst (v := 1) B dL_law_293 (by decide) ?_
  refine z_iadd B dL_law_294 ?_
  refine z_seti (y := 1) (by decide) ?_
  refine z_sld (j := 1) (x := 1) B hX hbl hbA (by decide) (show ¬ ((1 : Int32) < 0 ∨ 6 ≤ (1 : Int32).toNatClampNeg) by decide) h_x1 dL_law_295 ?_
  refine z_aload_n B dL_law_296 rfl 5 rfl ?_
  refine z_iload B dL_law_297 1 rfl ?_
  refine z_iconst (v := 2) B dL_law_299 (by decide) ?_
  refine z_iadd B dL_law_300 ?_
  refine z_seti (y := 2) (by decide) ?_
  refine z_sld (j := 2) (x := x2) B hX hbl hbA (by decide) (show ¬ ((2 : Int32) < 0 ∨ 6 ≤ (2 : Int32).toNatClampNeg) by decide) h_x2 dL_law_301 ?_
  refine z_aload_n B dL_law_302 rfl 5 rfl ?_
  refine z_iload B dL_law_303 1 rfl ?_
  refine z_iconst (v := 3) B dL_law_305 (by decide) ?_
  refine z_iadd B dL_law_306 ?_
  refine z_seti (y := 3) (by decide) ?_
  refine z_sld (j := 3) (x := x3) B hX hbl hbA (by decide) (show ¬ ((3 : Int32) < 0 ∨ 6 ≤ (3 : Int32).toNatClampNeg) by decide) h_x3 dL_law_307 ?_
  refine z_aload_n B dL_law_308 rfl 5 rfl ?_
  refine z_iload B dL_law_309 1 rfl ?_
  refine z_iconst (v := 4) B dL_law_311 (by decide) ?_
  refine z_iadd B dL_law_312 ?_
  refine z_seti (y := 4) (by decide) ?_
  refine z_sld (j := 4) (x := x4) B hX hbl hbA (by decide) (show ¬ ((4 : Int32) < 0 ∨ 6 ≤ (4 : Int32).toNatClampNeg) by decide) h_x4 dL_law_313 ?_
  refine z_aload_n B dL_law_314 rfl 5 rfl ?_
  refine z_iload B dL_law_315 1 rfl ?_
  refine z_iconst (v := 5) B dL_law_317 (by decide) ?_
  refine z_iadd B dL_law_318 ?_
  refine z_seti (y := 5) (by decide) ?_
  refine z_sld (j := 5) (x := x5) B hX hbl hbA (by decide) (show ¬ ((5 : Int32) < 0 ∨ 6 ≤ (5 : Int32).toNatClampNeg) by decide) h_x5 dL_law_319 ?_
  refine z_cVi (As := [.int 1, .int x2, .int x3, .int x4, .int x5]) (rest := []) B cw_L_86 cx_10 dL_law_320 (ci_X9_check_466 l (σ := (ap b (wx_Z σ z) [] [] [])) (b := b) (lyA (lyZ hK)) x2 x3 x4 x5 q1_x2 q2_x2 q1_x3 q2_x3 q1_x4 q2_x4) (lKA (lKZ (hk_K hK 405 rfl rfl))) rfl (by decide) rfl (Nat.le_of_ble_eq_true rfl) (by decide) (fun r u hu => ?_)
  refine z_eqs (σ' := (ap b (wx_Z σ z) [(405, 0, 1)] [] [])) (hu.2.trans ap_ap) ?_
  show zx p l e _ s m _ below meth c g 8 _ _ _ _ 323 [(5, .int 1), (4, .int 0), (3, .ref (b + 431)), (2, .ref (b + 405)), (1, .ref (b + 0)), (0, .ref bS)] _
  refine z_seti (y := 0) hu.1 ?_
  refine z_istore (lv' := [(6, .int 0), (5, .int 1), (4, .int 0), (3, .ref (b + 431)), (2, .ref (b + 405)), (1, .ref (b + 0)), (0, .ref bS)]) B dL_law_323 (by decide) rfl ?_
  refine z_aload_n B dL_law_325 rfl 4 rfl ?_
  refine z_cVi (As := []) (rest := []) B cw_L_80 cx_10 dL_law_326 (ci_X9_thrown_31 l (σ := (ap b (wx_Z σ z) [(405, 0, 1)] [] [])) (b := b) (lyA (lyZ hK)) (rI_at 405 0 rfl)) (lKA (lKZ (hk_K hK 405 rfl rfl))) rfl (by decide) rfl (Nat.le_of_ble_eq_true rfl) (by decide) (fun r u hu => ?_)
  refine z_eqs (σ' := (ap b (wx_Z σ z) [(405, 0, 1)] [] [])) hu.2 ?_
  show zx p l e _ s m _ below meth c g 8 _ _ _ _ 329 [(6, .int 0), (5, .int 1), (4, .int 0), (3, .ref (b + 431)), (2, .ref (b + 405)), (1, .ref (b + 0)), (0, .ref bS)] _
  refine z_seti (y := 1) hu.1 ?_
  refine z_iload B dL_law_329 1 rfl ?_
  refine z_icmp_eq (tgt := 336) B dL_law_331 (by decide) (fun _ => ?_) (fun h => absurd (by decide) h)
  refine z_iload B dL_law_336 1 rfl ?_
  refine z_if_ne (tgt := 353) B dL_law_338 (by decide) (fun _ => ?_) (fun h => absurd h (by decide))
  refine z_goto (tgt := 1395) B dL_law_353 (by decide) ?_
  exact z_widen (Nat.le_of_ble_eq_true rfl) (Nat.le_of_ble_eq_true rfl) (z_sub _ [2, 6] rfl (kk _))
set_option maxRecDepth 100000 in
set_option maxHeartbeats 4000000 in
theorem lf_1_184 {p : Program} {l : Launch} {e : Env} {s : State} {m : MethodId} {args : Array Value} {below : List Frame} {meth : Method} {c : Code} {g : gx_T} {Q : State → Prop} {σ : sx_T} {b t bS : Nat} {xs : Nat → Int32} (hlt : l.stackTraces = false) (B : zx_B p s m args meth c code RL 8 g) (hX : va_X bS 6 xs s s.heap) (hbl : bS < s.heap.size) (hbA : ¬ gx_b g ≤ bS) (hF : fz_P b t σ) (h_x1 : xs 1 = 1) {x2 : Int32} (h_x2 : xs 2 = x2) (q1_x2 : (20 : Int) ≤ x2.toInt) (q2_x2 : x2.toInt ≤ (2147483647 : Int)) {x3 : Int32} (h_x3 : xs 3 = x3) (q1_x3 : (0 : Int) ≤ x3.toInt) (q2_x3 : x3.toInt ≤ (17 : Int)) {x4 : Int32} (h_x4 : xs 4 = x4) (q1_x4 : (0 : Int) ≤ x4.toInt) (q2_x4 : x4.toInt ≤ (99 : Int)) {x5 : Int32} (h_x5 : xs 5 = x5) (q1_x5 : (-2147483648 : Int) ≤ x5.toInt) (q2_x5 : x5.toInt ≤ (-1 : Int)) (kk : ∀ σ', zx p l e room_1 s m args below meth c g 8 600002 7302232 Q σ' 1395 [(4, .int 0), (0, .ref bS)] []) : zx p l e room_1 s m args below meth c g 8 500 100000 Q σ 252 [(4, .int 0), (3, .ref (b + 431)), (2, .ref (b + 405)), (1, .ref (b + 0)), (0, .ref bS)] [] := by
  have hK := fz_lay hF
  refine z_eqs (σ' := (ap b σ [] [] [])) rfl ?_
  refine z_aload_n B dL_law_252 rfl 3 rfl ?_
  refine z_aload_n B dL_law_253 rfl 4 rfl ?_
  refine z_iload B dL_law_254 0 rfl ?_
  refine z_iconst (v := 1) B dL_law_256 (by decide) ?_
  refine z_iadd B dL_law_257 ?_
  refine z_seti (y := 1) (by decide) ?_
  refine z_sld (j := 1) (x := 1) B hX hbl hbA (by decide) (show ¬ ((1 : Int32) < 0 ∨ 6 ≤ (1 : Int32).toNatClampNeg) by decide) h_x1 dL_law_258 ?_
  refine z_aload_n B dL_law_259 rfl 4 rfl ?_
  refine z_iload B dL_law_260 0 rfl ?_
  refine z_iconst (v := 2) B dL_law_262 (by decide) ?_
  refine z_iadd B dL_law_263 ?_
  refine z_seti (y := 2) (by decide) ?_
  refine z_sld (j := 2) (x := x2) B hX hbl hbA (by decide) (show ¬ ((2 : Int32) < 0 ∨ 6 ≤ (2 : Int32).toNatClampNeg) by decide) h_x2 dL_law_264 ?_
  refine z_aload_n B dL_law_265 rfl 4 rfl ?_
  refine z_iload B dL_law_266 0 rfl ?_
  refine z_iconst (v := 3) B dL_law_268 (by decide) ?_
  refine z_iadd B dL_law_269 ?_
  refine z_seti (y := 3) (by decide) ?_
  refine z_sld (j := 3) (x := x3) B hX hbl hbA (by decide) (show ¬ ((3 : Int32) < 0 ∨ 6 ≤ (3 : Int32).toNatClampNeg) by decide) h_x3 dL_law_270 ?_
  refine z_aload_n B dL_law_271 rfl 4 rfl ?_
  refine z_iload B dL_law_272 0 rfl ?_
  refine z_iconst (v := 4) B dL_law_274 (by decide) ?_
  refine z_iadd B dL_law_275 ?_
  refine z_seti (y := 4) (by decide) ?_
  refine z_sld (j := 4) (x := x4) B hX hbl hbA (by decide) (show ¬ ((4 : Int32) < 0 ∨ 6 ≤ (4 : Int32).toNatClampNeg) by decide) h_x4 dL_law_276 ?_
  refine z_aload_n B dL_law_277 rfl 4 rfl ?_
  refine z_iload B dL_law_278 0 rfl ?_
  refine z_iconst (v := 5) B dL_law_280 (by decide) ?_
  refine z_iadd B dL_law_281 ?_
  refine z_seti (y := 5) (by decide) ?_
  refine z_sld (j := 5) (x := x5) B hX hbl hbA (by decide) (show ¬ ((5 : Int32) < 0 ∨ 6 ≤ (5 : Int32).toNatClampNeg) by decide) h_x5 dL_law_282 ?_
  refine z_aload_n B dL_law_283 rfl 1 rfl ?_
  refine z_cSWi (As := [.ref (b + 0), .int 1, .int x2, .int x3, .int x4, .int x5, .ref (b + 431)]) (rest := []) B cw_L_84 dL_law_284 (ci_L_check_464 l hlt (σ := (ap b σ [] [] [])) (b := b) (lyA hK) x2 x3 x4 x5 q1_x2 q2_x2 (rR_at 0 0 (fz_R hF 0 0 rfl rfl)) (rR_at 1 1 (fz_R hF 1 1 rfl rfl))) rfl (by decide) rfl (Nat.le_of_ble_eq_true rfl) (by decide) (fun r u hu => ?_)
  obtain ⟨hu1, z, hu⟩ := hu
  refine z_eqs (σ' := (ap b (wx_Z σ z) [] [] [])) (hu.trans az_ap) ?_
  show zx p l e _ s m _ below meth c g 8 _ _ _ _ 287 [(4, .int 0), (3, .ref (b + 431)), (2, .ref (b + 405)), (1, .ref (b + 0)), (0, .ref bS)] _
  refine z_seti (y := 1) hu1 ?_
  refine z_istore (lv' := [(5, .int 1), (4, .int 0), (3, .ref (b + 431)), (2, .ref (b + 405)), (1, .ref (b + 0)), (0, .ref bS)]) B dL_law_287 (by decide) rfl ?_
  refine z_aload_n B dL_law_289 rfl 3 rfl ?_
  refine z_aload_n B dL_law_290 rfl 5 rfl ?_
  refine z_iload B dL_law_291 1 rfl ?_
  refine z_iconst (v := 1) B dL_law_293 (by decide) ?_
  refine z_iadd B dL_law_294 ?_
  refine z_seti (y := 1) (by decide) ?_
  refine z_sld (j := 1) (x := 1) B hX hbl hbA (by decide) (show ¬ ((1 : Int32) < 0 ∨ 6 ≤ (1 : Int32).toNatClampNeg) by decide) h_x1 dL_law_295 ?_
  refine z_aload_n B dL_law_296 rfl 5 rfl ?_
  refine z_iload B dL_law_297 1 rfl ?_
  refine z_iconst (v := 2) B dL_law_299 (by decide) ?_
  refine z_iadd B dL_law_300 ?_
  refine z_seti (y := 2) (by decide) ?_
  refine z_sld (j := 2) (x := x2) B hX hbl hbA (by decide) (show ¬ ((2 : Int32) < 0 ∨ 6 ≤ (2 : Int32).toNatClampNeg) by decide) h_x2 dL_law_301 ?_
  refine z_aload_n B dL_law_302 rfl 5 rfl ?_
  refine z_iload B dL_law_303 1 rfl ?_
  refine z_iconst (v := 3) B dL_law_305 (by decide) ?_
  refine z_iadd B dL_law_306 ?_
  refine z_seti (y := 3) (by decide) ?_
  refine z_sld (j := 3) (x := x3) B hX hbl hbA (by decide) (show ¬ ((3 : Int32) < 0 ∨ 6 ≤ (3 : Int32).toNatClampNeg) by decide) h_x3 dL_law_307 ?_
  refine z_aload_n B dL_law_308 rfl 5 rfl ?_
  refine z_iload B dL_law_309 1 rfl ?_
  refine z_iconst (v := 4) B dL_law_311 (by decide) ?_
  refine z_iadd B dL_law_312 ?_
  refine z_seti (y := 4) (by decide) ?_
  refine z_sld (j := 4) (x := x4) B hX hbl hbA (by decide) (show ¬ ((4 : Int32) < 0 ∨ 6 ≤ (4 : Int32).toNatClampNeg) by decide) h_x4 dL_law_313 ?_
  refine z_aload_n B dL_law_314 rfl 5 rfl ?_
  refine z_iload B dL_law_315 1 rfl ?_
  refine z_iconst (v := 5) B dL_law_317 (by decide) ?_
  refine z_iadd B dL_law_318 ?_
  refine z_seti (y := 5) (by decide) ?_
  refine z_sld (j := 5) (x := x5) B hX hbl hbA (by decide) (show ¬ ((5 : Int32) < 0 ∨ 6 ≤ (5 : Int32).toNatClampNeg) by decide) h_x5 dL_law_319 ?_
  refine z_cVi (As := [.int 1, .int x2, .int x3, .int x4, .int x5]) (rest := []) B cw_L_86 cx_10 dL_law_320 (ci_X9_check_467 l (σ := (ap b (wx_Z σ z) [] [] [])) (b := b) (lyA (lyZ hK)) x2 x3 x4 x5 q1_x2 q2_x2 q1_x3 q2_x3 q1_x4 q2_x4 q1_x5 q2_x5) (lKA (lKZ (hk_K hK 405 rfl rfl))) rfl (by decide) rfl (Nat.le_of_ble_eq_true rfl) (by decide) (fun r u hu => ?_)
  refine z_eqs (σ' := (ap b (wx_Z σ z) [(405, 0, 1)] [] [])) (hu.2.trans ap_ap) ?_
  show zx p l e _ s m _ below meth c g 8 _ _ _ _ 323 [(5, .int 1), (4, .int 0), (3, .ref (b + 431)), (2, .ref (b + 405)), (1, .ref (b + 0)), (0, .ref bS)] _
  refine z_seti (y := 0) hu.1 ?_
  refine z_istore (lv' := [(6, .int 0), (5, .int 1), (4, .int 0), (3, .ref (b + 431)), (2, .ref (b + 405)), (1, .ref (b + 0)), (0, .ref bS)]) B dL_law_323 (by decide) rfl ?_
  refine z_aload_n B dL_law_325 rfl 4 rfl ?_
  refine z_cVi (As := []) (rest := []) B cw_L_80 cx_10 dL_law_326 (ci_X9_thrown_31 l (σ := (ap b (wx_Z σ z) [(405, 0, 1)] [] [])) (b := b) (lyA (lyZ hK)) (rI_at 405 0 rfl)) (lKA (lKZ (hk_K hK 405 rfl rfl))) rfl (by decide) rfl (Nat.le_of_ble_eq_true rfl) (by decide) (fun r u hu => ?_)
  refine z_eqs (σ' := (ap b (wx_Z σ z) [(405, 0, 1)] [] [])) hu.2 ?_
  show zx p l e _ s m _ below meth c g 8 _ _ _ _ 329 [(6, .int 0), (5, .int 1), (4, .int 0), (3, .ref (b + 431)), (2, .ref (b + 405)), (1, .ref (b + 0)), (0, .ref bS)] _
  refine z_seti (y := 1) hu.1 ?_
  refine z_iload B dL_law_329 1 rfl ?_
  refine z_icmp_eq (tgt := 336) B dL_law_331 (by decide) (fun _ => ?_) (fun h => absurd (by decide) h)
  refine z_iload B dL_law_336 1 rfl ?_
  refine z_if_ne (tgt := 353) B dL_law_338 (by decide) (fun _ => ?_) (fun h => absurd h (by decide))
  refine z_goto (tgt := 1395) B dL_law_353 (by decide) ?_
  exact z_widen (Nat.le_of_ble_eq_true rfl) (Nat.le_of_ble_eq_true rfl) (z_sub _ [2, 6] rfl (kk _))
set_option maxRecDepth 100000 in
set_option maxHeartbeats 4000000 in
theorem lf_1_185 {p : Program} {l : Launch} {e : Env} {s : State} {m : MethodId} {args : Array Value} {below : List Frame} {meth : Method} {c : Code} {g : gx_T} {Q : State → Prop} {σ : sx_T} {b t bS : Nat} {xs : Nat → Int32} (hlt : l.stackTraces = false) (B : zx_B p s m args meth c code RL 8 g) (hX : va_X bS 6 xs s s.heap) (hbl : bS < s.heap.size) (hbA : ¬ gx_b g ≤ bS) (hF : fz_P b t σ) (h_x1 : xs 1 = 1) {x2 : Int32} (h_x2 : xs 2 = x2) (q1_x2 : (20 : Int) ≤ x2.toInt) (q2_x2 : x2.toInt ≤ (2147483647 : Int)) {x3 : Int32} (h_x3 : xs 3 = x3) (q1_x3 : (0 : Int) ≤ x3.toInt) (q2_x3 : x3.toInt ≤ (17 : Int)) {x4 : Int32} (h_x4 : xs 4 = x4) (q1_x4 : (0 : Int) ≤ x4.toInt) (q2_x4 : x4.toInt ≤ (99 : Int)) {x5 : Int32} (h_x5 : xs 5 = x5) (q1_x5 : (0 : Int) ≤ x5.toInt) (q2_x5 : x5.toInt ≤ (99 : Int)) (kk : ∀ σ', zx p l e room_1 s m args below meth c g 8 600002 7302232 Q σ' 1395 [(4, .int 0), (0, .ref bS)] []) : zx p l e room_1 s m args below meth c g 8 500 100000 Q σ 252 [(4, .int 0), (3, .ref (b + 431)), (2, .ref (b + 405)), (1, .ref (b + 0)), (0, .ref bS)] [] := by
  have hK := fz_lay hF
  refine z_eqs (σ' := (ap b σ [] [] [])) rfl ?_
  refine z_aload_n B dL_law_252 rfl 3 rfl ?_
  refine z_aload_n B dL_law_253 rfl 4 rfl ?_
  refine z_iload B dL_law_254 0 rfl ?_
  refine z_iconst (v := 1) B dL_law_256 (by decide) ?_
  refine z_iadd B dL_law_257 ?_
  refine z_seti (y := 1) (by decide) ?_
  refine z_sld (j := 1) (x := 1) B hX hbl hbA (by decide) (show ¬ ((1 : Int32) < 0 ∨ 6 ≤ (1 : Int32).toNatClampNeg) by decide) h_x1 dL_law_258 ?_
  refine z_aload_n B dL_law_259 rfl 4 rfl ?_
  refine z_iload B dL_law_260 0 rfl ?_
  refine z_iconst (v := 2) B dL_law_262 (by decide) ?_
  refine z_iadd B dL_law_263 ?_
  refine z_seti (y := 2) (by decide) ?_
  refine z_sld (j := 2) (x := x2) B hX hbl hbA (by decide) (show ¬ ((2 : Int32) < 0 ∨ 6 ≤ (2 : Int32).toNatClampNeg) by decide) h_x2 dL_law_264 ?_
  refine z_aload_n B dL_law_265 rfl 4 rfl ?_
  refine z_iload B dL_law_266 0 rfl ?_
  refine z_iconst (v := 3) B dL_law_268 (by decide) ?_
  refine z_iadd B dL_law_269 ?_
  refine z_seti (y := 3) (by decide) ?_
  refine z_sld (j := 3) (x := x3) B hX hbl hbA (by decide) (show ¬ ((3 : Int32) < 0 ∨ 6 ≤ (3 : Int32).toNatClampNeg) by decide) h_x3 dL_law_270 ?_
  refine z_aload_n B dL_law_271 rfl 4 rfl ?_
  refine z_iload B dL_law_272 0 rfl ?_
  refine z_iconst (v := 4) B dL_law_274 (by decide) ?_
  refine z_iadd B dL_law_275 ?_
  refine z_seti (y := 4) (by decide) ?_
  refine z_sld (j := 4) (x := x4) B hX hbl hbA (by decide) (show ¬ ((4 : Int32) < 0 ∨ 6 ≤ (4 : Int32).toNatClampNeg) by decide) h_x4 dL_law_276 ?_
  refine z_aload_n B dL_law_277 rfl 4 rfl ?_
  refine z_iload B dL_law_278 0 rfl ?_
  refine z_iconst (v := 5) B dL_law_280 (by decide) ?_
  refine z_iadd B dL_law_281 ?_
  refine z_seti (y := 5) (by decide) ?_
  refine z_sld (j := 5) (x := x5) B hX hbl hbA (by decide) (show ¬ ((5 : Int32) < 0 ∨ 6 ≤ (5 : Int32).toNatClampNeg) by decide) h_x5 dL_law_282 ?_
  refine z_aload_n B dL_law_283 rfl 1 rfl ?_
  refine z_cSWi (As := [.ref (b + 0), .int 1, .int x2, .int x3, .int x4, .int x5, .ref (b + 431)]) (rest := []) B cw_L_84 dL_law_284 (ci_L_check_464 l hlt (σ := (ap b σ [] [] [])) (b := b) (lyA hK) x2 x3 x4 x5 q1_x2 q2_x2 (rR_at 0 0 (fz_R hF 0 0 rfl rfl)) (rR_at 1 1 (fz_R hF 1 1 rfl rfl))) rfl (by decide) rfl (Nat.le_of_ble_eq_true rfl) (by decide) (fun r u hu => ?_)
  obtain ⟨hu1, z, hu⟩ := hu
  refine z_eqs (σ' := (ap b (wx_Z σ z) [] [] [])) (hu.trans az_ap) ?_
  show zx p l e _ s m _ below meth c g 8 _ _ _ _ 287 [(4, .int 0), (3, .ref (b + 431)), (2, .ref (b + 405)), (1, .ref (b + 0)), (0, .ref bS)] _
  refine z_seti (y := 1) hu1 ?_
  refine z_istore (lv' := [(5, .int 1), (4, .int 0), (3, .ref (b + 431)), (2, .ref (b + 405)), (1, .ref (b + 0)), (0, .ref bS)]) B dL_law_287 (by decide) rfl ?_
  refine z_aload_n B dL_law_289 rfl 3 rfl ?_
  refine z_aload_n B dL_law_290 rfl 5 rfl ?_
  refine z_iload B dL_law_291 1 rfl ?_
  refine z_iconst (v := 1) B dL_law_293 (by decide) ?_
  refine z_iadd B dL_law_294 ?_
  refine z_seti (y := 1) (by decide) ?_
  refine z_sld (j := 1) (x := 1) B hX hbl hbA (by decide) (show ¬ ((1 : Int32) < 0 ∨ 6 ≤ (1 : Int32).toNatClampNeg) by decide) h_x1 dL_law_295 ?_
  refine z_aload_n B dL_law_296 rfl 5 rfl ?_
  refine z_iload B dL_law_297 1 rfl ?_
  refine z_iconst (v := 2) B dL_law_299 (by decide) ?_
  refine z_iadd B dL_law_300 ?_
  refine z_seti (y := 2) (by decide) ?_
  refine z_sld (j := 2) (x := x2) B hX hbl hbA (by decide) (show ¬ ((2 : Int32) < 0 ∨ 6 ≤ (2 : Int32).toNatClampNeg) by decide) h_x2 dL_law_301 ?_
  refine z_aload_n B dL_law_302 rfl 5 rfl ?_
  refine z_iload B dL_law_303 1 rfl ?_
  refine z_iconst (v := 3) B dL_law_305 (by decide) ?_
  refine z_iadd B dL_law_306 ?_
  refine z_seti (y := 3) (by decide) ?_
  refine z_sld (j := 3) (x := x3) B hX hbl hbA (by decide) (show ¬ ((3 : Int32) < 0 ∨ 6 ≤ (3 : Int32).toNatClampNeg) by decide) h_x3 dL_law_307 ?_
  refine z_aload_n B dL_law_308 rfl 5 rfl ?_
  refine z_iload B dL_law_309 1 rfl ?_
  refine z_iconst (v := 4) B dL_law_311 (by decide) ?_
  refine z_iadd B dL_law_312 ?_
  refine z_seti (y := 4) (by decide) ?_
  refine z_sld (j := 4) (x := x4) B hX hbl hbA (by decide) (show ¬ ((4 : Int32) < 0 ∨ 6 ≤ (4 : Int32).toNatClampNeg) by decide) h_x4 dL_law_313 ?_
  refine z_aload_n B dL_law_314 rfl 5 rfl ?_
  refine z_iload B dL_law_315 1 rfl ?_
  refine z_iconst (v := 5) B dL_law_317 (by decide) ?_
  refine z_iadd B dL_law_318 ?_
  refine z_seti (y := 5) (by decide) ?_
  refine z_sld (j := 5) (x := x5) B hX hbl hbA (by decide) (show ¬ ((5 : Int32) < 0 ∨ 6 ≤ (5 : Int32).toNatClampNeg) by decide) h_x5 dL_law_319 ?_
  refine z_cVi (As := [.int 1, .int x2, .int x3, .int x4, .int x5]) (rest := []) B cw_L_86 cx_10 dL_law_320 (ci_X9_check_468 l (σ := (ap b (wx_Z σ z) [] [] [])) (b := b) (lyA (lyZ hK)) x2 x3 x4 x5 q1_x2 q2_x2 q1_x3 q2_x3 q1_x4 q2_x4 q1_x5 q2_x5) (lKA (lKZ (hk_K hK 405 rfl rfl))) rfl (by decide) rfl (Nat.le_of_ble_eq_true rfl) (by decide) (fun r u hu => ?_)
  refine z_eqs (σ' := (ap b (wx_Z σ z) [(405, 0, 1)] [] [])) (hu.2.trans ap_ap) ?_
  show zx p l e _ s m _ below meth c g 8 _ _ _ _ 323 [(5, .int 1), (4, .int 0), (3, .ref (b + 431)), (2, .ref (b + 405)), (1, .ref (b + 0)), (0, .ref bS)] _
  refine z_seti (y := 0) hu.1 ?_
  refine z_istore (lv' := [(6, .int 0), (5, .int 1), (4, .int 0), (3, .ref (b + 431)), (2, .ref (b + 405)), (1, .ref (b + 0)), (0, .ref bS)]) B dL_law_323 (by decide) rfl ?_
  refine z_aload_n B dL_law_325 rfl 4 rfl ?_
  refine z_cVi (As := []) (rest := []) B cw_L_80 cx_10 dL_law_326 (ci_X9_thrown_31 l (σ := (ap b (wx_Z σ z) [(405, 0, 1)] [] [])) (b := b) (lyA (lyZ hK)) (rI_at 405 0 rfl)) (lKA (lKZ (hk_K hK 405 rfl rfl))) rfl (by decide) rfl (Nat.le_of_ble_eq_true rfl) (by decide) (fun r u hu => ?_)
  refine z_eqs (σ' := (ap b (wx_Z σ z) [(405, 0, 1)] [] [])) hu.2 ?_
  show zx p l e _ s m _ below meth c g 8 _ _ _ _ 329 [(6, .int 0), (5, .int 1), (4, .int 0), (3, .ref (b + 431)), (2, .ref (b + 405)), (1, .ref (b + 0)), (0, .ref bS)] _
  refine z_seti (y := 1) hu.1 ?_
  refine z_iload B dL_law_329 1 rfl ?_
  refine z_icmp_eq (tgt := 336) B dL_law_331 (by decide) (fun _ => ?_) (fun h => absurd (by decide) h)
  refine z_iload B dL_law_336 1 rfl ?_
  refine z_if_ne (tgt := 353) B dL_law_338 (by decide) (fun _ => ?_) (fun h => absurd h (by decide))
  refine z_goto (tgt := 1395) B dL_law_353 (by decide) ?_
  exact z_widen (Nat.le_of_ble_eq_true rfl) (Nat.le_of_ble_eq_true rfl) (z_sub _ [2, 6] rfl (kk _))
set_option maxRecDepth 100000 in
set_option maxHeartbeats 4000000 in
theorem lf_1_186 {p : Program} {l : Launch} {e : Env} {s : State} {m : MethodId} {args : Array Value} {below : List Frame} {meth : Method} {c : Code} {g : gx_T} {Q : State → Prop} {σ : sx_T} {b t bS : Nat} {xs : Nat → Int32} (hlt : l.stackTraces = false) (B : zx_B p s m args meth c code RL 8 g) (hX : va_X bS 6 xs s s.heap) (hbl : bS < s.heap.size) (hbA : ¬ gx_b g ≤ bS) (hF : fz_P b t σ) (h_x1 : xs 1 = 1) {x2 : Int32} (h_x2 : xs 2 = x2) (q1_x2 : (20 : Int) ≤ x2.toInt) (q2_x2 : x2.toInt ≤ (2147483647 : Int)) {x3 : Int32} (h_x3 : xs 3 = x3) (q1_x3 : (0 : Int) ≤ x3.toInt) (q2_x3 : x3.toInt ≤ (17 : Int)) {x4 : Int32} (h_x4 : xs 4 = x4) (q1_x4 : (0 : Int) ≤ x4.toInt) (q2_x4 : x4.toInt ≤ (99 : Int)) {x5 : Int32} (h_x5 : xs 5 = x5) (q1_x5 : (100 : Int) ≤ x5.toInt) (q2_x5 : x5.toInt ≤ (2147483647 : Int)) (kk : ∀ σ', zx p l e room_1 s m args below meth c g 8 600002 7302232 Q σ' 1395 [(4, .int 0), (0, .ref bS)] []) : zx p l e room_1 s m args below meth c g 8 500 100000 Q σ 252 [(4, .int 0), (3, .ref (b + 431)), (2, .ref (b + 405)), (1, .ref (b + 0)), (0, .ref bS)] [] := by
  have hK := fz_lay hF
  refine z_eqs (σ' := (ap b σ [] [] [])) rfl ?_
  refine z_aload_n B dL_law_252 rfl 3 rfl ?_
  refine z_aload_n B dL_law_253 rfl 4 rfl ?_
  refine z_iload B dL_law_254 0 rfl ?_
  refine z_iconst (v := 1) B dL_law_256 (by decide) ?_
  refine z_iadd B dL_law_257 ?_
  refine z_seti (y := 1) (by decide) ?_
  refine z_sld (j := 1) (x := 1) B hX hbl hbA (by decide) (show ¬ ((1 : Int32) < 0 ∨ 6 ≤ (1 : Int32).toNatClampNeg) by decide) h_x1 dL_law_258 ?_
  refine z_aload_n B dL_law_259 rfl 4 rfl ?_
  refine z_iload B dL_law_260 0 rfl ?_
  refine z_iconst (v := 2) B dL_law_262 (by decide) ?_
  refine z_iadd B dL_law_263 ?_
  refine z_seti (y := 2) (by decide) ?_
  refine z_sld (j := 2) (x := x2) B hX hbl hbA (by decide) (show ¬ ((2 : Int32) < 0 ∨ 6 ≤ (2 : Int32).toNatClampNeg) by decide) h_x2 dL_law_264 ?_
  refine z_aload_n B dL_law_265 rfl 4 rfl ?_
  refine z_iload B dL_law_266 0 rfl ?_
  refine z_iconst (v := 3) B dL_law_268 (by decide) ?_
  refine z_iadd B dL_law_269 ?_
  refine z_seti (y := 3) (by decide) ?_
  refine z_sld (j := 3) (x := x3) B hX hbl hbA (by decide) (show ¬ ((3 : Int32) < 0 ∨ 6 ≤ (3 : Int32).toNatClampNeg) by decide) h_x3 dL_law_270 ?_
  refine z_aload_n B dL_law_271 rfl 4 rfl ?_
  refine z_iload B dL_law_272 0 rfl ?_
  refine z_iconst (v := 4) B dL_law_274 (by decide) ?_
  refine z_iadd B dL_law_275 ?_
  refine z_seti (y := 4) (by decide) ?_
  refine z_sld (j := 4) (x := x4) B hX hbl hbA (by decide) (show ¬ ((4 : Int32) < 0 ∨ 6 ≤ (4 : Int32).toNatClampNeg) by decide) h_x4 dL_law_276 ?_
  refine z_aload_n B dL_law_277 rfl 4 rfl ?_
  refine z_iload B dL_law_278 0 rfl ?_
  refine z_iconst (v := 5) B dL_law_280 (by decide) ?_
  refine z_iadd B dL_law_281 ?_
  refine z_seti (y := 5) (by decide) ?_
  refine z_sld (j := 5) (x := x5) B hX hbl hbA (by decide) (show ¬ ((5 : Int32) < 0 ∨ 6 ≤ (5 : Int32).toNatClampNeg) by decide) h_x5 dL_law_282 ?_
  refine z_aload_n B dL_law_283 rfl 1 rfl ?_
  refine z_cSWi (As := [.ref (b + 0), .int 1, .int x2, .int x3, .int x4, .int x5, .ref (b + 431)]) (rest := []) B cw_L_84 dL_law_284 (ci_L_check_464 l hlt (σ := (ap b σ [] [] [])) (b := b) (lyA hK) x2 x3 x4 x5 q1_x2 q2_x2 (rR_at 0 0 (fz_R hF 0 0 rfl rfl)) (rR_at 1 1 (fz_R hF 1 1 rfl rfl))) rfl (by decide) rfl (Nat.le_of_ble_eq_true rfl) (by decide) (fun r u hu => ?_)
  obtain ⟨hu1, z, hu⟩ := hu
  refine z_eqs (σ' := (ap b (wx_Z σ z) [] [] [])) (hu.trans az_ap) ?_
  show zx p l e _ s m _ below meth c g 8 _ _ _ _ 287 [(4, .int 0), (3, .ref (b + 431)), (2, .ref (b + 405)), (1, .ref (b + 0)), (0, .ref bS)] _
  refine z_seti (y := 1) hu1 ?_
  refine z_istore (lv' := [(5, .int 1), (4, .int 0), (3, .ref (b + 431)), (2, .ref (b + 405)), (1, .ref (b + 0)), (0, .ref bS)]) B dL_law_287 (by decide) rfl ?_
  refine z_aload_n B dL_law_289 rfl 3 rfl ?_
  refine z_aload_n B dL_law_290 rfl 5 rfl ?_
  refine z_iload B dL_law_291 1 rfl ?_
  refine z_iconst (v := 1) B dL_law_293 (by decide) ?_
  refine z_iadd B dL_law_294 ?_
  refine z_seti (y := 1) (by decide) ?_
  refine z_sld (j := 1) (x := 1) B hX hbl hbA (by decide) (show ¬ ((1 : Int32) < 0 ∨ 6 ≤ (1 : Int32).toNatClampNeg) by decide) h_x1 dL_law_295 ?_
  refine z_aload_n B dL_law_296 rfl 5 rfl ?_
  refine z_iload B dL_law_297 1 rfl ?_
  refine z_iconst (v := 2) B dL_law_299 (by decide) ?_
  refine z_iadd B dL_law_300 ?_
  refine z_seti (y := 2) (by decide) ?_
  refine z_sld (j := 2) (x := x2) B hX hbl hbA (by decide) (show ¬ ((2 : Int32) < 0 ∨ 6 ≤ (2 : Int32).toNatClampNeg) by decide) h_x2 dL_law_301 ?_
  refine z_aload_n B dL_law_302 rfl 5 rfl ?_
  refine z_iload B dL_law_303 1 rfl ?_
  refine z_iconst (v := 3) B dL_law_305 (by decide) ?_
  refine z_iadd B dL_law_306 ?_
  refine z_seti (y := 3) (by decide) ?_
  refine z_sld (j := 3) (x := x3) B hX hbl hbA (by decide) (show ¬ ((3 : Int32) < 0 ∨ 6 ≤ (3 : Int32).toNatClampNeg) by decide) h_x3 dL_law_307 ?_
  refine z_aload_n B dL_law_308 rfl 5 rfl ?_
  refine z_iload B dL_law_309 1 rfl ?_
  refine z_iconst (v := 4) B dL_law_311 (by decide) ?_
  refine z_iadd B dL_law_312 ?_
  refine z_seti (y := 4) (by decide) ?_
  refine z_sld (j := 4) (x := x4) B hX hbl hbA (by decide) (show ¬ ((4 : Int32) < 0 ∨ 6 ≤ (4 : Int32).toNatClampNeg) by decide) h_x4 dL_law_313 ?_
  refine z_aload_n B dL_law_314 rfl 5 rfl ?_
  refine z_iload B dL_law_315 1 rfl ?_
  refine z_iconst (v := 5) B dL_law_317 (by decide) ?_
  refine z_iadd B dL_law_318 ?_
  refine z_seti (y := 5) (by decide) ?_
  refine z_sld (j := 5) (x := x5) B hX hbl hbA (by decide) (show ¬ ((5 : Int32) < 0 ∨ 6 ≤ (5 : Int32).toNatClampNeg) by decide) h_x5 dL_law_319 ?_
  refine z_cVi (As := [.int 1, .int x2, .int x3, .int x4, .int x5]) (rest := []) B cw_L_86 cx_10 dL_law_320 (ci_X9_check_469 l (σ := (ap b (wx_Z σ z) [] [] [])) (b := b) (lyA (lyZ hK)) x2 x3 x4 x5 q1_x2 q2_x2 q1_x3 q2_x3 q1_x4 q2_x4 q1_x5 q2_x5) (lKA (lKZ (hk_K hK 405 rfl rfl))) rfl (by decide) rfl (Nat.le_of_ble_eq_true rfl) (by decide) (fun r u hu => ?_)
  refine z_eqs (σ' := (ap b (wx_Z σ z) [(405, 0, 1)] [] [])) (hu.2.trans ap_ap) ?_
  show zx p l e _ s m _ below meth c g 8 _ _ _ _ 323 [(5, .int 1), (4, .int 0), (3, .ref (b + 431)), (2, .ref (b + 405)), (1, .ref (b + 0)), (0, .ref bS)] _
  refine z_seti (y := 0) hu.1 ?_
  refine z_istore (lv' := [(6, .int 0), (5, .int 1), (4, .int 0), (3, .ref (b + 431)), (2, .ref (b + 405)), (1, .ref (b + 0)), (0, .ref bS)]) B dL_law_323 (by decide) rfl ?_
  refine z_aload_n B dL_law_325 rfl 4 rfl ?_
  refine z_cVi (As := []) (rest := []) B cw_L_80 cx_10 dL_law_326 (ci_X9_thrown_31 l (σ := (ap b (wx_Z σ z) [(405, 0, 1)] [] [])) (b := b) (lyA (lyZ hK)) (rI_at 405 0 rfl)) (lKA (lKZ (hk_K hK 405 rfl rfl))) rfl (by decide) rfl (Nat.le_of_ble_eq_true rfl) (by decide) (fun r u hu => ?_)
  refine z_eqs (σ' := (ap b (wx_Z σ z) [(405, 0, 1)] [] [])) hu.2 ?_
  show zx p l e _ s m _ below meth c g 8 _ _ _ _ 329 [(6, .int 0), (5, .int 1), (4, .int 0), (3, .ref (b + 431)), (2, .ref (b + 405)), (1, .ref (b + 0)), (0, .ref bS)] _
  refine z_seti (y := 1) hu.1 ?_
  refine z_iload B dL_law_329 1 rfl ?_
  refine z_icmp_eq (tgt := 336) B dL_law_331 (by decide) (fun _ => ?_) (fun h => absurd (by decide) h)
  refine z_iload B dL_law_336 1 rfl ?_
  refine z_if_ne (tgt := 353) B dL_law_338 (by decide) (fun _ => ?_) (fun h => absurd h (by decide))
  refine z_goto (tgt := 1395) B dL_law_353 (by decide) ?_
  exact z_widen (Nat.le_of_ble_eq_true rfl) (Nat.le_of_ble_eq_true rfl) (z_sub _ [2, 6] rfl (kk _))
set_option maxRecDepth 100000 in
set_option maxHeartbeats 4000000 in
theorem lf_1_187 {p : Program} {l : Launch} {e : Env} {s : State} {m : MethodId} {args : Array Value} {below : List Frame} {meth : Method} {c : Code} {g : gx_T} {Q : State → Prop} {σ : sx_T} {b t bS : Nat} {xs : Nat → Int32} (hlt : l.stackTraces = false) (B : zx_B p s m args meth c code RL 8 g) (hX : va_X bS 6 xs s s.heap) (hbl : bS < s.heap.size) (hbA : ¬ gx_b g ≤ bS) (hF : fz_P b t σ) (h_x1 : xs 1 = 1) {x2 : Int32} (h_x2 : xs 2 = x2) (q1_x2 : (20 : Int) ≤ x2.toInt) (q2_x2 : x2.toInt ≤ (2147483647 : Int)) {x3 : Int32} (h_x3 : xs 3 = x3) (q1_x3 : (0 : Int) ≤ x3.toInt) (q2_x3 : x3.toInt ≤ (17 : Int)) {x4 : Int32} (h_x4 : xs 4 = x4) (q1_x4 : (100 : Int) ≤ x4.toInt) (q2_x4 : x4.toInt ≤ (2147483647 : Int)) {x5 : Int32} (h_x5 : xs 5 = x5) (q1_x5 : (-2147483648 : Int) ≤ x5.toInt) (q2_x5 : x5.toInt ≤ (2147483647 : Int)) (kk : ∀ σ', zx p l e room_1 s m args below meth c g 8 600002 7302232 Q σ' 1395 [(4, .int 0), (0, .ref bS)] []) : zx p l e room_1 s m args below meth c g 8 500 100000 Q σ 252 [(4, .int 0), (3, .ref (b + 431)), (2, .ref (b + 405)), (1, .ref (b + 0)), (0, .ref bS)] [] := by
  have hK := fz_lay hF
  refine z_eqs (σ' := (ap b σ [] [] [])) rfl ?_
  refine z_aload_n B dL_law_252 rfl 3 rfl ?_
  refine z_aload_n B dL_law_253 rfl 4 rfl ?_
  refine z_iload B dL_law_254 0 rfl ?_
  refine z_iconst (v := 1) B dL_law_256 (by decide) ?_
  refine z_iadd B dL_law_257 ?_
  refine z_seti (y := 1) (by decide) ?_
  refine z_sld (j := 1) (x := 1) B hX hbl hbA (by decide) (show ¬ ((1 : Int32) < 0 ∨ 6 ≤ (1 : Int32).toNatClampNeg) by decide) h_x1 dL_law_258 ?_
  refine z_aload_n B dL_law_259 rfl 4 rfl ?_
  refine z_iload B dL_law_260 0 rfl ?_
  refine z_iconst (v := 2) B dL_law_262 (by decide) ?_
  refine z_iadd B dL_law_263 ?_
  refine z_seti (y := 2) (by decide) ?_
  refine z_sld (j := 2) (x := x2) B hX hbl hbA (by decide) (show ¬ ((2 : Int32) < 0 ∨ 6 ≤ (2 : Int32).toNatClampNeg) by decide) h_x2 dL_law_264 ?_
  refine z_aload_n B dL_law_265 rfl 4 rfl ?_
  refine z_iload B dL_law_266 0 rfl ?_
  refine z_iconst (v := 3) B dL_law_268 (by decide) ?_
  refine z_iadd B dL_law_269 ?_
  refine z_seti (y := 3) (by decide) ?_
  refine z_sld (j := 3) (x := x3) B hX hbl hbA (by decide) (show ¬ ((3 : Int32) < 0 ∨ 6 ≤ (3 : Int32).toNatClampNeg) by decide) h_x3 dL_law_270 ?_
  refine z_aload_n B dL_law_271 rfl 4 rfl ?_
  refine z_iload B dL_law_272 0 rfl ?_
  refine z_iconst (v := 4) B dL_law_274 (by decide) ?_
  refine z_iadd B dL_law_275 ?_
  refine z_seti (y := 4) (by decide) ?_
  refine z_sld (j := 4) (x := x4) B hX hbl hbA (by decide) (show ¬ ((4 : Int32) < 0 ∨ 6 ≤ (4 : Int32).toNatClampNeg) by decide) h_x4 dL_law_276 ?_
  refine z_aload_n B dL_law_277 rfl 4 rfl ?_
  refine z_iload B dL_law_278 0 rfl ?_
  refine z_iconst (v := 5) B dL_law_280 (by decide) ?_
  refine z_iadd B dL_law_281 ?_
  refine z_seti (y := 5) (by decide) ?_
  refine z_sld (j := 5) (x := x5) B hX hbl hbA (by decide) (show ¬ ((5 : Int32) < 0 ∨ 6 ≤ (5 : Int32).toNatClampNeg) by decide) h_x5 dL_law_282 ?_
  refine z_aload_n B dL_law_283 rfl 1 rfl ?_
  refine z_cSWi (As := [.ref (b + 0), .int 1, .int x2, .int x3, .int x4, .int x5, .ref (b + 431)]) (rest := []) B cw_L_84 dL_law_284 (ci_L_check_464 l hlt (σ := (ap b σ [] [] [])) (b := b) (lyA hK) x2 x3 x4 x5 q1_x2 q2_x2 (rR_at 0 0 (fz_R hF 0 0 rfl rfl)) (rR_at 1 1 (fz_R hF 1 1 rfl rfl))) rfl (by decide) rfl (Nat.le_of_ble_eq_true rfl) (by decide) (fun r u hu => ?_)
  obtain ⟨hu1, z, hu⟩ := hu
  refine z_eqs (σ' := (ap b (wx_Z σ z) [] [] [])) (hu.trans az_ap) ?_
  show zx p l e _ s m _ below meth c g 8 _ _ _ _ 287 [(4, .int 0), (3, .ref (b + 431)), (2, .ref (b + 405)), (1, .ref (b + 0)), (0, .ref bS)] _
  refine z_seti (y := 1) hu1 ?_
  refine z_istore (lv' := [(5, .int 1), (4, .int 0), (3, .ref (b + 431)), (2, .ref (b + 405)), (1, .ref (b + 0)), (0, .ref bS)]) B dL_law_287 (by decide) rfl ?_
  refine z_aload_n B dL_law_289 rfl 3 rfl ?_
  refine z_aload_n B dL_law_290 rfl 5 rfl ?_
  refine z_iload B dL_law_291 1 rfl ?_
  refine z_iconst (v := 1) B dL_law_293 (by decide) ?_
  refine z_iadd B dL_law_294 ?_
  refine z_seti (y := 1) (by decide) ?_
  refine z_sld (j := 1) (x := 1) B hX hbl hbA (by decide) (show ¬ ((1 : Int32) < 0 ∨ 6 ≤ (1 : Int32).toNatClampNeg) by decide) h_x1 dL_law_295 ?_
  refine z_aload_n B dL_law_296 rfl 5 rfl ?_
  refine z_iload B dL_law_297 1 rfl ?_
  refine z_iconst (v := 2) B dL_law_299 (by decide) ?_
  refine z_iadd B dL_law_300 ?_
  refine z_seti (y := 2) (by decide) ?_
  refine z_sld (j := 2) (x := x2) B hX hbl hbA (by decide) (show ¬ ((2 : Int32) < 0 ∨ 6 ≤ (2 : Int32).toNatClampNeg) by decide) h_x2 dL_law_301 ?_
  refine z_aload_n B dL_law_302 rfl 5 rfl ?_
  refine z_iload B dL_law_303 1 rfl ?_
  refine z_iconst (v := 3) B dL_law_305 (by decide) ?_
  refine z_iadd B dL_law_306 ?_
  refine z_seti (y := 3) (by decide) ?_
  refine z_sld (j := 3) (x := x3) B hX hbl hbA (by decide) (show ¬ ((3 : Int32) < 0 ∨ 6 ≤ (3 : Int32).toNatClampNeg) by decide) h_x3 dL_law_307 ?_
  refine z_aload_n B dL_law_308 rfl 5 rfl ?_
  refine z_iload B dL_law_309 1 rfl ?_
  refine z_iconst (v := 4) B dL_law_311 (by decide) ?_
  refine z_iadd B dL_law_312 ?_
  refine z_seti (y := 4) (by decide) ?_
  refine z_sld (j := 4) (x := x4) B hX hbl hbA (by decide) (show ¬ ((4 : Int32) < 0 ∨ 6 ≤ (4 : Int32).toNatClampNeg) by decide) h_x4 dL_law_313 ?_
  refine z_aload_n B dL_law_314 rfl 5 rfl ?_
  refine z_iload B dL_law_315 1 rfl ?_
  refine z_iconst (v := 5) B dL_law_317 (by decide) ?_
  refine z_iadd B dL_law_318 ?_
  refine z_seti (y := 5) (by decide) ?_
  refine z_sld (j := 5) (x := x5) B hX hbl hbA (by decide) (show ¬ ((5 : Int32) < 0 ∨ 6 ≤ (5 : Int32).toNatClampNeg) by decide) h_x5 dL_law_319 ?_
  refine z_cVi (As := [.int 1, .int x2, .int x3, .int x4, .int x5]) (rest := []) B cw_L_86 cx_10 dL_law_320 (ci_X9_check_470 l (σ := (ap b (wx_Z σ z) [] [] [])) (b := b) (lyA (lyZ hK)) x2 x3 x4 x5 q1_x2 q2_x2 q1_x3 q2_x3 q1_x4 q2_x4) (lKA (lKZ (hk_K hK 405 rfl rfl))) rfl (by decide) rfl (Nat.le_of_ble_eq_true rfl) (by decide) (fun r u hu => ?_)
  refine z_eqs (σ' := (ap b (wx_Z σ z) [(405, 0, 1)] [] [])) (hu.2.trans ap_ap) ?_
  show zx p l e _ s m _ below meth c g 8 _ _ _ _ 323 [(5, .int 1), (4, .int 0), (3, .ref (b + 431)), (2, .ref (b + 405)), (1, .ref (b + 0)), (0, .ref bS)] _
  refine z_seti (y := 0) hu.1 ?_
  refine z_istore (lv' := [(6, .int 0), (5, .int 1), (4, .int 0), (3, .ref (b + 431)), (2, .ref (b + 405)), (1, .ref (b + 0)), (0, .ref bS)]) B dL_law_323 (by decide) rfl ?_
  refine z_aload_n B dL_law_325 rfl 4 rfl ?_
  refine z_cVi (As := []) (rest := []) B cw_L_80 cx_10 dL_law_326 (ci_X9_thrown_31 l (σ := (ap b (wx_Z σ z) [(405, 0, 1)] [] [])) (b := b) (lyA (lyZ hK)) (rI_at 405 0 rfl)) (lKA (lKZ (hk_K hK 405 rfl rfl))) rfl (by decide) rfl (Nat.le_of_ble_eq_true rfl) (by decide) (fun r u hu => ?_)
  refine z_eqs (σ' := (ap b (wx_Z σ z) [(405, 0, 1)] [] [])) hu.2 ?_
  show zx p l e _ s m _ below meth c g 8 _ _ _ _ 329 [(6, .int 0), (5, .int 1), (4, .int 0), (3, .ref (b + 431)), (2, .ref (b + 405)), (1, .ref (b + 0)), (0, .ref bS)] _
  refine z_seti (y := 1) hu.1 ?_
  refine z_iload B dL_law_329 1 rfl ?_
  refine z_icmp_eq (tgt := 336) B dL_law_331 (by decide) (fun _ => ?_) (fun h => absurd (by decide) h)
  refine z_iload B dL_law_336 1 rfl ?_
  refine z_if_ne (tgt := 353) B dL_law_338 (by decide) (fun _ => ?_) (fun h => absurd h (by decide))
  refine z_goto (tgt := 1395) B dL_law_353 (by decide) ?_
  exact z_widen (Nat.le_of_ble_eq_true rfl) (Nat.le_of_ble_eq_true rfl) (z_sub _ [2, 6] rfl (kk _))
set_option maxRecDepth 100000 in
set_option maxHeartbeats 4000000 in
theorem lf_1_188 {p : Program} {l : Launch} {e : Env} {s : State} {m : MethodId} {args : Array Value} {below : List Frame} {meth : Method} {c : Code} {g : gx_T} {Q : State → Prop} {σ : sx_T} {b t bS : Nat} {xs : Nat → Int32} (hlt : l.stackTraces = false) (B : zx_B p s m args meth c code RL 8 g) (hX : va_X bS 6 xs s s.heap) (hbl : bS < s.heap.size) (hbA : ¬ gx_b g ≤ bS) (hF : fz_P b t σ) (h_x1 : xs 1 = 1) {x2 : Int32} (h_x2 : xs 2 = x2) (q1_x2 : (20 : Int) ≤ x2.toInt) (q2_x2 : x2.toInt ≤ (2147483647 : Int)) {x3 : Int32} (h_x3 : xs 3 = x3) (q1_x3 : (18 : Int) ≤ x3.toInt) (q2_x3 : x3.toInt ≤ (2147483647 : Int)) {x4 : Int32} (h_x4 : xs 4 = x4) (q1_x4 : (-2147483648 : Int) ≤ x4.toInt) (q2_x4 : x4.toInt ≤ (2147483647 : Int)) {x5 : Int32} (h_x5 : xs 5 = x5) (q1_x5 : (-2147483648 : Int) ≤ x5.toInt) (q2_x5 : x5.toInt ≤ (2147483647 : Int)) (kk : ∀ σ', zx p l e room_1 s m args below meth c g 8 600002 7302232 Q σ' 1395 [(4, .int 0), (0, .ref bS)] []) : zx p l e room_1 s m args below meth c g 8 500 100000 Q σ 252 [(4, .int 0), (3, .ref (b + 431)), (2, .ref (b + 405)), (1, .ref (b + 0)), (0, .ref bS)] [] := by
  have hK := fz_lay hF
  refine z_eqs (σ' := (ap b σ [] [] [])) rfl ?_
  refine z_aload_n B dL_law_252 rfl 3 rfl ?_
  refine z_aload_n B dL_law_253 rfl 4 rfl ?_
  refine z_iload B dL_law_254 0 rfl ?_
  refine z_iconst (v := 1) B dL_law_256 (by decide) ?_
  refine z_iadd B dL_law_257 ?_
  refine z_seti (y := 1) (by decide) ?_
  refine z_sld (j := 1) (x := 1) B hX hbl hbA (by decide) (show ¬ ((1 : Int32) < 0 ∨ 6 ≤ (1 : Int32).toNatClampNeg) by decide) h_x1 dL_law_258 ?_
  refine z_aload_n B dL_law_259 rfl 4 rfl ?_
  refine z_iload B dL_law_260 0 rfl ?_
  refine z_iconst (v := 2) B dL_law_262 (by decide) ?_
  refine z_iadd B dL_law_263 ?_
  refine z_seti (y := 2) (by decide) ?_
  refine z_sld (j := 2) (x := x2) B hX hbl hbA (by decide) (show ¬ ((2 : Int32) < 0 ∨ 6 ≤ (2 : Int32).toNatClampNeg) by decide) h_x2 dL_law_264 ?_
  refine z_aload_n B dL_law_265 rfl 4 rfl ?_
  refine z_iload B dL_law_266 0 rfl ?_
  refine z_iconst (v := 3) B dL_law_268 (by decide) ?_
  refine z_iadd B dL_law_269 ?_
  refine z_seti (y := 3) (by decide) ?_
  refine z_sld (j := 3) (x := x3) B hX hbl hbA (by decide) (show ¬ ((3 : Int32) < 0 ∨ 6 ≤ (3 : Int32).toNatClampNeg) by decide) h_x3 dL_law_270 ?_
  refine z_aload_n B dL_law_271 rfl 4 rfl ?_
  refine z_iload B dL_law_272 0 rfl ?_
  refine z_iconst (v := 4) B dL_law_274 (by decide) ?_
  refine z_iadd B dL_law_275 ?_
  refine z_seti (y := 4) (by decide) ?_
  refine z_sld (j := 4) (x := x4) B hX hbl hbA (by decide) (show ¬ ((4 : Int32) < 0 ∨ 6 ≤ (4 : Int32).toNatClampNeg) by decide) h_x4 dL_law_276 ?_
  refine z_aload_n B dL_law_277 rfl 4 rfl ?_
  refine z_iload B dL_law_278 0 rfl ?_
  refine z_iconst (v := 5) B dL_law_280 (by decide) ?_
  refine z_iadd B dL_law_281 ?_
  refine z_seti (y := 5) (by decide) ?_
  refine z_sld (j := 5) (x := x5) B hX hbl hbA (by decide) (show ¬ ((5 : Int32) < 0 ∨ 6 ≤ (5 : Int32).toNatClampNeg) by decide) h_x5 dL_law_282 ?_
  refine z_aload_n B dL_law_283 rfl 1 rfl ?_
  refine z_cSWi (As := [.ref (b + 0), .int 1, .int x2, .int x3, .int x4, .int x5, .ref (b + 431)]) (rest := []) B cw_L_84 dL_law_284 (ci_L_check_464 l hlt (σ := (ap b σ [] [] [])) (b := b) (lyA hK) x2 x3 x4 x5 q1_x2 q2_x2 (rR_at 0 0 (fz_R hF 0 0 rfl rfl)) (rR_at 1 1 (fz_R hF 1 1 rfl rfl))) rfl (by decide) rfl (Nat.le_of_ble_eq_true rfl) (by decide) (fun r u hu => ?_)
  obtain ⟨hu1, z, hu⟩ := hu
  refine z_eqs (σ' := (ap b (wx_Z σ z) [] [] [])) (hu.trans az_ap) ?_
  show zx p l e _ s m _ below meth c g 8 _ _ _ _ 287 [(4, .int 0), (3, .ref (b + 431)), (2, .ref (b + 405)), (1, .ref (b + 0)), (0, .ref bS)] _
  refine z_seti (y := 1) hu1 ?_
  refine z_istore (lv' := [(5, .int 1), (4, .int 0), (3, .ref (b + 431)), (2, .ref (b + 405)), (1, .ref (b + 0)), (0, .ref bS)]) B dL_law_287 (by decide) rfl ?_
  refine z_aload_n B dL_law_289 rfl 3 rfl ?_
  refine z_aload_n B dL_law_290 rfl 5 rfl ?_
  refine z_iload B dL_law_291 1 rfl ?_
  refine z_iconst (v := 1) B dL_law_293 (by decide) ?_
  refine z_iadd B dL_law_294 ?_
  refine z_seti (y := 1) (by decide) ?_
  refine z_sld (j := 1) (x := 1) B hX hbl hbA (by decide) (show ¬ ((1 : Int32) < 0 ∨ 6 ≤ (1 : Int32).toNatClampNeg) by decide) h_x1 dL_law_295 ?_
  refine z_aload_n B dL_law_296 rfl 5 rfl ?_
  refine z_iload B dL_law_297 1 rfl ?_
  refine z_iconst (v := 2) B dL_law_299 (by decide) ?_
  refine z_iadd B dL_law_300 ?_
  refine z_seti (y := 2) (by decide) ?_
  refine z_sld (j := 2) (x := x2) B hX hbl hbA (by decide) (show ¬ ((2 : Int32) < 0 ∨ 6 ≤ (2 : Int32).toNatClampNeg) by decide) h_x2 dL_law_301 ?_
  refine z_aload_n B dL_law_302 rfl 5 rfl ?_
  refine z_iload B dL_law_303 1 rfl ?_
  refine z_iconst (v := 3) B dL_law_305 (by decide) ?_
  refine z_iadd B dL_law_306 ?_
  refine z_seti (y := 3) (by decide) ?_
  refine z_sld (j := 3) (x := x3) B hX hbl hbA (by decide) (show ¬ ((3 : Int32) < 0 ∨ 6 ≤ (3 : Int32).toNatClampNeg) by decide) h_x3 dL_law_307 ?_
  refine z_aload_n B dL_law_308 rfl 5 rfl ?_
  refine z_iload B dL_law_309 1 rfl ?_
  refine z_iconst (v := 4) B dL_law_311 (by decide) ?_
  refine z_iadd B dL_law_312 ?_
  refine z_seti (y := 4) (by decide) ?_
  refine z_sld (j := 4) (x := x4) B hX hbl hbA (by decide) (show ¬ ((4 : Int32) < 0 ∨ 6 ≤ (4 : Int32).toNatClampNeg) by decide) h_x4 dL_law_313 ?_
  refine z_aload_n B dL_law_314 rfl 5 rfl ?_
  refine z_iload B dL_law_315 1 rfl ?_
  refine z_iconst (v := 5) B dL_law_317 (by decide) ?_
  refine z_iadd B dL_law_318 ?_
  refine z_seti (y := 5) (by decide) ?_
  refine z_sld (j := 5) (x := x5) B hX hbl hbA (by decide) (show ¬ ((5 : Int32) < 0 ∨ 6 ≤ (5 : Int32).toNatClampNeg) by decide) h_x5 dL_law_319 ?_
  refine z_cVi (As := [.int 1, .int x2, .int x3, .int x4, .int x5]) (rest := []) B cw_L_86 cx_10 dL_law_320 (ci_X9_check_471 l (σ := (ap b (wx_Z σ z) [] [] [])) (b := b) (lyA (lyZ hK)) x2 x3 x4 x5 q1_x2 q2_x2 q1_x3 q2_x3) (lKA (lKZ (hk_K hK 405 rfl rfl))) rfl (by decide) rfl (Nat.le_of_ble_eq_true rfl) (by decide) (fun r u hu => ?_)
  refine z_eqs (σ' := (ap b (wx_Z σ z) [(405, 0, 1)] [] [])) (hu.2.trans ap_ap) ?_
  show zx p l e _ s m _ below meth c g 8 _ _ _ _ 323 [(5, .int 1), (4, .int 0), (3, .ref (b + 431)), (2, .ref (b + 405)), (1, .ref (b + 0)), (0, .ref bS)] _
  refine z_seti (y := 0) hu.1 ?_
  refine z_istore (lv' := [(6, .int 0), (5, .int 1), (4, .int 0), (3, .ref (b + 431)), (2, .ref (b + 405)), (1, .ref (b + 0)), (0, .ref bS)]) B dL_law_323 (by decide) rfl ?_
  refine z_aload_n B dL_law_325 rfl 4 rfl ?_
  refine z_cVi (As := []) (rest := []) B cw_L_80 cx_10 dL_law_326 (ci_X9_thrown_31 l (σ := (ap b (wx_Z σ z) [(405, 0, 1)] [] [])) (b := b) (lyA (lyZ hK)) (rI_at 405 0 rfl)) (lKA (lKZ (hk_K hK 405 rfl rfl))) rfl (by decide) rfl (Nat.le_of_ble_eq_true rfl) (by decide) (fun r u hu => ?_)
  refine z_eqs (σ' := (ap b (wx_Z σ z) [(405, 0, 1)] [] [])) hu.2 ?_
  show zx p l e _ s m _ below meth c g 8 _ _ _ _ 329 [(6, .int 0), (5, .int 1), (4, .int 0), (3, .ref (b + 431)), (2, .ref (b + 405)), (1, .ref (b + 0)), (0, .ref bS)] _
  refine z_seti (y := 1) hu.1 ?_
  refine z_iload B dL_law_329 1 rfl ?_
  refine z_icmp_eq (tgt := 336) B dL_law_331 (by decide) (fun _ => ?_) (fun h => absurd (by decide) h)
  refine z_iload B dL_law_336 1 rfl ?_
  refine z_if_ne (tgt := 353) B dL_law_338 (by decide) (fun _ => ?_) (fun h => absurd h (by decide))
  refine z_goto (tgt := 1395) B dL_law_353 (by decide) ?_
  exact z_widen (Nat.le_of_ble_eq_true rfl) (Nat.le_of_ble_eq_true rfl) (z_sub _ [2, 6] rfl (kk _))
set_option maxRecDepth 100000 in
set_option maxHeartbeats 4000000 in
theorem lf_1_189 {p : Program} {l : Launch} {e : Env} {s : State} {m : MethodId} {args : Array Value} {below : List Frame} {meth : Method} {c : Code} {g : gx_T} {Q : State → Prop} {σ : sx_T} {b t bS : Nat} {xs : Nat → Int32} (hlt : l.stackTraces = false) (B : zx_B p s m args meth c code RL 8 g) (hX : va_X bS 6 xs s s.heap) (hbl : bS < s.heap.size) (hbA : ¬ gx_b g ≤ bS) (hF : fz_P b t σ) (h_x1 : xs 1 = 2) {x2 : Int32} (h_x2 : xs 2 = x2) (q1_x2 : (-2147483648 : Int) ≤ x2.toInt) (q2_x2 : x2.toInt ≤ (-1 : Int)) {x3 : Int32} (h_x3 : xs 3 = x3) (q1_x3 : (-2147483648 : Int) ≤ x3.toInt) (q2_x3 : x3.toInt ≤ (-1 : Int)) {x4 : Int32} (h_x4 : xs 4 = x4) (q1_x4 : (-2147483648 : Int) ≤ x4.toInt) (q2_x4 : x4.toInt ≤ (2147483647 : Int)) {x5 : Int32} (h_x5 : xs 5 = x5) (q1_x5 : (-2147483648 : Int) ≤ x5.toInt) (q2_x5 : x5.toInt ≤ (2147483647 : Int)) (kk : ∀ σ', zx p l e room_1 s m args below meth c g 8 600002 7302232 Q σ' 1395 [(4, .int 0), (0, .ref bS)] []) : zx p l e room_1 s m args below meth c g 8 500 100000 Q σ 252 [(4, .int 0), (3, .ref (b + 431)), (2, .ref (b + 405)), (1, .ref (b + 0)), (0, .ref bS)] [] := by
  have hK := fz_lay hF
  refine z_eqs (σ' := (ap b σ [] [] [])) rfl ?_
  refine z_aload_n B dL_law_252 rfl 3 rfl ?_
  refine z_aload_n B dL_law_253 rfl 4 rfl ?_
  refine z_iload B dL_law_254 0 rfl ?_
  refine z_iconst (v := 1) B dL_law_256 (by decide) ?_
  refine z_iadd B dL_law_257 ?_
  refine z_seti (y := 1) (by decide) ?_
  refine z_sld (j := 1) (x := 2) B hX hbl hbA (by decide) (show ¬ ((1 : Int32) < 0 ∨ 6 ≤ (1 : Int32).toNatClampNeg) by decide) h_x1 dL_law_258 ?_
  refine z_aload_n B dL_law_259 rfl 4 rfl ?_
  refine z_iload B dL_law_260 0 rfl ?_
  refine z_iconst (v := 2) B dL_law_262 (by decide) ?_
  refine z_iadd B dL_law_263 ?_
  refine z_seti (y := 2) (by decide) ?_
  refine z_sld (j := 2) (x := x2) B hX hbl hbA (by decide) (show ¬ ((2 : Int32) < 0 ∨ 6 ≤ (2 : Int32).toNatClampNeg) by decide) h_x2 dL_law_264 ?_
  refine z_aload_n B dL_law_265 rfl 4 rfl ?_
  refine z_iload B dL_law_266 0 rfl ?_
  refine z_iconst (v := 3) B dL_law_268 (by decide) ?_
  refine z_iadd B dL_law_269 ?_
  refine z_seti (y := 3) (by decide) ?_
  refine z_sld (j := 3) (x := x3) B hX hbl hbA (by decide) (show ¬ ((3 : Int32) < 0 ∨ 6 ≤ (3 : Int32).toNatClampNeg) by decide) h_x3 dL_law_270 ?_
  refine z_aload_n B dL_law_271 rfl 4 rfl ?_
  refine z_iload B dL_law_272 0 rfl ?_
  refine z_iconst (v := 4) B dL_law_274 (by decide) ?_
  refine z_iadd B dL_law_275 ?_
  refine z_seti (y := 4) (by decide) ?_
  refine z_sld (j := 4) (x := x4) B hX hbl hbA (by decide) (show ¬ ((4 : Int32) < 0 ∨ 6 ≤ (4 : Int32).toNatClampNeg) by decide) h_x4 dL_law_276 ?_
  refine z_aload_n B dL_law_277 rfl 4 rfl ?_
  refine z_iload B dL_law_278 0 rfl ?_
  refine z_iconst (v := 5) B dL_law_280 (by decide) ?_
  refine z_iadd B dL_law_281 ?_
  refine z_seti (y := 5) (by decide) ?_
  refine z_sld (j := 5) (x := x5) B hX hbl hbA (by decide) (show ¬ ((5 : Int32) < 0 ∨ 6 ≤ (5 : Int32).toNatClampNeg) by decide) h_x5 dL_law_282 ?_
  refine z_aload_n B dL_law_283 rfl 1 rfl ?_
  refine z_cSWi (As := [.ref (b + 0), .int 2, .int x2, .int x3, .int x4, .int x5, .ref (b + 431)]) (rest := []) B cw_L_84 dL_law_284 (ci_L_check_473 l hlt (σ := (ap b σ [] [] [])) (b := b) (lyA hK) x2 x3 x4 x5 q1_x2 q2_x2 (rR_at 0 0 (fz_R hF 0 0 rfl rfl)) (rR_at 1 2 (fz_R hF 1 2 rfl rfl))) rfl (by decide) rfl (Nat.le_of_ble_eq_true rfl) (by decide) (fun r u hu => ?_)
  obtain ⟨hu1, z, hu⟩ := hu
  refine z_eqs (σ' := (ap b (wx_Z σ z) [] [] [])) (hu.trans az_ap) ?_
  show zx p l e _ s m _ below meth c g 8 _ _ _ _ 287 [(4, .int 0), (3, .ref (b + 431)), (2, .ref (b + 405)), (1, .ref (b + 0)), (0, .ref bS)] _
  refine z_seti (y := 1) hu1 ?_
  refine z_istore (lv' := [(5, .int 1), (4, .int 0), (3, .ref (b + 431)), (2, .ref (b + 405)), (1, .ref (b + 0)), (0, .ref bS)]) B dL_law_287 (by decide) rfl ?_
  refine z_aload_n B dL_law_289 rfl 3 rfl ?_
  refine z_aload_n B dL_law_290 rfl 5 rfl ?_
  refine z_iload B dL_law_291 1 rfl ?_
  refine z_iconst (v := 1) B dL_law_293 (by decide) ?_
  refine z_iadd B dL_law_294 ?_
  refine z_seti (y := 1) (by decide) ?_
  refine z_sld (j := 1) (x := 2) B hX hbl hbA (by decide) (show ¬ ((1 : Int32) < 0 ∨ 6 ≤ (1 : Int32).toNatClampNeg) by decide) h_x1 dL_law_295 ?_
  refine z_aload_n B dL_law_296 rfl 5 rfl ?_
  refine z_iload B dL_law_297 1 rfl ?_
  refine z_iconst (v := 2) B dL_law_299 (by decide) ?_
  refine z_iadd B dL_law_300 ?_
  refine z_seti (y := 2) (by decide) ?_
  refine z_sld (j := 2) (x := x2) B hX hbl hbA (by decide) (show ¬ ((2 : Int32) < 0 ∨ 6 ≤ (2 : Int32).toNatClampNeg) by decide) h_x2 dL_law_301 ?_
  refine z_aload_n B dL_law_302 rfl 5 rfl ?_
  refine z_iload B dL_law_303 1 rfl ?_
  refine z_iconst (v := 3) B dL_law_305 (by decide) ?_
  refine z_iadd B dL_law_306 ?_
  refine z_seti (y := 3) (by decide) ?_
  refine z_sld (j := 3) (x := x3) B hX hbl hbA (by decide) (show ¬ ((3 : Int32) < 0 ∨ 6 ≤ (3 : Int32).toNatClampNeg) by decide) h_x3 dL_law_307 ?_
  refine z_aload_n B dL_law_308 rfl 5 rfl ?_
  refine z_iload B dL_law_309 1 rfl ?_
  refine z_iconst (v := 4) B dL_law_311 (by decide) ?_
  refine z_iadd B dL_law_312 ?_
  refine z_seti (y := 4) (by decide) ?_
  refine z_sld (j := 4) (x := x4) B hX hbl hbA (by decide) (show ¬ ((4 : Int32) < 0 ∨ 6 ≤ (4 : Int32).toNatClampNeg) by decide) h_x4 dL_law_313 ?_
  refine z_aload_n B dL_law_314 rfl 5 rfl ?_
  refine z_iload B dL_law_315 1 rfl ?_
  refine z_iconst (v := 5) B dL_law_317 (by decide) ?_
  refine z_iadd B dL_law_318 ?_
  refine z_seti (y := 5) (by decide) ?_
  refine z_sld (j := 5) (x := x5) B hX hbl hbA (by decide) (show ¬ ((5 : Int32) < 0 ∨ 6 ≤ (5 : Int32).toNatClampNeg) by decide) h_x5 dL_law_319 ?_
  refine z_cVi (As := [.int 2, .int x2, .int x3, .int x4, .int x5]) (rest := []) B cw_L_86 cx_10 dL_law_320 (ci_X9_check_474 l (σ := (ap b (wx_Z σ z) [] [] [])) (b := b) (lyA (lyZ hK)) x2 x3 x4 x5 q1_x2 q2_x2 q1_x3 q2_x3) (lKA (lKZ (hk_K hK 405 rfl rfl))) rfl (by decide) rfl (Nat.le_of_ble_eq_true rfl) (by decide) (fun r u hu => ?_)
  refine z_eqs (σ' := (ap b (wx_Z σ z) [(405, 0, 1)] [] [])) (hu.2.trans ap_ap) ?_
  show zx p l e _ s m _ below meth c g 8 _ _ _ _ 323 [(5, .int 1), (4, .int 0), (3, .ref (b + 431)), (2, .ref (b + 405)), (1, .ref (b + 0)), (0, .ref bS)] _
  refine z_seti (y := 0) hu.1 ?_
  refine z_istore (lv' := [(6, .int 0), (5, .int 1), (4, .int 0), (3, .ref (b + 431)), (2, .ref (b + 405)), (1, .ref (b + 0)), (0, .ref bS)]) B dL_law_323 (by decide) rfl ?_
  refine z_aload_n B dL_law_325 rfl 4 rfl ?_
  refine z_cVi (As := []) (rest := []) B cw_L_80 cx_10 dL_law_326 (ci_X9_thrown_31 l (σ := (ap b (wx_Z σ z) [(405, 0, 1)] [] [])) (b := b) (lyA (lyZ hK)) (rI_at 405 0 rfl)) (lKA (lKZ (hk_K hK 405 rfl rfl))) rfl (by decide) rfl (Nat.le_of_ble_eq_true rfl) (by decide) (fun r u hu => ?_)
  refine z_eqs (σ' := (ap b (wx_Z σ z) [(405, 0, 1)] [] [])) hu.2 ?_
  show zx p l e _ s m _ below meth c g 8 _ _ _ _ 329 [(6, .int 0), (5, .int 1), (4, .int 0), (3, .ref (b + 431)), (2, .ref (b + 405)), (1, .ref (b + 0)), (0, .ref bS)] _
  refine z_seti (y := 1) hu.1 ?_
  refine z_iload B dL_law_329 1 rfl ?_
  refine z_icmp_eq (tgt := 336) B dL_law_331 (by decide) (fun _ => ?_) (fun h => absurd (by decide) h)
  refine z_iload B dL_law_336 1 rfl ?_
  refine z_if_ne (tgt := 353) B dL_law_338 (by decide) (fun _ => ?_) (fun h => absurd h (by decide))
  refine z_goto (tgt := 1395) B dL_law_353 (by decide) ?_
  exact z_widen (Nat.le_of_ble_eq_true rfl) (Nat.le_of_ble_eq_true rfl) (z_sub _ [2, 6] rfl (kk _))
set_option maxRecDepth 100000 in
set_option maxHeartbeats 4000000 in
theorem lf_1_190 {p : Program} {l : Launch} {e : Env} {s : State} {m : MethodId} {args : Array Value} {below : List Frame} {meth : Method} {c : Code} {g : gx_T} {Q : State → Prop} {σ : sx_T} {b t bS : Nat} {xs : Nat → Int32} (hlt : l.stackTraces = false) (B : zx_B p s m args meth c code RL 8 g) (hX : va_X bS 6 xs s s.heap) (hbl : bS < s.heap.size) (hbA : ¬ gx_b g ≤ bS) (hF : fz_P b t σ) (h_x1 : xs 1 = 2) {x2 : Int32} (h_x2 : xs 2 = x2) (q1_x2 : (-2147483648 : Int) ≤ x2.toInt) (q2_x2 : x2.toInt ≤ (-1 : Int)) {x3 : Int32} (h_x3 : xs 3 = x3) (q1_x3 : (0 : Int) ≤ x3.toInt) (q2_x3 : x3.toInt ≤ (17 : Int)) {x4 : Int32} (h_x4 : xs 4 = x4) (q1_x4 : (-2147483648 : Int) ≤ x4.toInt) (q2_x4 : x4.toInt ≤ (-1 : Int)) {x5 : Int32} (h_x5 : xs 5 = x5) (q1_x5 : (-2147483648 : Int) ≤ x5.toInt) (q2_x5 : x5.toInt ≤ (2147483647 : Int)) (kk : ∀ σ', zx p l e room_1 s m args below meth c g 8 600002 7302232 Q σ' 1395 [(4, .int 0), (0, .ref bS)] []) : zx p l e room_1 s m args below meth c g 8 500 100000 Q σ 252 [(4, .int 0), (3, .ref (b + 431)), (2, .ref (b + 405)), (1, .ref (b + 0)), (0, .ref bS)] [] := by
  have hK := fz_lay hF
  refine z_eqs (σ' := (ap b σ [] [] [])) rfl ?_
  refine z_aload_n B dL_law_252 rfl 3 rfl ?_
  refine z_aload_n B dL_law_253 rfl 4 rfl ?_
  refine z_iload B dL_law_254 0 rfl ?_
  refine z_iconst (v := 1) B dL_law_256 (by decide) ?_
  refine z_iadd B dL_law_257 ?_
  refine z_seti (y := 1) (by decide) ?_
  refine z_sld (j := 1) (x := 2) B hX hbl hbA (by decide) (show ¬ ((1 : Int32) < 0 ∨ 6 ≤ (1 : Int32).toNatClampNeg) by decide) h_x1 dL_law_258 ?_
  refine z_aload_n B dL_law_259 rfl 4 rfl ?_
  refine z_iload B dL_law_260 0 rfl ?_
  refine z_iconst (v := 2) B dL_law_262 (by decide) ?_
  refine z_iadd B dL_law_263 ?_
  refine z_seti (y := 2) (by decide) ?_
  refine z_sld (j := 2) (x := x2) B hX hbl hbA (by decide) (show ¬ ((2 : Int32) < 0 ∨ 6 ≤ (2 : Int32).toNatClampNeg) by decide) h_x2 dL_law_264 ?_
  refine z_aload_n B dL_law_265 rfl 4 rfl ?_
  refine z_iload B dL_law_266 0 rfl ?_
  refine z_iconst (v := 3) B dL_law_268 (by decide) ?_
  refine z_iadd B dL_law_269 ?_
  refine z_seti (y := 3) (by decide) ?_
  refine z_sld (j := 3) (x := x3) B hX hbl hbA (by decide) (show ¬ ((3 : Int32) < 0 ∨ 6 ≤ (3 : Int32).toNatClampNeg) by decide) h_x3 dL_law_270 ?_
  refine z_aload_n B dL_law_271 rfl 4 rfl ?_
  refine z_iload B dL_law_272 0 rfl ?_
  refine z_iconst (v := 4) B dL_law_274 (by decide) ?_
  refine z_iadd B dL_law_275 ?_
  refine z_seti (y := 4) (by decide) ?_
  refine z_sld (j := 4) (x := x4) B hX hbl hbA (by decide) (show ¬ ((4 : Int32) < 0 ∨ 6 ≤ (4 : Int32).toNatClampNeg) by decide) h_x4 dL_law_276 ?_
  refine z_aload_n B dL_law_277 rfl 4 rfl ?_
  refine z_iload B dL_law_278 0 rfl ?_
  refine z_iconst (v := 5) B dL_law_280 (by decide) ?_
  refine z_iadd B dL_law_281 ?_
  refine z_seti (y := 5) (by decide) ?_
  refine z_sld (j := 5) (x := x5) B hX hbl hbA (by decide) (show ¬ ((5 : Int32) < 0 ∨ 6 ≤ (5 : Int32).toNatClampNeg) by decide) h_x5 dL_law_282 ?_
  refine z_aload_n B dL_law_283 rfl 1 rfl ?_
  refine z_cSWi (As := [.ref (b + 0), .int 2, .int x2, .int x3, .int x4, .int x5, .ref (b + 431)]) (rest := []) B cw_L_84 dL_law_284 (ci_L_check_473 l hlt (σ := (ap b σ [] [] [])) (b := b) (lyA hK) x2 x3 x4 x5 q1_x2 q2_x2 (rR_at 0 0 (fz_R hF 0 0 rfl rfl)) (rR_at 1 2 (fz_R hF 1 2 rfl rfl))) rfl (by decide) rfl (Nat.le_of_ble_eq_true rfl) (by decide) (fun r u hu => ?_)
  obtain ⟨hu1, z, hu⟩ := hu
  refine z_eqs (σ' := (ap b (wx_Z σ z) [] [] [])) (hu.trans az_ap) ?_
  show zx p l e _ s m _ below meth c g 8 _ _ _ _ 287 [(4, .int 0), (3, .ref (b + 431)), (2, .ref (b + 405)), (1, .ref (b + 0)), (0, .ref bS)] _
  refine z_seti (y := 1) hu1 ?_
  refine z_istore (lv' := [(5, .int 1), (4, .int 0), (3, .ref (b + 431)), (2, .ref (b + 405)), (1, .ref (b + 0)), (0, .ref bS)]) B dL_law_287 (by decide) rfl ?_
  refine z_aload_n B dL_law_289 rfl 3 rfl ?_
  refine z_aload_n B dL_law_290 rfl 5 rfl ?_
  refine z_iload B dL_law_291 1 rfl ?_
  refine z_iconst (v := 1) B dL_law_293 (by decide) ?_
  refine z_iadd B dL_law_294 ?_
  refine z_seti (y := 1) (by decide) ?_
  refine z_sld (j := 1) (x := 2) B hX hbl hbA (by decide) (show ¬ ((1 : Int32) < 0 ∨ 6 ≤ (1 : Int32).toNatClampNeg) by decide) h_x1 dL_law_295 ?_
  refine z_aload_n B dL_law_296 rfl 5 rfl ?_
  refine z_iload B dL_law_297 1 rfl ?_
  refine z_iconst (v := 2) B dL_law_299 (by decide) ?_
  refine z_iadd B dL_law_300 ?_
  refine z_seti (y := 2) (by decide) ?_
  refine z_sld (j := 2) (x := x2) B hX hbl hbA (by decide) (show ¬ ((2 : Int32) < 0 ∨ 6 ≤ (2 : Int32).toNatClampNeg) by decide) h_x2 dL_law_301 ?_
  refine z_aload_n B dL_law_302 rfl 5 rfl ?_
  refine z_iload B dL_law_303 1 rfl ?_
  refine z_iconst (v := 3) B dL_law_305 (by decide) ?_
  refine z_iadd B dL_law_306 ?_
  refine z_seti (y := 3) (by decide) ?_
  refine z_sld (j := 3) (x := x3) B hX hbl hbA (by decide) (show ¬ ((3 : Int32) < 0 ∨ 6 ≤ (3 : Int32).toNatClampNeg) by decide) h_x3 dL_law_307 ?_
  refine z_aload_n B dL_law_308 rfl 5 rfl ?_
  refine z_iload B dL_law_309 1 rfl ?_
  refine z_iconst (v := 4) B dL_law_311 (by decide) ?_
  refine z_iadd B dL_law_312 ?_
  refine z_seti (y := 4) (by decide) ?_
  refine z_sld (j := 4) (x := x4) B hX hbl hbA (by decide) (show ¬ ((4 : Int32) < 0 ∨ 6 ≤ (4 : Int32).toNatClampNeg) by decide) h_x4 dL_law_313 ?_
  refine z_aload_n B dL_law_314 rfl 5 rfl ?_
  refine z_iload B dL_law_315 1 rfl ?_
  refine z_iconst (v := 5) B dL_law_317 (by decide) ?_
  refine z_iadd B dL_law_318 ?_
  refine z_seti (y := 5) (by decide) ?_
  refine z_sld (j := 5) (x := x5) B hX hbl hbA (by decide) (show ¬ ((5 : Int32) < 0 ∨ 6 ≤ (5 : Int32).toNatClampNeg) by decide) h_x5 dL_law_319 ?_
  refine z_cVi (As := [.int 2, .int x2, .int x3, .int x4, .int x5]) (rest := []) B cw_L_86 cx_10 dL_law_320 (ci_X9_check_475 l (σ := (ap b (wx_Z σ z) [] [] [])) (b := b) (lyA (lyZ hK)) x2 x3 x4 x5 q1_x2 q2_x2 q1_x3 q2_x3 q1_x4 q2_x4) (lKA (lKZ (hk_K hK 405 rfl rfl))) rfl (by decide) rfl (Nat.le_of_ble_eq_true rfl) (by decide) (fun r u hu => ?_)
  refine z_eqs (σ' := (ap b (wx_Z σ z) [(405, 0, 1)] [] [])) (hu.2.trans ap_ap) ?_
  show zx p l e _ s m _ below meth c g 8 _ _ _ _ 323 [(5, .int 1), (4, .int 0), (3, .ref (b + 431)), (2, .ref (b + 405)), (1, .ref (b + 0)), (0, .ref bS)] _
  refine z_seti (y := 0) hu.1 ?_
  refine z_istore (lv' := [(6, .int 0), (5, .int 1), (4, .int 0), (3, .ref (b + 431)), (2, .ref (b + 405)), (1, .ref (b + 0)), (0, .ref bS)]) B dL_law_323 (by decide) rfl ?_
  refine z_aload_n B dL_law_325 rfl 4 rfl ?_
  refine z_cVi (As := []) (rest := []) B cw_L_80 cx_10 dL_law_326 (ci_X9_thrown_31 l (σ := (ap b (wx_Z σ z) [(405, 0, 1)] [] [])) (b := b) (lyA (lyZ hK)) (rI_at 405 0 rfl)) (lKA (lKZ (hk_K hK 405 rfl rfl))) rfl (by decide) rfl (Nat.le_of_ble_eq_true rfl) (by decide) (fun r u hu => ?_)
  refine z_eqs (σ' := (ap b (wx_Z σ z) [(405, 0, 1)] [] [])) hu.2 ?_
  show zx p l e _ s m _ below meth c g 8 _ _ _ _ 329 [(6, .int 0), (5, .int 1), (4, .int 0), (3, .ref (b + 431)), (2, .ref (b + 405)), (1, .ref (b + 0)), (0, .ref bS)] _
  refine z_seti (y := 1) hu.1 ?_
  refine z_iload B dL_law_329 1 rfl ?_
  refine z_icmp_eq (tgt := 336) B dL_law_331 (by decide) (fun _ => ?_) (fun h => absurd (by decide) h)
  refine z_iload B dL_law_336 1 rfl ?_
  refine z_if_ne (tgt := 353) B dL_law_338 (by decide) (fun _ => ?_) (fun h => absurd h (by decide))
  refine z_goto (tgt := 1395) B dL_law_353 (by decide) ?_
  exact z_widen (Nat.le_of_ble_eq_true rfl) (Nat.le_of_ble_eq_true rfl) (z_sub _ [2, 6] rfl (kk _))
set_option maxRecDepth 100000 in
set_option maxHeartbeats 4000000 in
theorem lf_1_191 {p : Program} {l : Launch} {e : Env} {s : State} {m : MethodId} {args : Array Value} {below : List Frame} {meth : Method} {c : Code} {g : gx_T} {Q : State → Prop} {σ : sx_T} {b t bS : Nat} {xs : Nat → Int32} (hlt : l.stackTraces = false) (B : zx_B p s m args meth c code RL 8 g) (hX : va_X bS 6 xs s s.heap) (hbl : bS < s.heap.size) (hbA : ¬ gx_b g ≤ bS) (hF : fz_P b t σ) (h_x1 : xs 1 = 2) {x2 : Int32} (h_x2 : xs 2 = x2) (q1_x2 : (-2147483648 : Int) ≤ x2.toInt) (q2_x2 : x2.toInt ≤ (-1 : Int)) {x3 : Int32} (h_x3 : xs 3 = x3) (q1_x3 : (0 : Int) ≤ x3.toInt) (q2_x3 : x3.toInt ≤ (17 : Int)) {x4 : Int32} (h_x4 : xs 4 = x4) (q1_x4 : (0 : Int) ≤ x4.toInt) (q2_x4 : x4.toInt ≤ (99 : Int)) {x5 : Int32} (h_x5 : xs 5 = x5) (q1_x5 : (-2147483648 : Int) ≤ x5.toInt) (q2_x5 : x5.toInt ≤ (-1 : Int)) (kk : ∀ σ', zx p l e room_1 s m args below meth c g 8 600002 7302232 Q σ' 1395 [(4, .int 0), (0, .ref bS)] []) : zx p l e room_1 s m args below meth c g 8 500 100000 Q σ 252 [(4, .int 0), (3, .ref (b + 431)), (2, .ref (b + 405)), (1, .ref (b + 0)), (0, .ref bS)] [] := by
  have hK := fz_lay hF
  refine z_eqs (σ' := (ap b σ [] [] [])) rfl ?_
  refine z_aload_n B dL_law_252 rfl 3 rfl ?_
  refine z_aload_n B dL_law_253 rfl 4 rfl ?_
  refine z_iload B dL_law_254 0 rfl ?_
  refine z_iconst (v := 1) B dL_law_256 (by decide) ?_
  refine z_iadd B dL_law_257 ?_
  refine z_seti (y := 1) (by decide) ?_
  refine z_sld (j := 1) (x := 2) B hX hbl hbA (by decide) (show ¬ ((1 : Int32) < 0 ∨ 6 ≤ (1 : Int32).toNatClampNeg) by decide) h_x1 dL_law_258 ?_
  refine z_aload_n B dL_law_259 rfl 4 rfl ?_
  refine z_iload B dL_law_260 0 rfl ?_
  refine z_iconst (v := 2) B dL_law_262 (by decide) ?_
  refine z_iadd B dL_law_263 ?_
  refine z_seti (y := 2) (by decide) ?_
  refine z_sld (j := 2) (x := x2) B hX hbl hbA (by decide) (show ¬ ((2 : Int32) < 0 ∨ 6 ≤ (2 : Int32).toNatClampNeg) by decide) h_x2 dL_law_264 ?_
  refine z_aload_n B dL_law_265 rfl 4 rfl ?_
  refine z_iload B dL_law_266 0 rfl ?_
  refine z_iconst (v := 3) B dL_law_268 (by decide) ?_
  refine z_iadd B dL_law_269 ?_
  refine z_seti (y := 3) (by decide) ?_
  refine z_sld (j := 3) (x := x3) B hX hbl hbA (by decide) (show ¬ ((3 : Int32) < 0 ∨ 6 ≤ (3 : Int32).toNatClampNeg) by decide) h_x3 dL_law_270 ?_
  refine z_aload_n B dL_law_271 rfl 4 rfl ?_
  refine z_iload B dL_law_272 0 rfl ?_
  refine z_iconst (v := 4) B dL_law_274 (by decide) ?_
  refine z_iadd B dL_law_275 ?_
  refine z_seti (y := 4) (by decide) ?_
  refine z_sld (j := 4) (x := x4) B hX hbl hbA (by decide) (show ¬ ((4 : Int32) < 0 ∨ 6 ≤ (4 : Int32).toNatClampNeg) by decide) h_x4 dL_law_276 ?_
  refine z_aload_n B dL_law_277 rfl 4 rfl ?_
  refine z_iload B dL_law_278 0 rfl ?_
  refine z_iconst (v := 5) B dL_law_280 (by decide) ?_
  refine z_iadd B dL_law_281 ?_
  refine z_seti (y := 5) (by decide) ?_
  refine z_sld (j := 5) (x := x5) B hX hbl hbA (by decide) (show ¬ ((5 : Int32) < 0 ∨ 6 ≤ (5 : Int32).toNatClampNeg) by decide) h_x5 dL_law_282 ?_
  refine z_aload_n B dL_law_283 rfl 1 rfl ?_
  refine z_cSWi (As := [.ref (b + 0), .int 2, .int x2, .int x3, .int x4, .int x5, .ref (b + 431)]) (rest := []) B cw_L_84 dL_law_284 (ci_L_check_473 l hlt (σ := (ap b σ [] [] [])) (b := b) (lyA hK) x2 x3 x4 x5 q1_x2 q2_x2 (rR_at 0 0 (fz_R hF 0 0 rfl rfl)) (rR_at 1 2 (fz_R hF 1 2 rfl rfl))) rfl (by decide) rfl (Nat.le_of_ble_eq_true rfl) (by decide) (fun r u hu => ?_)
  obtain ⟨hu1, z, hu⟩ := hu
  refine z_eqs (σ' := (ap b (wx_Z σ z) [] [] [])) (hu.trans az_ap) ?_
  show zx p l e _ s m _ below meth c g 8 _ _ _ _ 287 [(4, .int 0), (3, .ref (b + 431)), (2, .ref (b + 405)), (1, .ref (b + 0)), (0, .ref bS)] _
  refine z_seti (y := 1) hu1 ?_
  refine z_istore (lv' := [(5, .int 1), (4, .int 0), (3, .ref (b + 431)), (2, .ref (b + 405)), (1, .ref (b + 0)), (0, .ref bS)]) B dL_law_287 (by decide) rfl ?_
  refine z_aload_n B dL_law_289 rfl 3 rfl ?_
  refine z_aload_n B dL_law_290 rfl 5 rfl ?_
  refine z_iload B dL_law_291 1 rfl ?_
  refine z_iconst (v := 1) B dL_law_293 (by decide) ?_
  refine z_iadd B dL_law_294 ?_
  refine z_seti (y := 1) (by decide) ?_
  refine z_sld (j := 1) (x := 2) B hX hbl hbA (by decide) (show ¬ ((1 : Int32) < 0 ∨ 6 ≤ (1 : Int32).toNatClampNeg) by decide) h_x1 dL_law_295 ?_
  refine z_aload_n B dL_law_296 rfl 5 rfl ?_
  refine z_iload B dL_law_297 1 rfl ?_
  refine z_iconst (v := 2) B dL_law_299 (by decide) ?_
  refine z_iadd B dL_law_300 ?_
  refine z_seti (y := 2) (by decide) ?_
  refine z_sld (j := 2) (x := x2) B hX hbl hbA (by decide) (show ¬ ((2 : Int32) < 0 ∨ 6 ≤ (2 : Int32).toNatClampNeg) by decide) h_x2 dL_law_301 ?_
  refine z_aload_n B dL_law_302 rfl 5 rfl ?_
  refine z_iload B dL_law_303 1 rfl ?_
  refine z_iconst (v := 3) B dL_law_305 (by decide) ?_
  refine z_iadd B dL_law_306 ?_
  refine z_seti (y := 3) (by decide) ?_
  refine z_sld (j := 3) (x := x3) B hX hbl hbA (by decide) (show ¬ ((3 : Int32) < 0 ∨ 6 ≤ (3 : Int32).toNatClampNeg) by decide) h_x3 dL_law_307 ?_
  refine z_aload_n B dL_law_308 rfl 5 rfl ?_
  refine z_iload B dL_law_309 1 rfl ?_
  refine z_iconst (v := 4) B dL_law_311 (by decide) ?_
  refine z_iadd B dL_law_312 ?_
  refine z_seti (y := 4) (by decide) ?_
  refine z_sld (j := 4) (x := x4) B hX hbl hbA (by decide) (show ¬ ((4 : Int32) < 0 ∨ 6 ≤ (4 : Int32).toNatClampNeg) by decide) h_x4 dL_law_313 ?_
  refine z_aload_n B dL_law_314 rfl 5 rfl ?_
  refine z_iload B dL_law_315 1 rfl ?_
  refine z_iconst (v := 5) B dL_law_317 (by decide) ?_
  refine z_iadd B dL_law_318 ?_
  refine z_seti (y := 5) (by decide) ?_
  refine z_sld (j := 5) (x := x5) B hX hbl hbA (by decide) (show ¬ ((5 : Int32) < 0 ∨ 6 ≤ (5 : Int32).toNatClampNeg) by decide) h_x5 dL_law_319 ?_
  refine z_cVi (As := [.int 2, .int x2, .int x3, .int x4, .int x5]) (rest := []) B cw_L_86 cx_10 dL_law_320 (ci_X9_check_476 l (σ := (ap b (wx_Z σ z) [] [] [])) (b := b) (lyA (lyZ hK)) x2 x3 x4 x5 q1_x2 q2_x2 q1_x3 q2_x3 q1_x4 q2_x4 q1_x5 q2_x5) (lKA (lKZ (hk_K hK 405 rfl rfl))) rfl (by decide) rfl (Nat.le_of_ble_eq_true rfl) (by decide) (fun r u hu => ?_)
  refine z_eqs (σ' := (ap b (wx_Z σ z) [(405, 0, 1)] [] [])) (hu.2.trans ap_ap) ?_
  show zx p l e _ s m _ below meth c g 8 _ _ _ _ 323 [(5, .int 1), (4, .int 0), (3, .ref (b + 431)), (2, .ref (b + 405)), (1, .ref (b + 0)), (0, .ref bS)] _
  refine z_seti (y := 0) hu.1 ?_
  refine z_istore (lv' := [(6, .int 0), (5, .int 1), (4, .int 0), (3, .ref (b + 431)), (2, .ref (b + 405)), (1, .ref (b + 0)), (0, .ref bS)]) B dL_law_323 (by decide) rfl ?_
  refine z_aload_n B dL_law_325 rfl 4 rfl ?_
  refine z_cVi (As := []) (rest := []) B cw_L_80 cx_10 dL_law_326 (ci_X9_thrown_31 l (σ := (ap b (wx_Z σ z) [(405, 0, 1)] [] [])) (b := b) (lyA (lyZ hK)) (rI_at 405 0 rfl)) (lKA (lKZ (hk_K hK 405 rfl rfl))) rfl (by decide) rfl (Nat.le_of_ble_eq_true rfl) (by decide) (fun r u hu => ?_)
  refine z_eqs (σ' := (ap b (wx_Z σ z) [(405, 0, 1)] [] [])) hu.2 ?_
  show zx p l e _ s m _ below meth c g 8 _ _ _ _ 329 [(6, .int 0), (5, .int 1), (4, .int 0), (3, .ref (b + 431)), (2, .ref (b + 405)), (1, .ref (b + 0)), (0, .ref bS)] _
  refine z_seti (y := 1) hu.1 ?_
  refine z_iload B dL_law_329 1 rfl ?_
  refine z_icmp_eq (tgt := 336) B dL_law_331 (by decide) (fun _ => ?_) (fun h => absurd (by decide) h)
  refine z_iload B dL_law_336 1 rfl ?_
  refine z_if_ne (tgt := 353) B dL_law_338 (by decide) (fun _ => ?_) (fun h => absurd h (by decide))
  refine z_goto (tgt := 1395) B dL_law_353 (by decide) ?_
  exact z_widen (Nat.le_of_ble_eq_true rfl) (Nat.le_of_ble_eq_true rfl) (z_sub _ [2, 6] rfl (kk _))
set_option maxRecDepth 100000 in
set_option maxHeartbeats 4000000 in
theorem lf_1_192 {p : Program} {l : Launch} {e : Env} {s : State} {m : MethodId} {args : Array Value} {below : List Frame} {meth : Method} {c : Code} {g : gx_T} {Q : State → Prop} {σ : sx_T} {b t bS : Nat} {xs : Nat → Int32} (hlt : l.stackTraces = false) (B : zx_B p s m args meth c code RL 8 g) (hX : va_X bS 6 xs s s.heap) (hbl : bS < s.heap.size) (hbA : ¬ gx_b g ≤ bS) (hF : fz_P b t σ) (h_x1 : xs 1 = 2) {x2 : Int32} (h_x2 : xs 2 = x2) (q1_x2 : (-2147483648 : Int) ≤ x2.toInt) (q2_x2 : x2.toInt ≤ (-1 : Int)) {x3 : Int32} (h_x3 : xs 3 = x3) (q1_x3 : (0 : Int) ≤ x3.toInt) (q2_x3 : x3.toInt ≤ (17 : Int)) {x4 : Int32} (h_x4 : xs 4 = x4) (q1_x4 : (0 : Int) ≤ x4.toInt) (q2_x4 : x4.toInt ≤ (99 : Int)) {x5 : Int32} (h_x5 : xs 5 = x5) (q1_x5 : (0 : Int) ≤ x5.toInt) (q2_x5 : x5.toInt ≤ (99 : Int)) (kk : ∀ σ', zx p l e room_1 s m args below meth c g 8 600002 7302232 Q σ' 1395 [(4, .int 0), (0, .ref bS)] []) : zx p l e room_1 s m args below meth c g 8 500 100000 Q σ 252 [(4, .int 0), (3, .ref (b + 431)), (2, .ref (b + 405)), (1, .ref (b + 0)), (0, .ref bS)] [] := by
  have hK := fz_lay hF
  refine z_eqs (σ' := (ap b σ [] [] [])) rfl ?_
  refine z_aload_n B dL_law_252 rfl 3 rfl ?_
  refine z_aload_n B dL_law_253 rfl 4 rfl ?_
  refine z_iload B dL_law_254 0 rfl ?_
  refine z_iconst (v := 1) B dL_law_256 (by decide) ?_
  refine z_iadd B dL_law_257 ?_
  refine z_seti (y := 1) (by decide) ?_
  refine z_sld (j := 1) (x := 2) B hX hbl hbA (by decide) (show ¬ ((1 : Int32) < 0 ∨ 6 ≤ (1 : Int32).toNatClampNeg) by decide) h_x1 dL_law_258 ?_
  refine z_aload_n B dL_law_259 rfl 4 rfl ?_
  refine z_iload B dL_law_260 0 rfl ?_
  refine z_iconst (v := 2) B dL_law_262 (by decide) ?_
  refine z_iadd B dL_law_263 ?_
  refine z_seti (y := 2) (by decide) ?_
  refine z_sld (j := 2) (x := x2) B hX hbl hbA (by decide) (show ¬ ((2 : Int32) < 0 ∨ 6 ≤ (2 : Int32).toNatClampNeg) by decide) h_x2 dL_law_264 ?_
  refine z_aload_n B dL_law_265 rfl 4 rfl ?_
  refine z_iload B dL_law_266 0 rfl ?_
  refine z_iconst (v := 3) B dL_law_268 (by decide) ?_
  refine z_iadd B dL_law_269 ?_
  refine z_seti (y := 3) (by decide) ?_
  refine z_sld (j := 3) (x := x3) B hX hbl hbA (by decide) (show ¬ ((3 : Int32) < 0 ∨ 6 ≤ (3 : Int32).toNatClampNeg) by decide) h_x3 dL_law_270 ?_
  refine z_aload_n B dL_law_271 rfl 4 rfl ?_
  refine z_iload B dL_law_272 0 rfl ?_
  refine z_iconst (v := 4) B dL_law_274 (by decide) ?_
  refine z_iadd B dL_law_275 ?_
  refine z_seti (y := 4) (by decide) ?_
  refine z_sld (j := 4) (x := x4) B hX hbl hbA (by decide) (show ¬ ((4 : Int32) < 0 ∨ 6 ≤ (4 : Int32).toNatClampNeg) by decide) h_x4 dL_law_276 ?_
  refine z_aload_n B dL_law_277 rfl 4 rfl ?_
  refine z_iload B dL_law_278 0 rfl ?_
  refine z_iconst (v := 5) B dL_law_280 (by decide) ?_
  refine z_iadd B dL_law_281 ?_
  refine z_seti (y := 5) (by decide) ?_
  refine z_sld (j := 5) (x := x5) B hX hbl hbA (by decide) (show ¬ ((5 : Int32) < 0 ∨ 6 ≤ (5 : Int32).toNatClampNeg) by decide) h_x5 dL_law_282 ?_
  refine z_aload_n B dL_law_283 rfl 1 rfl ?_
  refine z_cSWi (As := [.ref (b + 0), .int 2, .int x2, .int x3, .int x4, .int x5, .ref (b + 431)]) (rest := []) B cw_L_84 dL_law_284 (ci_L_check_473 l hlt (σ := (ap b σ [] [] [])) (b := b) (lyA hK) x2 x3 x4 x5 q1_x2 q2_x2 (rR_at 0 0 (fz_R hF 0 0 rfl rfl)) (rR_at 1 2 (fz_R hF 1 2 rfl rfl))) rfl (by decide) rfl (Nat.le_of_ble_eq_true rfl) (by decide) (fun r u hu => ?_)
  obtain ⟨hu1, z, hu⟩ := hu
  refine z_eqs (σ' := (ap b (wx_Z σ z) [] [] [])) (hu.trans az_ap) ?_
  show zx p l e _ s m _ below meth c g 8 _ _ _ _ 287 [(4, .int 0), (3, .ref (b + 431)), (2, .ref (b + 405)), (1, .ref (b + 0)), (0, .ref bS)] _
  refine z_seti (y := 1) hu1 ?_
  refine z_istore (lv' := [(5, .int 1), (4, .int 0), (3, .ref (b + 431)), (2, .ref (b + 405)), (1, .ref (b + 0)), (0, .ref bS)]) B dL_law_287 (by decide) rfl ?_
  refine z_aload_n B dL_law_289 rfl 3 rfl ?_
  refine z_aload_n B dL_law_290 rfl 5 rfl ?_
  refine z_iload B dL_law_291 1 rfl ?_
  refine z_iconst (v := 1) B dL_law_293 (by decide) ?_
  refine z_iadd B dL_law_294 ?_
  refine z_seti (y := 1) (by decide) ?_
  refine z_sld (j := 1) (x := 2) B hX hbl hbA (by decide) (show ¬ ((1 : Int32) < 0 ∨ 6 ≤ (1 : Int32).toNatClampNeg) by decide) h_x1 dL_law_295 ?_
  refine z_aload_n B dL_law_296 rfl 5 rfl ?_
  refine z_iload B dL_law_297 1 rfl ?_
  refine z_iconst (v := 2) B dL_law_299 (by decide) ?_
  refine z_iadd B dL_law_300 ?_
  refine z_seti (y := 2) (by decide) ?_
  refine z_sld (j := 2) (x := x2) B hX hbl hbA (by decide) (show ¬ ((2 : Int32) < 0 ∨ 6 ≤ (2 : Int32).toNatClampNeg) by decide) h_x2 dL_law_301 ?_
  refine z_aload_n B dL_law_302 rfl 5 rfl ?_
  refine z_iload B dL_law_303 1 rfl ?_
  refine z_iconst (v := 3) B dL_law_305 (by decide) ?_
  refine z_iadd B dL_law_306 ?_
  refine z_seti (y := 3) (by decide) ?_
  refine z_sld (j := 3) (x := x3) B hX hbl hbA (by decide) (show ¬ ((3 : Int32) < 0 ∨ 6 ≤ (3 : Int32).toNatClampNeg) by decide) h_x3 dL_law_307 ?_
  refine z_aload_n B dL_law_308 rfl 5 rfl ?_
  refine z_iload B dL_law_309 1 rfl ?_
  refine z_iconst (v := 4) B dL_law_311 (by decide) ?_
  refine z_iadd B dL_law_312 ?_
  refine z_seti (y := 4) (by decide) ?_
  refine z_sld (j := 4) (x := x4) B hX hbl hbA (by decide) (show ¬ ((4 : Int32) < 0 ∨ 6 ≤ (4 : Int32).toNatClampNeg) by decide) h_x4 dL_law_313 ?_
  refine z_aload_n B dL_law_314 rfl 5 rfl ?_
  refine z_iload B dL_law_315 1 rfl ?_
  refine z_iconst (v := 5) B dL_law_317 (by decide) ?_
  refine z_iadd B dL_law_318 ?_
  refine z_seti (y := 5) (by decide) ?_
  refine z_sld (j := 5) (x := x5) B hX hbl hbA (by decide) (show ¬ ((5 : Int32) < 0 ∨ 6 ≤ (5 : Int32).toNatClampNeg) by decide) h_x5 dL_law_319 ?_
  refine z_cVi (As := [.int 2, .int x2, .int x3, .int x4, .int x5]) (rest := []) B cw_L_86 cx_10 dL_law_320 (ci_X9_check_477 l (σ := (ap b (wx_Z σ z) [] [] [])) (b := b) (lyA (lyZ hK)) x2 x3 x4 x5 q1_x2 q2_x2 q1_x3 q2_x3 q1_x4 q2_x4 q1_x5 q2_x5) (lKA (lKZ (hk_K hK 405 rfl rfl))) rfl (by decide) rfl (Nat.le_of_ble_eq_true rfl) (by decide) (fun r u hu => ?_)
  refine z_eqs (σ' := (ap b (wx_Z σ z) [(405, 0, 1)] [] [])) (hu.2.trans ap_ap) ?_
  show zx p l e _ s m _ below meth c g 8 _ _ _ _ 323 [(5, .int 1), (4, .int 0), (3, .ref (b + 431)), (2, .ref (b + 405)), (1, .ref (b + 0)), (0, .ref bS)] _
  refine z_seti (y := 0) hu.1 ?_
  refine z_istore (lv' := [(6, .int 0), (5, .int 1), (4, .int 0), (3, .ref (b + 431)), (2, .ref (b + 405)), (1, .ref (b + 0)), (0, .ref bS)]) B dL_law_323 (by decide) rfl ?_
  refine z_aload_n B dL_law_325 rfl 4 rfl ?_
  refine z_cVi (As := []) (rest := []) B cw_L_80 cx_10 dL_law_326 (ci_X9_thrown_31 l (σ := (ap b (wx_Z σ z) [(405, 0, 1)] [] [])) (b := b) (lyA (lyZ hK)) (rI_at 405 0 rfl)) (lKA (lKZ (hk_K hK 405 rfl rfl))) rfl (by decide) rfl (Nat.le_of_ble_eq_true rfl) (by decide) (fun r u hu => ?_)
  refine z_eqs (σ' := (ap b (wx_Z σ z) [(405, 0, 1)] [] [])) hu.2 ?_
  show zx p l e _ s m _ below meth c g 8 _ _ _ _ 329 [(6, .int 0), (5, .int 1), (4, .int 0), (3, .ref (b + 431)), (2, .ref (b + 405)), (1, .ref (b + 0)), (0, .ref bS)] _
  refine z_seti (y := 1) hu.1 ?_
  refine z_iload B dL_law_329 1 rfl ?_
  refine z_icmp_eq (tgt := 336) B dL_law_331 (by decide) (fun _ => ?_) (fun h => absurd (by decide) h)
  refine z_iload B dL_law_336 1 rfl ?_
  refine z_if_ne (tgt := 353) B dL_law_338 (by decide) (fun _ => ?_) (fun h => absurd h (by decide))
  refine z_goto (tgt := 1395) B dL_law_353 (by decide) ?_
  exact z_widen (Nat.le_of_ble_eq_true rfl) (Nat.le_of_ble_eq_true rfl) (z_sub _ [2, 6] rfl (kk _))
set_option maxRecDepth 100000 in
set_option maxHeartbeats 4000000 in
theorem lf_1_193 {p : Program} {l : Launch} {e : Env} {s : State} {m : MethodId} {args : Array Value} {below : List Frame} {meth : Method} {c : Code} {g : gx_T} {Q : State → Prop} {σ : sx_T} {b t bS : Nat} {xs : Nat → Int32} (hlt : l.stackTraces = false) (B : zx_B p s m args meth c code RL 8 g) (hX : va_X bS 6 xs s s.heap) (hbl : bS < s.heap.size) (hbA : ¬ gx_b g ≤ bS) (hF : fz_P b t σ) (h_x1 : xs 1 = 2) {x2 : Int32} (h_x2 : xs 2 = x2) (q1_x2 : (-2147483648 : Int) ≤ x2.toInt) (q2_x2 : x2.toInt ≤ (-1 : Int)) {x3 : Int32} (h_x3 : xs 3 = x3) (q1_x3 : (0 : Int) ≤ x3.toInt) (q2_x3 : x3.toInt ≤ (17 : Int)) {x4 : Int32} (h_x4 : xs 4 = x4) (q1_x4 : (0 : Int) ≤ x4.toInt) (q2_x4 : x4.toInt ≤ (99 : Int)) {x5 : Int32} (h_x5 : xs 5 = x5) (q1_x5 : (100 : Int) ≤ x5.toInt) (q2_x5 : x5.toInt ≤ (2147483647 : Int)) (kk : ∀ σ', zx p l e room_1 s m args below meth c g 8 600002 7302232 Q σ' 1395 [(4, .int 0), (0, .ref bS)] []) : zx p l e room_1 s m args below meth c g 8 500 100000 Q σ 252 [(4, .int 0), (3, .ref (b + 431)), (2, .ref (b + 405)), (1, .ref (b + 0)), (0, .ref bS)] [] := by
  have hK := fz_lay hF
  refine z_eqs (σ' := (ap b σ [] [] [])) rfl ?_
  refine z_aload_n B dL_law_252 rfl 3 rfl ?_
  refine z_aload_n B dL_law_253 rfl 4 rfl ?_
  refine z_iload B dL_law_254 0 rfl ?_
  refine z_iconst (v := 1) B dL_law_256 (by decide) ?_
  refine z_iadd B dL_law_257 ?_
  refine z_seti (y := 1) (by decide) ?_
  refine z_sld (j := 1) (x := 2) B hX hbl hbA (by decide) (show ¬ ((1 : Int32) < 0 ∨ 6 ≤ (1 : Int32).toNatClampNeg) by decide) h_x1 dL_law_258 ?_
  refine z_aload_n B dL_law_259 rfl 4 rfl ?_
  refine z_iload B dL_law_260 0 rfl ?_
  refine z_iconst (v := 2) B dL_law_262 (by decide) ?_
  refine z_iadd B dL_law_263 ?_
  refine z_seti (y := 2) (by decide) ?_
  refine z_sld (j := 2) (x := x2) B hX hbl hbA (by decide) (show ¬ ((2 : Int32) < 0 ∨ 6 ≤ (2 : Int32).toNatClampNeg) by decide) h_x2 dL_law_264 ?_
  refine z_aload_n B dL_law_265 rfl 4 rfl ?_
  refine z_iload B dL_law_266 0 rfl ?_
  refine z_iconst (v := 3) B dL_law_268 (by decide) ?_
  refine z_iadd B dL_law_269 ?_
  refine z_seti (y := 3) (by decide) ?_
  refine z_sld (j := 3) (x := x3) B hX hbl hbA (by decide) (show ¬ ((3 : Int32) < 0 ∨ 6 ≤ (3 : Int32).toNatClampNeg) by decide) h_x3 dL_law_270 ?_
  refine z_aload_n B dL_law_271 rfl 4 rfl ?_
  refine z_iload B dL_law_272 0 rfl ?_
  refine z_iconst (v := 4) B dL_law_274 (by decide) ?_
  refine z_iadd B dL_law_275 ?_
  refine z_seti (y := 4) (by decide) ?_
  refine z_sld (j := 4) (x := x4) B hX hbl hbA (by decide) (show ¬ ((4 : Int32) < 0 ∨ 6 ≤ (4 : Int32).toNatClampNeg) by decide) h_x4 dL_law_276 ?_
  refine z_aload_n B dL_law_277 rfl 4 rfl ?_
  refine z_iload B dL_law_278 0 rfl ?_
  refine z_iconst (v := 5) B dL_law_280 (by decide) ?_
  refine z_iadd B dL_law_281 ?_
  refine z_seti (y := 5) (by decide) ?_
  refine z_sld (j := 5) (x := x5) B hX hbl hbA (by decide) (show ¬ ((5 : Int32) < 0 ∨ 6 ≤ (5 : Int32).toNatClampNeg) by decide) h_x5 dL_law_282 ?_
  refine z_aload_n B dL_law_283 rfl 1 rfl ?_
  refine z_cSWi (As := [.ref (b + 0), .int 2, .int x2, .int x3, .int x4, .int x5, .ref (b + 431)]) (rest := []) B cw_L_84 dL_law_284 (ci_L_check_473 l hlt (σ := (ap b σ [] [] [])) (b := b) (lyA hK) x2 x3 x4 x5 q1_x2 q2_x2 (rR_at 0 0 (fz_R hF 0 0 rfl rfl)) (rR_at 1 2 (fz_R hF 1 2 rfl rfl))) rfl (by decide) rfl (Nat.le_of_ble_eq_true rfl) (by decide) (fun r u hu => ?_)
  obtain ⟨hu1, z, hu⟩ := hu
  refine z_eqs (σ' := (ap b (wx_Z σ z) [] [] [])) (hu.trans az_ap) ?_
  show zx p l e _ s m _ below meth c g 8 _ _ _ _ 287 [(4, .int 0), (3, .ref (b + 431)), (2, .ref (b + 405)), (1, .ref (b + 0)), (0, .ref bS)] _
  refine z_seti (y := 1) hu1 ?_
  refine z_istore (lv' := [(5, .int 1), (4, .int 0), (3, .ref (b + 431)), (2, .ref (b + 405)), (1, .ref (b + 0)), (0, .ref bS)]) B dL_law_287 (by decide) rfl ?_
  refine z_aload_n B dL_law_289 rfl 3 rfl ?_
  refine z_aload_n B dL_law_290 rfl 5 rfl ?_
  refine z_iload B dL_law_291 1 rfl ?_
  refine z_iconst (v := 1) B dL_law_293 (by decide) ?_
  refine z_iadd B dL_law_294 ?_
  refine z_seti (y := 1) (by decide) ?_
  refine z_sld (j := 1) (x := 2) B hX hbl hbA (by decide) (show ¬ ((1 : Int32) < 0 ∨ 6 ≤ (1 : Int32).toNatClampNeg) by decide) h_x1 dL_law_295 ?_
  refine z_aload_n B dL_law_296 rfl 5 rfl ?_
  refine z_iload B dL_law_297 1 rfl ?_
  refine z_iconst (v := 2) B dL_law_299 (by decide) ?_
  refine z_iadd B dL_law_300 ?_
  refine z_seti (y := 2) (by decide) ?_
  refine z_sld (j := 2) (x := x2) B hX hbl hbA (by decide) (show ¬ ((2 : Int32) < 0 ∨ 6 ≤ (2 : Int32).toNatClampNeg) by decide) h_x2 dL_law_301 ?_
  refine z_aload_n B dL_law_302 rfl 5 rfl ?_
  refine z_iload B dL_law_303 1 rfl ?_
  refine z_iconst (v := 3) B dL_law_305 (by decide) ?_
  refine z_iadd B dL_law_306 ?_
  refine z_seti (y := 3) (by decide) ?_
  refine z_sld (j := 3) (x := x3) B hX hbl hbA (by decide) (show ¬ ((3 : Int32) < 0 ∨ 6 ≤ (3 : Int32).toNatClampNeg) by decide) h_x3 dL_law_307 ?_
  refine z_aload_n B dL_law_308 rfl 5 rfl ?_
  refine z_iload B dL_law_309 1 rfl ?_
  refine z_iconst (v := 4) B dL_law_311 (by decide) ?_
  refine z_iadd B dL_law_312 ?_
  refine z_seti (y := 4) (by decide) ?_
  refine z_sld (j := 4) (x := x4) B hX hbl hbA (by decide) (show ¬ ((4 : Int32) < 0 ∨ 6 ≤ (4 : Int32).toNatClampNeg) by decide) h_x4 dL_law_313 ?_
  refine z_aload_n B dL_law_314 rfl 5 rfl ?_
  refine z_iload B dL_law_315 1 rfl ?_
  refine z_iconst (v := 5) B dL_law_317 (by decide) ?_
  refine z_iadd B dL_law_318 ?_
  refine z_seti (y := 5) (by decide) ?_
  refine z_sld (j := 5) (x := x5) B hX hbl hbA (by decide) (show ¬ ((5 : Int32) < 0 ∨ 6 ≤ (5 : Int32).toNatClampNeg) by decide) h_x5 dL_law_319 ?_
  refine z_cVi (As := [.int 2, .int x2, .int x3, .int x4, .int x5]) (rest := []) B cw_L_86 cx_10 dL_law_320 (ci_X9_check_478 l (σ := (ap b (wx_Z σ z) [] [] [])) (b := b) (lyA (lyZ hK)) x2 x3 x4 x5 q1_x2 q2_x2 q1_x3 q2_x3 q1_x4 q2_x4 q1_x5 q2_x5) (lKA (lKZ (hk_K hK 405 rfl rfl))) rfl (by decide) rfl (Nat.le_of_ble_eq_true rfl) (by decide) (fun r u hu => ?_)
  refine z_eqs (σ' := (ap b (wx_Z σ z) [(405, 0, 1)] [] [])) (hu.2.trans ap_ap) ?_
  show zx p l e _ s m _ below meth c g 8 _ _ _ _ 323 [(5, .int 1), (4, .int 0), (3, .ref (b + 431)), (2, .ref (b + 405)), (1, .ref (b + 0)), (0, .ref bS)] _
  refine z_seti (y := 0) hu.1 ?_
  refine z_istore (lv' := [(6, .int 0), (5, .int 1), (4, .int 0), (3, .ref (b + 431)), (2, .ref (b + 405)), (1, .ref (b + 0)), (0, .ref bS)]) B dL_law_323 (by decide) rfl ?_
  refine z_aload_n B dL_law_325 rfl 4 rfl ?_
  refine z_cVi (As := []) (rest := []) B cw_L_80 cx_10 dL_law_326 (ci_X9_thrown_31 l (σ := (ap b (wx_Z σ z) [(405, 0, 1)] [] [])) (b := b) (lyA (lyZ hK)) (rI_at 405 0 rfl)) (lKA (lKZ (hk_K hK 405 rfl rfl))) rfl (by decide) rfl (Nat.le_of_ble_eq_true rfl) (by decide) (fun r u hu => ?_)
  refine z_eqs (σ' := (ap b (wx_Z σ z) [(405, 0, 1)] [] [])) hu.2 ?_
  show zx p l e _ s m _ below meth c g 8 _ _ _ _ 329 [(6, .int 0), (5, .int 1), (4, .int 0), (3, .ref (b + 431)), (2, .ref (b + 405)), (1, .ref (b + 0)), (0, .ref bS)] _
  refine z_seti (y := 1) hu.1 ?_
  refine z_iload B dL_law_329 1 rfl ?_
  refine z_icmp_eq (tgt := 336) B dL_law_331 (by decide) (fun _ => ?_) (fun h => absurd (by decide) h)
  refine z_iload B dL_law_336 1 rfl ?_
  refine z_if_ne (tgt := 353) B dL_law_338 (by decide) (fun _ => ?_) (fun h => absurd h (by decide))
  refine z_goto (tgt := 1395) B dL_law_353 (by decide) ?_
  exact z_widen (Nat.le_of_ble_eq_true rfl) (Nat.le_of_ble_eq_true rfl) (z_sub _ [2, 6] rfl (kk _))
set_option maxRecDepth 100000 in
set_option maxHeartbeats 4000000 in
theorem lf_1_194 {p : Program} {l : Launch} {e : Env} {s : State} {m : MethodId} {args : Array Value} {below : List Frame} {meth : Method} {c : Code} {g : gx_T} {Q : State → Prop} {σ : sx_T} {b t bS : Nat} {xs : Nat → Int32} (hlt : l.stackTraces = false) (B : zx_B p s m args meth c code RL 8 g) (hX : va_X bS 6 xs s s.heap) (hbl : bS < s.heap.size) (hbA : ¬ gx_b g ≤ bS) (hF : fz_P b t σ) (h_x1 : xs 1 = 2) {x2 : Int32} (h_x2 : xs 2 = x2) (q1_x2 : (-2147483648 : Int) ≤ x2.toInt) (q2_x2 : x2.toInt ≤ (-1 : Int)) {x3 : Int32} (h_x3 : xs 3 = x3) (q1_x3 : (0 : Int) ≤ x3.toInt) (q2_x3 : x3.toInt ≤ (17 : Int)) {x4 : Int32} (h_x4 : xs 4 = x4) (q1_x4 : (100 : Int) ≤ x4.toInt) (q2_x4 : x4.toInt ≤ (2147483647 : Int)) {x5 : Int32} (h_x5 : xs 5 = x5) (q1_x5 : (-2147483648 : Int) ≤ x5.toInt) (q2_x5 : x5.toInt ≤ (2147483647 : Int)) (kk : ∀ σ', zx p l e room_1 s m args below meth c g 8 600002 7302232 Q σ' 1395 [(4, .int 0), (0, .ref bS)] []) : zx p l e room_1 s m args below meth c g 8 500 100000 Q σ 252 [(4, .int 0), (3, .ref (b + 431)), (2, .ref (b + 405)), (1, .ref (b + 0)), (0, .ref bS)] [] := by
  have hK := fz_lay hF
  refine z_eqs (σ' := (ap b σ [] [] [])) rfl ?_
  refine z_aload_n B dL_law_252 rfl 3 rfl ?_
  refine z_aload_n B dL_law_253 rfl 4 rfl ?_
  refine z_iload B dL_law_254 0 rfl ?_
  refine z_iconst (v := 1) B dL_law_256 (by decide) ?_
  refine z_iadd B dL_law_257 ?_
  refine z_seti (y := 1) (by decide) ?_
  refine z_sld (j := 1) (x := 2) B hX hbl hbA (by decide) (show ¬ ((1 : Int32) < 0 ∨ 6 ≤ (1 : Int32).toNatClampNeg) by decide) h_x1 dL_law_258 ?_
  refine z_aload_n B dL_law_259 rfl 4 rfl ?_
  refine z_iload B dL_law_260 0 rfl ?_
  refine z_iconst (v := 2) B dL_law_262 (by decide) ?_
  refine z_iadd B dL_law_263 ?_
  refine z_seti (y := 2) (by decide) ?_
  refine z_sld (j := 2) (x := x2) B hX hbl hbA (by decide) (show ¬ ((2 : Int32) < 0 ∨ 6 ≤ (2 : Int32).toNatClampNeg) by decide) h_x2 dL_law_264 ?_
  refine z_aload_n B dL_law_265 rfl 4 rfl ?_
  refine z_iload B dL_law_266 0 rfl ?_
  refine z_iconst (v := 3) B dL_law_268 (by decide) ?_
  refine z_iadd B dL_law_269 ?_
  refine z_seti (y := 3) (by decide) ?_
  refine z_sld (j := 3) (x := x3) B hX hbl hbA (by decide) (show ¬ ((3 : Int32) < 0 ∨ 6 ≤ (3 : Int32).toNatClampNeg) by decide) h_x3 dL_law_270 ?_
  refine z_aload_n B dL_law_271 rfl 4 rfl ?_
  refine z_iload B dL_law_272 0 rfl ?_
  refine z_iconst (v := 4) B dL_law_274 (by decide) ?_
  refine z_iadd B dL_law_275 ?_
  refine z_seti (y := 4) (by decide) ?_
  refine z_sld (j := 4) (x := x4) B hX hbl hbA (by decide) (show ¬ ((4 : Int32) < 0 ∨ 6 ≤ (4 : Int32).toNatClampNeg) by decide) h_x4 dL_law_276 ?_
  refine z_aload_n B dL_law_277 rfl 4 rfl ?_
  refine z_iload B dL_law_278 0 rfl ?_
  refine z_iconst (v := 5) B dL_law_280 (by decide) ?_
  refine z_iadd B dL_law_281 ?_
  refine z_seti (y := 5) (by decide) ?_
  refine z_sld (j := 5) (x := x5) B hX hbl hbA (by decide) (show ¬ ((5 : Int32) < 0 ∨ 6 ≤ (5 : Int32).toNatClampNeg) by decide) h_x5 dL_law_282 ?_
  refine z_aload_n B dL_law_283 rfl 1 rfl ?_
  refine z_cSWi (As := [.ref (b + 0), .int 2, .int x2, .int x3, .int x4, .int x5, .ref (b + 431)]) (rest := []) B cw_L_84 dL_law_284 (ci_L_check_473 l hlt (σ := (ap b σ [] [] [])) (b := b) (lyA hK) x2 x3 x4 x5 q1_x2 q2_x2 (rR_at 0 0 (fz_R hF 0 0 rfl rfl)) (rR_at 1 2 (fz_R hF 1 2 rfl rfl))) rfl (by decide) rfl (Nat.le_of_ble_eq_true rfl) (by decide) (fun r u hu => ?_)
  obtain ⟨hu1, z, hu⟩ := hu
  refine z_eqs (σ' := (ap b (wx_Z σ z) [] [] [])) (hu.trans az_ap) ?_
  show zx p l e _ s m _ below meth c g 8 _ _ _ _ 287 [(4, .int 0), (3, .ref (b + 431)), (2, .ref (b + 405)), (1, .ref (b + 0)), (0, .ref bS)] _
  refine z_seti (y := 1) hu1 ?_
  refine z_istore (lv' := [(5, .int 1), (4, .int 0), (3, .ref (b + 431)), (2, .ref (b + 405)), (1, .ref (b + 0)), (0, .ref bS)]) B dL_law_287 (by decide) rfl ?_
  refine z_aload_n B dL_law_289 rfl 3 rfl ?_
  refine z_aload_n B dL_law_290 rfl 5 rfl ?_
  refine z_iload B dL_law_291 1 rfl ?_
  refine z_iconst (v := 1) B dL_law_293 (by decide) ?_
  refine z_iadd B dL_law_294 ?_
  refine z_seti (y := 1) (by decide) ?_
  refine z_sld (j := 1) (x := 2) B hX hbl hbA (by decide) (show ¬ ((1 : Int32) < 0 ∨ 6 ≤ (1 : Int32).toNatClampNeg) by decide) h_x1 dL_law_295 ?_
  refine z_aload_n B dL_law_296 rfl 5 rfl ?_
  refine z_iload B dL_law_297 1 rfl ?_
  refine z_iconst (v := 2) B dL_law_299 (by decide) ?_
  refine z_iadd B dL_law_300 ?_
  refine z_seti (y := 2) (by decide) ?_
  refine z_sld (j := 2) (x := x2) B hX hbl hbA (by decide) (show ¬ ((2 : Int32) < 0 ∨ 6 ≤ (2 : Int32).toNatClampNeg) by decide) h_x2 dL_law_301 ?_
  refine z_aload_n B dL_law_302 rfl 5 rfl ?_
  refine z_iload B dL_law_303 1 rfl ?_
  refine z_iconst (v := 3) B dL_law_305 (by decide) ?_
  refine z_iadd B dL_law_306 ?_
  refine z_seti (y := 3) (by decide) ?_
  refine z_sld (j := 3) (x := x3) B hX hbl hbA (by decide) (show ¬ ((3 : Int32) < 0 ∨ 6 ≤ (3 : Int32).toNatClampNeg) by decide) h_x3 dL_law_307 ?_
  refine z_aload_n B dL_law_308 rfl 5 rfl ?_
  refine z_iload B dL_law_309 1 rfl ?_
  refine z_iconst (v := 4) B dL_law_311 (by decide) ?_
  refine z_iadd B dL_law_312 ?_
  refine z_seti (y := 4) (by decide) ?_
  refine z_sld (j := 4) (x := x4) B hX hbl hbA (by decide) (show ¬ ((4 : Int32) < 0 ∨ 6 ≤ (4 : Int32).toNatClampNeg) by decide) h_x4 dL_law_313 ?_
  refine z_aload_n B dL_law_314 rfl 5 rfl ?_
  refine z_iload B dL_law_315 1 rfl ?_
  refine z_iconst (v := 5) B dL_law_317 (by decide) ?_
  refine z_iadd B dL_law_318 ?_
  refine z_seti (y := 5) (by decide) ?_
  refine z_sld (j := 5) (x := x5) B hX hbl hbA (by decide) (show ¬ ((5 : Int32) < 0 ∨ 6 ≤ (5 : Int32).toNatClampNeg) by decide) h_x5 dL_law_319 ?_
  refine z_cVi (As := [.int 2, .int x2, .int x3, .int x4, .int x5]) (rest := []) B cw_L_86 cx_10 dL_law_320 (ci_X9_check_479 l (σ := (ap b (wx_Z σ z) [] [] [])) (b := b) (lyA (lyZ hK)) x2 x3 x4 x5 q1_x2 q2_x2 q1_x3 q2_x3 q1_x4 q2_x4) (lKA (lKZ (hk_K hK 405 rfl rfl))) rfl (by decide) rfl (Nat.le_of_ble_eq_true rfl) (by decide) (fun r u hu => ?_)
  refine z_eqs (σ' := (ap b (wx_Z σ z) [(405, 0, 1)] [] [])) (hu.2.trans ap_ap) ?_
  show zx p l e _ s m _ below meth c g 8 _ _ _ _ 323 [(5, .int 1), (4, .int 0), (3, .ref (b + 431)), (2, .ref (b + 405)), (1, .ref (b + 0)), (0, .ref bS)] _
  refine z_seti (y := 0) hu.1 ?_
  refine z_istore (lv' := [(6, .int 0), (5, .int 1), (4, .int 0), (3, .ref (b + 431)), (2, .ref (b + 405)), (1, .ref (b + 0)), (0, .ref bS)]) B dL_law_323 (by decide) rfl ?_
  refine z_aload_n B dL_law_325 rfl 4 rfl ?_
  refine z_cVi (As := []) (rest := []) B cw_L_80 cx_10 dL_law_326 (ci_X9_thrown_31 l (σ := (ap b (wx_Z σ z) [(405, 0, 1)] [] [])) (b := b) (lyA (lyZ hK)) (rI_at 405 0 rfl)) (lKA (lKZ (hk_K hK 405 rfl rfl))) rfl (by decide) rfl (Nat.le_of_ble_eq_true rfl) (by decide) (fun r u hu => ?_)
  refine z_eqs (σ' := (ap b (wx_Z σ z) [(405, 0, 1)] [] [])) hu.2 ?_
  show zx p l e _ s m _ below meth c g 8 _ _ _ _ 329 [(6, .int 0), (5, .int 1), (4, .int 0), (3, .ref (b + 431)), (2, .ref (b + 405)), (1, .ref (b + 0)), (0, .ref bS)] _
  refine z_seti (y := 1) hu.1 ?_
  refine z_iload B dL_law_329 1 rfl ?_
  refine z_icmp_eq (tgt := 336) B dL_law_331 (by decide) (fun _ => ?_) (fun h => absurd (by decide) h)
  refine z_iload B dL_law_336 1 rfl ?_
  refine z_if_ne (tgt := 353) B dL_law_338 (by decide) (fun _ => ?_) (fun h => absurd h (by decide))
  refine z_goto (tgt := 1395) B dL_law_353 (by decide) ?_
  exact z_widen (Nat.le_of_ble_eq_true rfl) (Nat.le_of_ble_eq_true rfl) (z_sub _ [2, 6] rfl (kk _))
set_option maxRecDepth 100000 in
set_option maxHeartbeats 4000000 in
theorem lf_1_195 {p : Program} {l : Launch} {e : Env} {s : State} {m : MethodId} {args : Array Value} {below : List Frame} {meth : Method} {c : Code} {g : gx_T} {Q : State → Prop} {σ : sx_T} {b t bS : Nat} {xs : Nat → Int32} (hlt : l.stackTraces = false) (B : zx_B p s m args meth c code RL 8 g) (hX : va_X bS 6 xs s s.heap) (hbl : bS < s.heap.size) (hbA : ¬ gx_b g ≤ bS) (hF : fz_P b t σ) (h_x1 : xs 1 = 2) {x2 : Int32} (h_x2 : xs 2 = x2) (q1_x2 : (-2147483648 : Int) ≤ x2.toInt) (q2_x2 : x2.toInt ≤ (-1 : Int)) {x3 : Int32} (h_x3 : xs 3 = x3) (q1_x3 : (18 : Int) ≤ x3.toInt) (q2_x3 : x3.toInt ≤ (2147483647 : Int)) {x4 : Int32} (h_x4 : xs 4 = x4) (q1_x4 : (-2147483648 : Int) ≤ x4.toInt) (q2_x4 : x4.toInt ≤ (2147483647 : Int)) {x5 : Int32} (h_x5 : xs 5 = x5) (q1_x5 : (-2147483648 : Int) ≤ x5.toInt) (q2_x5 : x5.toInt ≤ (2147483647 : Int)) (kk : ∀ σ', zx p l e room_1 s m args below meth c g 8 600002 7302232 Q σ' 1395 [(4, .int 0), (0, .ref bS)] []) : zx p l e room_1 s m args below meth c g 8 500 100000 Q σ 252 [(4, .int 0), (3, .ref (b + 431)), (2, .ref (b + 405)), (1, .ref (b + 0)), (0, .ref bS)] [] := by
  have hK := fz_lay hF
  refine z_eqs (σ' := (ap b σ [] [] [])) rfl ?_
  refine z_aload_n B dL_law_252 rfl 3 rfl ?_
  refine z_aload_n B dL_law_253 rfl 4 rfl ?_
  refine z_iload B dL_law_254 0 rfl ?_
  refine z_iconst (v := 1) B dL_law_256 (by decide) ?_
  refine z_iadd B dL_law_257 ?_
  refine z_seti (y := 1) (by decide) ?_
  refine z_sld (j := 1) (x := 2) B hX hbl hbA (by decide) (show ¬ ((1 : Int32) < 0 ∨ 6 ≤ (1 : Int32).toNatClampNeg) by decide) h_x1 dL_law_258 ?_
  refine z_aload_n B dL_law_259 rfl 4 rfl ?_
  refine z_iload B dL_law_260 0 rfl ?_
  refine z_iconst (v := 2) B dL_law_262 (by decide) ?_
  refine z_iadd B dL_law_263 ?_
  refine z_seti (y := 2) (by decide) ?_
  refine z_sld (j := 2) (x := x2) B hX hbl hbA (by decide) (show ¬ ((2 : Int32) < 0 ∨ 6 ≤ (2 : Int32).toNatClampNeg) by decide) h_x2 dL_law_264 ?_
  refine z_aload_n B dL_law_265 rfl 4 rfl ?_
  refine z_iload B dL_law_266 0 rfl ?_
  refine z_iconst (v := 3) B dL_law_268 (by decide) ?_
  refine z_iadd B dL_law_269 ?_
  refine z_seti (y := 3) (by decide) ?_
  refine z_sld (j := 3) (x := x3) B hX hbl hbA (by decide) (show ¬ ((3 : Int32) < 0 ∨ 6 ≤ (3 : Int32).toNatClampNeg) by decide) h_x3 dL_law_270 ?_
  refine z_aload_n B dL_law_271 rfl 4 rfl ?_
  refine z_iload B dL_law_272 0 rfl ?_
  refine z_iconst (v := 4) B dL_law_274 (by decide) ?_
  refine z_iadd B dL_law_275 ?_
  refine z_seti (y := 4) (by decide) ?_
  refine z_sld (j := 4) (x := x4) B hX hbl hbA (by decide) (show ¬ ((4 : Int32) < 0 ∨ 6 ≤ (4 : Int32).toNatClampNeg) by decide) h_x4 dL_law_276 ?_
  refine z_aload_n B dL_law_277 rfl 4 rfl ?_
  refine z_iload B dL_law_278 0 rfl ?_
  refine z_iconst (v := 5) B dL_law_280 (by decide) ?_
  refine z_iadd B dL_law_281 ?_
  refine z_seti (y := 5) (by decide) ?_
  refine z_sld (j := 5) (x := x5) B hX hbl hbA (by decide) (show ¬ ((5 : Int32) < 0 ∨ 6 ≤ (5 : Int32).toNatClampNeg) by decide) h_x5 dL_law_282 ?_
  refine z_aload_n B dL_law_283 rfl 1 rfl ?_
  refine z_cSWi (As := [.ref (b + 0), .int 2, .int x2, .int x3, .int x4, .int x5, .ref (b + 431)]) (rest := []) B cw_L_84 dL_law_284 (ci_L_check_473 l hlt (σ := (ap b σ [] [] [])) (b := b) (lyA hK) x2 x3 x4 x5 q1_x2 q2_x2 (rR_at 0 0 (fz_R hF 0 0 rfl rfl)) (rR_at 1 2 (fz_R hF 1 2 rfl rfl))) rfl (by decide) rfl (Nat.le_of_ble_eq_true rfl) (by decide) (fun r u hu => ?_)
  obtain ⟨hu1, z, hu⟩ := hu
  refine z_eqs (σ' := (ap b (wx_Z σ z) [] [] [])) (hu.trans az_ap) ?_
  show zx p l e _ s m _ below meth c g 8 _ _ _ _ 287 [(4, .int 0), (3, .ref (b + 431)), (2, .ref (b + 405)), (1, .ref (b + 0)), (0, .ref bS)] _
  refine z_seti (y := 1) hu1 ?_
  refine z_istore (lv' := [(5, .int 1), (4, .int 0), (3, .ref (b + 431)), (2, .ref (b + 405)), (1, .ref (b + 0)), (0, .ref bS)]) B dL_law_287 (by decide) rfl ?_
  refine z_aload_n B dL_law_289 rfl 3 rfl ?_
  refine z_aload_n B dL_law_290 rfl 5 rfl ?_
  refine z_iload B dL_law_291 1 rfl ?_
  refine z_iconst (v := 1) B dL_law_293 (by decide) ?_
  refine z_iadd B dL_law_294 ?_
  refine z_seti (y := 1) (by decide) ?_
  refine z_sld (j := 1) (x := 2) B hX hbl hbA (by decide) (show ¬ ((1 : Int32) < 0 ∨ 6 ≤ (1 : Int32).toNatClampNeg) by decide) h_x1 dL_law_295 ?_
  refine z_aload_n B dL_law_296 rfl 5 rfl ?_
  refine z_iload B dL_law_297 1 rfl ?_
  refine z_iconst (v := 2) B dL_law_299 (by decide) ?_
  refine z_iadd B dL_law_300 ?_
  refine z_seti (y := 2) (by decide) ?_
  refine z_sld (j := 2) (x := x2) B hX hbl hbA (by decide) (show ¬ ((2 : Int32) < 0 ∨ 6 ≤ (2 : Int32).toNatClampNeg) by decide) h_x2 dL_law_301 ?_
  refine z_aload_n B dL_law_302 rfl 5 rfl ?_
  refine z_iload B dL_law_303 1 rfl ?_
  refine z_iconst (v := 3) B dL_law_305 (by decide) ?_
  refine z_iadd B dL_law_306 ?_
  refine z_seti (y := 3) (by decide) ?_
  refine z_sld (j := 3) (x := x3) B hX hbl hbA (by decide) (show ¬ ((3 : Int32) < 0 ∨ 6 ≤ (3 : Int32).toNatClampNeg) by decide) h_x3 dL_law_307 ?_
  refine z_aload_n B dL_law_308 rfl 5 rfl ?_
  refine z_iload B dL_law_309 1 rfl ?_
  refine z_iconst (v := 4) B dL_law_311 (by decide) ?_
  refine z_iadd B dL_law_312 ?_
  refine z_seti (y := 4) (by decide) ?_
  refine z_sld (j := 4) (x := x4) B hX hbl hbA (by decide) (show ¬ ((4 : Int32) < 0 ∨ 6 ≤ (4 : Int32).toNatClampNeg) by decide) h_x4 dL_law_313 ?_
  refine z_aload_n B dL_law_314 rfl 5 rfl ?_
  refine z_iload B dL_law_315 1 rfl ?_
  refine z_iconst (v := 5) B dL_law_317 (by decide) ?_
  refine z_iadd B dL_law_318 ?_
  refine z_seti (y := 5) (by decide) ?_
  refine z_sld (j := 5) (x := x5) B hX hbl hbA (by decide) (show ¬ ((5 : Int32) < 0 ∨ 6 ≤ (5 : Int32).toNatClampNeg) by decide) h_x5 dL_law_319 ?_
  refine z_cVi (As := [.int 2, .int x2, .int x3, .int x4, .int x5]) (rest := []) B cw_L_86 cx_10 dL_law_320 (ci_X9_check_480 l (σ := (ap b (wx_Z σ z) [] [] [])) (b := b) (lyA (lyZ hK)) x2 x3 x4 x5 q1_x2 q2_x2 q1_x3 q2_x3) (lKA (lKZ (hk_K hK 405 rfl rfl))) rfl (by decide) rfl (Nat.le_of_ble_eq_true rfl) (by decide) (fun r u hu => ?_)
  refine z_eqs (σ' := (ap b (wx_Z σ z) [(405, 0, 1)] [] [])) (hu.2.trans ap_ap) ?_
  show zx p l e _ s m _ below meth c g 8 _ _ _ _ 323 [(5, .int 1), (4, .int 0), (3, .ref (b + 431)), (2, .ref (b + 405)), (1, .ref (b + 0)), (0, .ref bS)] _
  refine z_seti (y := 0) hu.1 ?_
  refine z_istore (lv' := [(6, .int 0), (5, .int 1), (4, .int 0), (3, .ref (b + 431)), (2, .ref (b + 405)), (1, .ref (b + 0)), (0, .ref bS)]) B dL_law_323 (by decide) rfl ?_
  refine z_aload_n B dL_law_325 rfl 4 rfl ?_
  refine z_cVi (As := []) (rest := []) B cw_L_80 cx_10 dL_law_326 (ci_X9_thrown_31 l (σ := (ap b (wx_Z σ z) [(405, 0, 1)] [] [])) (b := b) (lyA (lyZ hK)) (rI_at 405 0 rfl)) (lKA (lKZ (hk_K hK 405 rfl rfl))) rfl (by decide) rfl (Nat.le_of_ble_eq_true rfl) (by decide) (fun r u hu => ?_)
  refine z_eqs (σ' := (ap b (wx_Z σ z) [(405, 0, 1)] [] [])) hu.2 ?_
  show zx p l e _ s m _ below meth c g 8 _ _ _ _ 329 [(6, .int 0), (5, .int 1), (4, .int 0), (3, .ref (b + 431)), (2, .ref (b + 405)), (1, .ref (b + 0)), (0, .ref bS)] _
  refine z_seti (y := 1) hu.1 ?_
  refine z_iload B dL_law_329 1 rfl ?_
  refine z_icmp_eq (tgt := 336) B dL_law_331 (by decide) (fun _ => ?_) (fun h => absurd (by decide) h)
  refine z_iload B dL_law_336 1 rfl ?_
  refine z_if_ne (tgt := 353) B dL_law_338 (by decide) (fun _ => ?_) (fun h => absurd h (by decide))
  refine z_goto (tgt := 1395) B dL_law_353 (by decide) ?_
  exact z_widen (Nat.le_of_ble_eq_true rfl) (Nat.le_of_ble_eq_true rfl) (z_sub _ [2, 6] rfl (kk _))
set_option maxRecDepth 100000 in
set_option maxHeartbeats 4000000 in
theorem lf_1_196 {p : Program} {l : Launch} {e : Env} {s : State} {m : MethodId} {args : Array Value} {below : List Frame} {meth : Method} {c : Code} {g : gx_T} {Q : State → Prop} {σ : sx_T} {b t bS : Nat} {xs : Nat → Int32} (hlt : l.stackTraces = false) (B : zx_B p s m args meth c code RL 8 g) (hX : va_X bS 6 xs s s.heap) (hbl : bS < s.heap.size) (hbA : ¬ gx_b g ≤ bS) (hF : fz_P b t σ) (h_x1 : xs 1 = 2) {x2 : Int32} (h_x2 : xs 2 = x2) (q1_x2 : (0 : Int) ≤ x2.toInt) (q2_x2 : x2.toInt ≤ (19 : Int)) {x3 : Int32} (h_x3 : xs 3 = x3) (q1_x3 : (-2147483648 : Int) ≤ x3.toInt) (q2_x3 : x3.toInt ≤ (-1 : Int)) {x4 : Int32} (h_x4 : xs 4 = x4) (q1_x4 : (-2147483648 : Int) ≤ x4.toInt) (q2_x4 : x4.toInt ≤ (2147483647 : Int)) {x5 : Int32} (h_x5 : xs 5 = x5) (q1_x5 : (-2147483648 : Int) ≤ x5.toInt) (q2_x5 : x5.toInt ≤ (2147483647 : Int)) (kk : ∀ σ', zx p l e room_1 s m args below meth c g 8 600002 7302232 Q σ' 1395 [(4, .int 0), (0, .ref bS)] []) : zx p l e room_1 s m args below meth c g 8 500 100000 Q σ 252 [(4, .int 0), (3, .ref (b + 431)), (2, .ref (b + 405)), (1, .ref (b + 0)), (0, .ref bS)] [] := by
  have hK := fz_lay hF
  refine z_eqs (σ' := (ap b σ [] [] [])) rfl ?_
  refine z_aload_n B dL_law_252 rfl 3 rfl ?_
  refine z_aload_n B dL_law_253 rfl 4 rfl ?_
  refine z_iload B dL_law_254 0 rfl ?_
  refine z_iconst (v := 1) B dL_law_256 (by decide) ?_
  refine z_iadd B dL_law_257 ?_
  refine z_seti (y := 1) (by decide) ?_
  refine z_sld (j := 1) (x := 2) B hX hbl hbA (by decide) (show ¬ ((1 : Int32) < 0 ∨ 6 ≤ (1 : Int32).toNatClampNeg) by decide) h_x1 dL_law_258 ?_
  refine z_aload_n B dL_law_259 rfl 4 rfl ?_
  refine z_iload B dL_law_260 0 rfl ?_
  refine z_iconst (v := 2) B dL_law_262 (by decide) ?_
  refine z_iadd B dL_law_263 ?_
  refine z_seti (y := 2) (by decide) ?_
  refine z_sld (j := 2) (x := x2) B hX hbl hbA (by decide) (show ¬ ((2 : Int32) < 0 ∨ 6 ≤ (2 : Int32).toNatClampNeg) by decide) h_x2 dL_law_264 ?_
  refine z_aload_n B dL_law_265 rfl 4 rfl ?_
  refine z_iload B dL_law_266 0 rfl ?_
  refine z_iconst (v := 3) B dL_law_268 (by decide) ?_
  refine z_iadd B dL_law_269 ?_
  refine z_seti (y := 3) (by decide) ?_
  refine z_sld (j := 3) (x := x3) B hX hbl hbA (by decide) (show ¬ ((3 : Int32) < 0 ∨ 6 ≤ (3 : Int32).toNatClampNeg) by decide) h_x3 dL_law_270 ?_
  refine z_aload_n B dL_law_271 rfl 4 rfl ?_
  refine z_iload B dL_law_272 0 rfl ?_
  refine z_iconst (v := 4) B dL_law_274 (by decide) ?_
  refine z_iadd B dL_law_275 ?_
  refine z_seti (y := 4) (by decide) ?_
  refine z_sld (j := 4) (x := x4) B hX hbl hbA (by decide) (show ¬ ((4 : Int32) < 0 ∨ 6 ≤ (4 : Int32).toNatClampNeg) by decide) h_x4 dL_law_276 ?_
  refine z_aload_n B dL_law_277 rfl 4 rfl ?_
  refine z_iload B dL_law_278 0 rfl ?_
  refine z_iconst (v := 5) B dL_law_280 (by decide) ?_
  refine z_iadd B dL_law_281 ?_
  refine z_seti (y := 5) (by decide) ?_
  refine z_sld (j := 5) (x := x5) B hX hbl hbA (by decide) (show ¬ ((5 : Int32) < 0 ∨ 6 ≤ (5 : Int32).toNatClampNeg) by decide) h_x5 dL_law_282 ?_
  refine z_aload_n B dL_law_283 rfl 1 rfl ?_
  refine z_cSWi (As := [.ref (b + 0), .int 2, .int x2, .int x3, .int x4, .int x5, .ref (b + 431)]) (rest := []) B cw_L_84 dL_law_284 (ci_L_check_482 l hlt (σ := (ap b σ [] [] [])) (b := b) (lyA hK) x2 x3 x4 x5 q1_x2 q2_x2 q1_x3 q2_x3 (rR_at 0 0 (fz_R hF 0 0 rfl rfl)) (rR_at 1 2 (fz_R hF 1 2 rfl rfl))) rfl (by decide) rfl (Nat.le_of_ble_eq_true rfl) (by decide) (fun r u hu => ?_)
  obtain ⟨hu1, z, hu⟩ := hu
  refine z_eqs (σ' := (ap b (wx_Z σ z) [] [] [])) (hu.trans az_ap) ?_
  show zx p l e _ s m _ below meth c g 8 _ _ _ _ 287 [(4, .int 0), (3, .ref (b + 431)), (2, .ref (b + 405)), (1, .ref (b + 0)), (0, .ref bS)] _
  refine z_seti (y := 2) hu1 ?_
  refine z_istore (lv' := [(5, .int 2), (4, .int 0), (3, .ref (b + 431)), (2, .ref (b + 405)), (1, .ref (b + 0)), (0, .ref bS)]) B dL_law_287 (by decide) rfl ?_
  refine z_aload_n B dL_law_289 rfl 3 rfl ?_
  refine z_aload_n B dL_law_290 rfl 5 rfl ?_
  refine z_iload B dL_law_291 1 rfl ?_
  refine z_iconst (v := 1) B dL_law_293 (by decide) ?_
  refine z_iadd B dL_law_294 ?_
  refine z_seti (y := 1) (by decide) ?_
  refine z_sld (j := 1) (x := 2) B hX hbl hbA (by decide) (show ¬ ((1 : Int32) < 0 ∨ 6 ≤ (1 : Int32).toNatClampNeg) by decide) h_x1 dL_law_295 ?_
  refine z_aload_n B dL_law_296 rfl 5 rfl ?_
  refine z_iload B dL_law_297 1 rfl ?_
  refine z_iconst (v := 2) B dL_law_299 (by decide) ?_
  refine z_iadd B dL_law_300 ?_
  refine z_seti (y := 2) (by decide) ?_
  refine z_sld (j := 2) (x := x2) B hX hbl hbA (by decide) (show ¬ ((2 : Int32) < 0 ∨ 6 ≤ (2 : Int32).toNatClampNeg) by decide) h_x2 dL_law_301 ?_
  refine z_aload_n B dL_law_302 rfl 5 rfl ?_
  refine z_iload B dL_law_303 1 rfl ?_
  refine z_iconst (v := 3) B dL_law_305 (by decide) ?_
  refine z_iadd B dL_law_306 ?_
  refine z_seti (y := 3) (by decide) ?_
  refine z_sld (j := 3) (x := x3) B hX hbl hbA (by decide) (show ¬ ((3 : Int32) < 0 ∨ 6 ≤ (3 : Int32).toNatClampNeg) by decide) h_x3 dL_law_307 ?_
  refine z_aload_n B dL_law_308 rfl 5 rfl ?_
  refine z_iload B dL_law_309 1 rfl ?_
  refine z_iconst (v := 4) B dL_law_311 (by decide) ?_
  refine z_iadd B dL_law_312 ?_
  refine z_seti (y := 4) (by decide) ?_
  refine z_sld (j := 4) (x := x4) B hX hbl hbA (by decide) (show ¬ ((4 : Int32) < 0 ∨ 6 ≤ (4 : Int32).toNatClampNeg) by decide) h_x4 dL_law_313 ?_
  refine z_aload_n B dL_law_314 rfl 5 rfl ?_
  refine z_iload B dL_law_315 1 rfl ?_
  refine z_iconst (v := 5) B dL_law_317 (by decide) ?_
  refine z_iadd B dL_law_318 ?_
  refine z_seti (y := 5) (by decide) ?_
  refine z_sld (j := 5) (x := x5) B hX hbl hbA (by decide) (show ¬ ((5 : Int32) < 0 ∨ 6 ≤ (5 : Int32).toNatClampNeg) by decide) h_x5 dL_law_319 ?_
  refine z_cVi (As := [.int 2, .int x2, .int x3, .int x4, .int x5]) (rest := []) B cw_L_86 cx_10 dL_law_320 (ci_X9_check_483 l (σ := (ap b (wx_Z σ z) [] [] [])) (b := b) (lyA (lyZ hK)) x2 x3 x4 x5 q1_x2 q2_x2 q1_x3 q2_x3) (lKA (lKZ (hk_K hK 405 rfl rfl))) rfl (by decide) rfl (Nat.le_of_ble_eq_true rfl) (by decide) (fun r u hu => ?_)
  refine z_eqs (σ' := (ap b (wx_Z σ z) [(405, 0, 2)] [] [])) (hu.2.trans ap_ap) ?_
  show zx p l e _ s m _ below meth c g 8 _ _ _ _ 323 [(5, .int 2), (4, .int 0), (3, .ref (b + 431)), (2, .ref (b + 405)), (1, .ref (b + 0)), (0, .ref bS)] _
  refine z_seti (y := 0) hu.1 ?_
  refine z_istore (lv' := [(6, .int 0), (5, .int 2), (4, .int 0), (3, .ref (b + 431)), (2, .ref (b + 405)), (1, .ref (b + 0)), (0, .ref bS)]) B dL_law_323 (by decide) rfl ?_
  refine z_aload_n B dL_law_325 rfl 4 rfl ?_
  refine z_cVi (As := []) (rest := []) B cw_L_80 cx_10 dL_law_326 (ci_X9_thrown_73 l (σ := (ap b (wx_Z σ z) [(405, 0, 2)] [] [])) (b := b) (lyA (lyZ hK)) (rI_at 405 0 rfl)) (lKA (lKZ (hk_K hK 405 rfl rfl))) rfl (by decide) rfl (Nat.le_of_ble_eq_true rfl) (by decide) (fun r u hu => ?_)
  refine z_eqs (σ' := (ap b (wx_Z σ z) [(405, 0, 2)] [] [])) hu.2 ?_
  show zx p l e _ s m _ below meth c g 8 _ _ _ _ 329 [(6, .int 0), (5, .int 2), (4, .int 0), (3, .ref (b + 431)), (2, .ref (b + 405)), (1, .ref (b + 0)), (0, .ref bS)] _
  refine z_seti (y := 2) hu.1 ?_
  refine z_iload B dL_law_329 1 rfl ?_
  refine z_icmp_eq (tgt := 336) B dL_law_331 (by decide) (fun _ => ?_) (fun h => absurd (by decide) h)
  refine z_iload B dL_law_336 1 rfl ?_
  refine z_if_ne (tgt := 353) B dL_law_338 (by decide) (fun _ => ?_) (fun h => absurd h (by decide))
  refine z_goto (tgt := 1395) B dL_law_353 (by decide) ?_
  exact z_widen (Nat.le_of_ble_eq_true rfl) (Nat.le_of_ble_eq_true rfl) (z_sub _ [2, 6] rfl (kk _))
set_option maxRecDepth 100000 in
set_option maxHeartbeats 4000000 in
theorem lf_1_197 {p : Program} {l : Launch} {e : Env} {s : State} {m : MethodId} {args : Array Value} {below : List Frame} {meth : Method} {c : Code} {g : gx_T} {Q : State → Prop} {σ : sx_T} {b t bS : Nat} {xs : Nat → Int32} (hlt : l.stackTraces = false) (B : zx_B p s m args meth c code RL 8 g) (hX : va_X bS 6 xs s s.heap) (hbl : bS < s.heap.size) (hbA : ¬ gx_b g ≤ bS) (hF : fz_P b t σ) (h_x1 : xs 1 = 2) {x2 : Int32} (h_x2 : xs 2 = x2) (q1_x2 : (0 : Int) ≤ x2.toInt) (q2_x2 : x2.toInt ≤ (19 : Int)) {x3 : Int32} (h_x3 : xs 3 = x3) (q1_x3 : (0 : Int) ≤ x3.toInt) (q2_x3 : x3.toInt ≤ (17 : Int)) {x4 : Int32} (h_x4 : xs 4 = x4) (q1_x4 : (-2147483648 : Int) ≤ x4.toInt) (q2_x4 : x4.toInt ≤ (-1 : Int)) {x5 : Int32} (h_x5 : xs 5 = x5) (q1_x5 : (-2147483648 : Int) ≤ x5.toInt) (q2_x5 : x5.toInt ≤ (2147483647 : Int)) (kk : ∀ σ', zx p l e room_1 s m args below meth c g 8 600002 7302232 Q σ' 1395 [(4, .int 0), (0, .ref bS)] []) : zx p l e room_1 s m args below meth c g 8 500 100000 Q σ 252 [(4, .int 0), (3, .ref (b + 431)), (2, .ref (b + 405)), (1, .ref (b + 0)), (0, .ref bS)] [] := by
  have hK := fz_lay hF
  refine z_eqs (σ' := (ap b σ [] [] [])) rfl ?_
  refine z_aload_n B dL_law_252 rfl 3 rfl ?_
  refine z_aload_n B dL_law_253 rfl 4 rfl ?_
  refine z_iload B dL_law_254 0 rfl ?_
  refine z_iconst (v := 1) B dL_law_256 (by decide) ?_
  refine z_iadd B dL_law_257 ?_
  refine z_seti (y := 1) (by decide) ?_
  refine z_sld (j := 1) (x := 2) B hX hbl hbA (by decide) (show ¬ ((1 : Int32) < 0 ∨ 6 ≤ (1 : Int32).toNatClampNeg) by decide) h_x1 dL_law_258 ?_
  refine z_aload_n B dL_law_259 rfl 4 rfl ?_
  refine z_iload B dL_law_260 0 rfl ?_
  refine z_iconst (v := 2) B dL_law_262 (by decide) ?_
  refine z_iadd B dL_law_263 ?_
  refine z_seti (y := 2) (by decide) ?_
  refine z_sld (j := 2) (x := x2) B hX hbl hbA (by decide) (show ¬ ((2 : Int32) < 0 ∨ 6 ≤ (2 : Int32).toNatClampNeg) by decide) h_x2 dL_law_264 ?_
  refine z_aload_n B dL_law_265 rfl 4 rfl ?_
  refine z_iload B dL_law_266 0 rfl ?_
  refine z_iconst (v := 3) B dL_law_268 (by decide) ?_
  refine z_iadd B dL_law_269 ?_
  refine z_seti (y := 3) (by decide) ?_
  refine z_sld (j := 3) (x := x3) B hX hbl hbA (by decide) (show ¬ ((3 : Int32) < 0 ∨ 6 ≤ (3 : Int32).toNatClampNeg) by decide) h_x3 dL_law_270 ?_
  refine z_aload_n B dL_law_271 rfl 4 rfl ?_
  refine z_iload B dL_law_272 0 rfl ?_
  refine z_iconst (v := 4) B dL_law_274 (by decide) ?_
  refine z_iadd B dL_law_275 ?_
  refine z_seti (y := 4) (by decide) ?_
  refine z_sld (j := 4) (x := x4) B hX hbl hbA (by decide) (show ¬ ((4 : Int32) < 0 ∨ 6 ≤ (4 : Int32).toNatClampNeg) by decide) h_x4 dL_law_276 ?_
  refine z_aload_n B dL_law_277 rfl 4 rfl ?_
  refine z_iload B dL_law_278 0 rfl ?_
  refine z_iconst (v := 5) B dL_law_280 (by decide) ?_
  refine z_iadd B dL_law_281 ?_
  refine z_seti (y := 5) (by decide) ?_
  refine z_sld (j := 5) (x := x5) B hX hbl hbA (by decide) (show ¬ ((5 : Int32) < 0 ∨ 6 ≤ (5 : Int32).toNatClampNeg) by decide) h_x5 dL_law_282 ?_
  refine z_aload_n B dL_law_283 rfl 1 rfl ?_
  refine z_cSWi (As := [.ref (b + 0), .int 2, .int x2, .int x3, .int x4, .int x5, .ref (b + 431)]) (rest := []) B cw_L_84 dL_law_284 (ci_L_check_485 l hlt (σ := (ap b σ [] [] [])) (b := b) (lyA hK) x2 x3 x4 x5 q1_x2 q2_x2 q1_x3 q2_x3 q1_x4 q2_x4 (rR_at 0 0 (fz_R hF 0 0 rfl rfl)) (rR_at 1 2 (fz_R hF 1 2 rfl rfl))) rfl (by decide) rfl (Nat.le_of_ble_eq_true rfl) (by decide) (fun r u hu => ?_)
  obtain ⟨hu1, z, hu⟩ := hu
  refine z_eqs (σ' := (ap b (wx_Z σ z) [] [] [])) (hu.trans az_ap) ?_
  show zx p l e _ s m _ below meth c g 8 _ _ _ _ 287 [(4, .int 0), (3, .ref (b + 431)), (2, .ref (b + 405)), (1, .ref (b + 0)), (0, .ref bS)] _
  refine z_seti (y := 2) hu1 ?_
  refine z_istore (lv' := [(5, .int 2), (4, .int 0), (3, .ref (b + 431)), (2, .ref (b + 405)), (1, .ref (b + 0)), (0, .ref bS)]) B dL_law_287 (by decide) rfl ?_
  refine z_aload_n B dL_law_289 rfl 3 rfl ?_
  refine z_aload_n B dL_law_290 rfl 5 rfl ?_
  refine z_iload B dL_law_291 1 rfl ?_
  refine z_iconst (v := 1) B dL_law_293 (by decide) ?_
  refine z_iadd B dL_law_294 ?_
  refine z_seti (y := 1) (by decide) ?_
  refine z_sld (j := 1) (x := 2) B hX hbl hbA (by decide) (show ¬ ((1 : Int32) < 0 ∨ 6 ≤ (1 : Int32).toNatClampNeg) by decide) h_x1 dL_law_295 ?_
  refine z_aload_n B dL_law_296 rfl 5 rfl ?_
  refine z_iload B dL_law_297 1 rfl ?_
  refine z_iconst (v := 2) B dL_law_299 (by decide) ?_
  refine z_iadd B dL_law_300 ?_
  refine z_seti (y := 2) (by decide) ?_
  refine z_sld (j := 2) (x := x2) B hX hbl hbA (by decide) (show ¬ ((2 : Int32) < 0 ∨ 6 ≤ (2 : Int32).toNatClampNeg) by decide) h_x2 dL_law_301 ?_
  refine z_aload_n B dL_law_302 rfl 5 rfl ?_
  refine z_iload B dL_law_303 1 rfl ?_
  refine z_iconst (v := 3) B dL_law_305 (by decide) ?_
  refine z_iadd B dL_law_306 ?_
  refine z_seti (y := 3) (by decide) ?_
  refine z_sld (j := 3) (x := x3) B hX hbl hbA (by decide) (show ¬ ((3 : Int32) < 0 ∨ 6 ≤ (3 : Int32).toNatClampNeg) by decide) h_x3 dL_law_307 ?_
  refine z_aload_n B dL_law_308 rfl 5 rfl ?_
  refine z_iload B dL_law_309 1 rfl ?_
  refine z_iconst (v := 4) B dL_law_311 (by decide) ?_
  refine z_iadd B dL_law_312 ?_
  refine z_seti (y := 4) (by decide) ?_
  refine z_sld (j := 4) (x := x4) B hX hbl hbA (by decide) (show ¬ ((4 : Int32) < 0 ∨ 6 ≤ (4 : Int32).toNatClampNeg) by decide) h_x4 dL_law_313 ?_
  refine z_aload_n B dL_law_314 rfl 5 rfl ?_
  refine z_iload B dL_law_315 1 rfl ?_
  refine z_iconst (v := 5) B dL_law_317 (by decide) ?_
  refine z_iadd B dL_law_318 ?_
  refine z_seti (y := 5) (by decide) ?_
  refine z_sld (j := 5) (x := x5) B hX hbl hbA (by decide) (show ¬ ((5 : Int32) < 0 ∨ 6 ≤ (5 : Int32).toNatClampNeg) by decide) h_x5 dL_law_319 ?_
  refine z_cVi (As := [.int 2, .int x2, .int x3, .int x4, .int x5]) (rest := []) B cw_L_86 cx_10 dL_law_320 (ci_X9_check_486 l (σ := (ap b (wx_Z σ z) [] [] [])) (b := b) (lyA (lyZ hK)) x2 x3 x4 x5 q1_x2 q2_x2 q1_x3 q2_x3 q1_x4 q2_x4) (lKA (lKZ (hk_K hK 405 rfl rfl))) rfl (by decide) rfl (Nat.le_of_ble_eq_true rfl) (by decide) (fun r u hu => ?_)
  refine z_eqs (σ' := (ap b (wx_Z σ z) [(405, 0, 2)] [] [])) (hu.2.trans ap_ap) ?_
  show zx p l e _ s m _ below meth c g 8 _ _ _ _ 323 [(5, .int 2), (4, .int 0), (3, .ref (b + 431)), (2, .ref (b + 405)), (1, .ref (b + 0)), (0, .ref bS)] _
  refine z_seti (y := 0) hu.1 ?_
  refine z_istore (lv' := [(6, .int 0), (5, .int 2), (4, .int 0), (3, .ref (b + 431)), (2, .ref (b + 405)), (1, .ref (b + 0)), (0, .ref bS)]) B dL_law_323 (by decide) rfl ?_
  refine z_aload_n B dL_law_325 rfl 4 rfl ?_
  refine z_cVi (As := []) (rest := []) B cw_L_80 cx_10 dL_law_326 (ci_X9_thrown_73 l (σ := (ap b (wx_Z σ z) [(405, 0, 2)] [] [])) (b := b) (lyA (lyZ hK)) (rI_at 405 0 rfl)) (lKA (lKZ (hk_K hK 405 rfl rfl))) rfl (by decide) rfl (Nat.le_of_ble_eq_true rfl) (by decide) (fun r u hu => ?_)
  refine z_eqs (σ' := (ap b (wx_Z σ z) [(405, 0, 2)] [] [])) hu.2 ?_
  show zx p l e _ s m _ below meth c g 8 _ _ _ _ 329 [(6, .int 0), (5, .int 2), (4, .int 0), (3, .ref (b + 431)), (2, .ref (b + 405)), (1, .ref (b + 0)), (0, .ref bS)] _
  refine z_seti (y := 2) hu.1 ?_
  refine z_iload B dL_law_329 1 rfl ?_
  refine z_icmp_eq (tgt := 336) B dL_law_331 (by decide) (fun _ => ?_) (fun h => absurd (by decide) h)
  refine z_iload B dL_law_336 1 rfl ?_
  refine z_if_ne (tgt := 353) B dL_law_338 (by decide) (fun _ => ?_) (fun h => absurd h (by decide))
  refine z_goto (tgt := 1395) B dL_law_353 (by decide) ?_
  exact z_widen (Nat.le_of_ble_eq_true rfl) (Nat.le_of_ble_eq_true rfl) (z_sub _ [2, 6] rfl (kk _))
set_option maxRecDepth 100000 in
set_option maxHeartbeats 4000000 in
theorem lf_1_198 {p : Program} {l : Launch} {e : Env} {s : State} {m : MethodId} {args : Array Value} {below : List Frame} {meth : Method} {c : Code} {g : gx_T} {Q : State → Prop} {σ : sx_T} {b t bS : Nat} {xs : Nat → Int32} (hlt : l.stackTraces = false) (B : zx_B p s m args meth c code RL 8 g) (hX : va_X bS 6 xs s s.heap) (hbl : bS < s.heap.size) (hbA : ¬ gx_b g ≤ bS) (hF : fz_P b t σ) (h_x1 : xs 1 = 2) {x2 : Int32} (h_x2 : xs 2 = x2) (q1_x2 : (0 : Int) ≤ x2.toInt) (q2_x2 : x2.toInt ≤ (19 : Int)) {x3 : Int32} (h_x3 : xs 3 = x3) (q1_x3 : (0 : Int) ≤ x3.toInt) (q2_x3 : x3.toInt ≤ (17 : Int)) {x4 : Int32} (h_x4 : xs 4 = x4) (q1_x4 : (0 : Int) ≤ x4.toInt) (q2_x4 : x4.toInt ≤ (99 : Int)) {x5 : Int32} (h_x5 : xs 5 = x5) (q1_x5 : (-2147483648 : Int) ≤ x5.toInt) (q2_x5 : x5.toInt ≤ (-1 : Int)) (kk : ∀ σ', zx p l e room_1 s m args below meth c g 8 600002 7302232 Q σ' 1395 [(4, .int 0), (0, .ref bS)] []) : zx p l e room_1 s m args below meth c g 8 500 100000 Q σ 252 [(4, .int 0), (3, .ref (b + 431)), (2, .ref (b + 405)), (1, .ref (b + 0)), (0, .ref bS)] [] := by
  have hK := fz_lay hF
  refine z_eqs (σ' := (ap b σ [] [] [])) rfl ?_
  refine z_aload_n B dL_law_252 rfl 3 rfl ?_
  refine z_aload_n B dL_law_253 rfl 4 rfl ?_
  refine z_iload B dL_law_254 0 rfl ?_
  refine z_iconst (v := 1) B dL_law_256 (by decide) ?_
  refine z_iadd B dL_law_257 ?_
  refine z_seti (y := 1) (by decide) ?_
  refine z_sld (j := 1) (x := 2) B hX hbl hbA (by decide) (show ¬ ((1 : Int32) < 0 ∨ 6 ≤ (1 : Int32).toNatClampNeg) by decide) h_x1 dL_law_258 ?_
  refine z_aload_n B dL_law_259 rfl 4 rfl ?_
  refine z_iload B dL_law_260 0 rfl ?_
  refine z_iconst (v := 2) B dL_law_262 (by decide) ?_
  refine z_iadd B dL_law_263 ?_
  refine z_seti (y := 2) (by decide) ?_
  refine z_sld (j := 2) (x := x2) B hX hbl hbA (by decide) (show ¬ ((2 : Int32) < 0 ∨ 6 ≤ (2 : Int32).toNatClampNeg) by decide) h_x2 dL_law_264 ?_
  refine z_aload_n B dL_law_265 rfl 4 rfl ?_
  refine z_iload B dL_law_266 0 rfl ?_
  refine z_iconst (v := 3) B dL_law_268 (by decide) ?_
  refine z_iadd B dL_law_269 ?_
  refine z_seti (y := 3) (by decide) ?_
  refine z_sld (j := 3) (x := x3) B hX hbl hbA (by decide) (show ¬ ((3 : Int32) < 0 ∨ 6 ≤ (3 : Int32).toNatClampNeg) by decide) h_x3 dL_law_270 ?_
  refine z_aload_n B dL_law_271 rfl 4 rfl ?_
  refine z_iload B dL_law_272 0 rfl ?_
  refine z_iconst (v := 4) B dL_law_274 (by decide) ?_
  refine z_iadd B dL_law_275 ?_
  refine z_seti (y := 4) (by decide) ?_
  refine z_sld (j := 4) (x := x4) B hX hbl hbA (by decide) (show ¬ ((4 : Int32) < 0 ∨ 6 ≤ (4 : Int32).toNatClampNeg) by decide) h_x4 dL_law_276 ?_
  refine z_aload_n B dL_law_277 rfl 4 rfl ?_
  refine z_iload B dL_law_278 0 rfl ?_
  refine z_iconst (v := 5) B dL_law_280 (by decide) ?_
  refine z_iadd B dL_law_281 ?_
  refine z_seti (y := 5) (by decide) ?_
  refine z_sld (j := 5) (x := x5) B hX hbl hbA (by decide) (show ¬ ((5 : Int32) < 0 ∨ 6 ≤ (5 : Int32).toNatClampNeg) by decide) h_x5 dL_law_282 ?_
  refine z_aload_n B dL_law_283 rfl 1 rfl ?_
  refine z_cSWi (As := [.ref (b + 0), .int 2, .int x2, .int x3, .int x4, .int x5, .ref (b + 431)]) (rest := []) B cw_L_84 dL_law_284 (ci_L_check_488 l hlt (σ := (ap b σ [] [] [])) (b := b) (lyA hK) x2 x3 x4 x5 q1_x2 q2_x2 q1_x3 q2_x3 q1_x4 q2_x4 q1_x5 q2_x5 (rR_at 0 0 (fz_R hF 0 0 rfl rfl)) (rR_at 1 2 (fz_R hF 1 2 rfl rfl))) rfl (by decide) rfl (Nat.le_of_ble_eq_true rfl) (by decide) (fun r u hu => ?_)
  obtain ⟨hu1, z, hu⟩ := hu
  refine z_eqs (σ' := (ap b (wx_Z σ z) [] [] [])) (hu.trans az_ap) ?_
  show zx p l e _ s m _ below meth c g 8 _ _ _ _ 287 [(4, .int 0), (3, .ref (b + 431)), (2, .ref (b + 405)), (1, .ref (b + 0)), (0, .ref bS)] _
  refine z_seti (y := 2) hu1 ?_
  refine z_istore (lv' := [(5, .int 2), (4, .int 0), (3, .ref (b + 431)), (2, .ref (b + 405)), (1, .ref (b + 0)), (0, .ref bS)]) B dL_law_287 (by decide) rfl ?_
  refine z_aload_n B dL_law_289 rfl 3 rfl ?_
  refine z_aload_n B dL_law_290 rfl 5 rfl ?_
  refine z_iload B dL_law_291 1 rfl ?_
  refine z_iconst (v := 1) B dL_law_293 (by decide) ?_
  refine z_iadd B dL_law_294 ?_
  refine z_seti (y := 1) (by decide) ?_
  refine z_sld (j := 1) (x := 2) B hX hbl hbA (by decide) (show ¬ ((1 : Int32) < 0 ∨ 6 ≤ (1 : Int32).toNatClampNeg) by decide) h_x1 dL_law_295 ?_
  refine z_aload_n B dL_law_296 rfl 5 rfl ?_
  refine z_iload B dL_law_297 1 rfl ?_
  refine z_iconst (v := 2) B dL_law_299 (by decide) ?_
  refine z_iadd B dL_law_300 ?_
  refine z_seti (y := 2) (by decide) ?_
  refine z_sld (j := 2) (x := x2) B hX hbl hbA (by decide) (show ¬ ((2 : Int32) < 0 ∨ 6 ≤ (2 : Int32).toNatClampNeg) by decide) h_x2 dL_law_301 ?_
  refine z_aload_n B dL_law_302 rfl 5 rfl ?_
  refine z_iload B dL_law_303 1 rfl ?_
  refine z_iconst (v := 3) B dL_law_305 (by decide) ?_
  refine z_iadd B dL_law_306 ?_
  refine z_seti (y := 3) (by decide) ?_
  refine z_sld (j := 3) (x := x3) B hX hbl hbA (by decide) (show ¬ ((3 : Int32) < 0 ∨ 6 ≤ (3 : Int32).toNatClampNeg) by decide) h_x3 dL_law_307 ?_
  refine z_aload_n B dL_law_308 rfl 5 rfl ?_
  refine z_iload B dL_law_309 1 rfl ?_
  refine z_iconst (v := 4) B dL_law_311 (by decide) ?_
  refine z_iadd B dL_law_312 ?_
  refine z_seti (y := 4) (by decide) ?_
  refine z_sld (j := 4) (x := x4) B hX hbl hbA (by decide) (show ¬ ((4 : Int32) < 0 ∨ 6 ≤ (4 : Int32).toNatClampNeg) by decide) h_x4 dL_law_313 ?_
  refine z_aload_n B dL_law_314 rfl 5 rfl ?_
  refine z_iload B dL_law_315 1 rfl ?_
  refine z_iconst (v := 5) B dL_law_317 (by decide) ?_
  refine z_iadd B dL_law_318 ?_
  refine z_seti (y := 5) (by decide) ?_
  refine z_sld (j := 5) (x := x5) B hX hbl hbA (by decide) (show ¬ ((5 : Int32) < 0 ∨ 6 ≤ (5 : Int32).toNatClampNeg) by decide) h_x5 dL_law_319 ?_
  refine z_cVi (As := [.int 2, .int x2, .int x3, .int x4, .int x5]) (rest := []) B cw_L_86 cx_10 dL_law_320 (ci_X9_check_489 l (σ := (ap b (wx_Z σ z) [] [] [])) (b := b) (lyA (lyZ hK)) x2 x3 x4 x5 q1_x2 q2_x2 q1_x3 q2_x3 q1_x4 q2_x4 q1_x5 q2_x5) (lKA (lKZ (hk_K hK 405 rfl rfl))) rfl (by decide) rfl (Nat.le_of_ble_eq_true rfl) (by decide) (fun r u hu => ?_)
  refine z_eqs (σ' := (ap b (wx_Z σ z) [(405, 0, 2)] [] [])) (hu.2.trans ap_ap) ?_
  show zx p l e _ s m _ below meth c g 8 _ _ _ _ 323 [(5, .int 2), (4, .int 0), (3, .ref (b + 431)), (2, .ref (b + 405)), (1, .ref (b + 0)), (0, .ref bS)] _
  refine z_seti (y := 0) hu.1 ?_
  refine z_istore (lv' := [(6, .int 0), (5, .int 2), (4, .int 0), (3, .ref (b + 431)), (2, .ref (b + 405)), (1, .ref (b + 0)), (0, .ref bS)]) B dL_law_323 (by decide) rfl ?_
  refine z_aload_n B dL_law_325 rfl 4 rfl ?_
  refine z_cVi (As := []) (rest := []) B cw_L_80 cx_10 dL_law_326 (ci_X9_thrown_73 l (σ := (ap b (wx_Z σ z) [(405, 0, 2)] [] [])) (b := b) (lyA (lyZ hK)) (rI_at 405 0 rfl)) (lKA (lKZ (hk_K hK 405 rfl rfl))) rfl (by decide) rfl (Nat.le_of_ble_eq_true rfl) (by decide) (fun r u hu => ?_)
  refine z_eqs (σ' := (ap b (wx_Z σ z) [(405, 0, 2)] [] [])) hu.2 ?_
  show zx p l e _ s m _ below meth c g 8 _ _ _ _ 329 [(6, .int 0), (5, .int 2), (4, .int 0), (3, .ref (b + 431)), (2, .ref (b + 405)), (1, .ref (b + 0)), (0, .ref bS)] _
  refine z_seti (y := 2) hu.1 ?_
  refine z_iload B dL_law_329 1 rfl ?_
  refine z_icmp_eq (tgt := 336) B dL_law_331 (by decide) (fun _ => ?_) (fun h => absurd (by decide) h)
  refine z_iload B dL_law_336 1 rfl ?_
  refine z_if_ne (tgt := 353) B dL_law_338 (by decide) (fun _ => ?_) (fun h => absurd h (by decide))
  refine z_goto (tgt := 1395) B dL_law_353 (by decide) ?_
  exact z_widen (Nat.le_of_ble_eq_true rfl) (Nat.le_of_ble_eq_true rfl) (z_sub _ [2, 6] rfl (kk _))
set_option maxRecDepth 100000 in
set_option maxHeartbeats 4000000 in
theorem lf_1_199 {p : Program} {l : Launch} {e : Env} {s : State} {m : MethodId} {args : Array Value} {below : List Frame} {meth : Method} {c : Code} {g : gx_T} {Q : State → Prop} {σ : sx_T} {b t bS : Nat} {xs : Nat → Int32} (hlt : l.stackTraces = false) (B : zx_B p s m args meth c code RL 8 g) (hX : va_X bS 6 xs s s.heap) (hbl : bS < s.heap.size) (hbA : ¬ gx_b g ≤ bS) (hF : fz_P b t σ) (h_x1 : xs 1 = 2) {x2 : Int32} (h_x2 : xs 2 = x2) (q1_x2 : (0 : Int) ≤ x2.toInt) (q2_x2 : x2.toInt ≤ (19 : Int)) {x3 : Int32} (h_x3 : xs 3 = x3) (q1_x3 : (0 : Int) ≤ x3.toInt) (q2_x3 : x3.toInt ≤ (17 : Int)) {x4 : Int32} (h_x4 : xs 4 = x4) (q1_x4 : (0 : Int) ≤ x4.toInt) (q2_x4 : x4.toInt ≤ (99 : Int)) {x5 : Int32} (h_x5 : xs 5 = x5) (q1_x5 : (0 : Int) ≤ x5.toInt) (q2_x5 : x5.toInt ≤ (99 : Int)) (kk : ∀ σ', zx p l e room_1 s m args below meth c g 8 600002 7302232 Q σ' 1395 [(4, .int 0), (0, .ref bS)] []) : zx p l e room_1 s m args below meth c g 8 500 100000 Q σ 252 [(4, .int 0), (3, .ref (b + 431)), (2, .ref (b + 405)), (1, .ref (b + 0)), (0, .ref bS)] [] := by
  have hK := fz_lay hF
  refine z_eqs (σ' := (ap b σ [] [] [])) rfl ?_
  refine z_aload_n B dL_law_252 rfl 3 rfl ?_
  refine z_aload_n B dL_law_253 rfl 4 rfl ?_
  refine z_iload B dL_law_254 0 rfl ?_
  refine z_iconst (v := 1) B dL_law_256 (by decide) ?_
  refine z_iadd B dL_law_257 ?_
  refine z_seti (y := 1) (by decide) ?_
  refine z_sld (j := 1) (x := 2) B hX hbl hbA (by decide) (show ¬ ((1 : Int32) < 0 ∨ 6 ≤ (1 : Int32).toNatClampNeg) by decide) h_x1 dL_law_258 ?_
  refine z_aload_n B dL_law_259 rfl 4 rfl ?_
  refine z_iload B dL_law_260 0 rfl ?_
  refine z_iconst (v := 2) B dL_law_262 (by decide) ?_
  refine z_iadd B dL_law_263 ?_
  refine z_seti (y := 2) (by decide) ?_
  refine z_sld (j := 2) (x := x2) B hX hbl hbA (by decide) (show ¬ ((2 : Int32) < 0 ∨ 6 ≤ (2 : Int32).toNatClampNeg) by decide) h_x2 dL_law_264 ?_
  refine z_aload_n B dL_law_265 rfl 4 rfl ?_
  refine z_iload B dL_law_266 0 rfl ?_
  refine z_iconst (v := 3) B dL_law_268 (by decide) ?_
  refine z_iadd B dL_law_269 ?_
  refine z_seti (y := 3) (by decide) ?_
  refine z_sld (j := 3) (x := x3) B hX hbl hbA (by decide) (show ¬ ((3 : Int32) < 0 ∨ 6 ≤ (3 : Int32).toNatClampNeg) by decide) h_x3 dL_law_270 ?_
  refine z_aload_n B dL_law_271 rfl 4 rfl ?_
  refine z_iload B dL_law_272 0 rfl ?_
  refine z_iconst (v := 4) B dL_law_274 (by decide) ?_
  refine z_iadd B dL_law_275 ?_
  refine z_seti (y := 4) (by decide) ?_
  refine z_sld (j := 4) (x := x4) B hX hbl hbA (by decide) (show ¬ ((4 : Int32) < 0 ∨ 6 ≤ (4 : Int32).toNatClampNeg) by decide) h_x4 dL_law_276 ?_
  refine z_aload_n B dL_law_277 rfl 4 rfl ?_
  refine z_iload B dL_law_278 0 rfl ?_
  refine z_iconst (v := 5) B dL_law_280 (by decide) ?_
  refine z_iadd B dL_law_281 ?_
  refine z_seti (y := 5) (by decide) ?_
  refine z_sld (j := 5) (x := x5) B hX hbl hbA (by decide) (show ¬ ((5 : Int32) < 0 ∨ 6 ≤ (5 : Int32).toNatClampNeg) by decide) h_x5 dL_law_282 ?_
  refine z_aload_n B dL_law_283 rfl 1 rfl ?_
  refine z_cSWi (As := [.ref (b + 0), .int 2, .int x2, .int x3, .int x4, .int x5, .ref (b + 431)]) (rest := []) B cw_L_84 dL_law_284 (ci_L_check_494 l (σ := (ap b σ [] [] [])) (b := b) (lyA hK) x2 x3 x4 x5 q1_x2 q2_x2 q1_x3 q2_x3 q1_x4 q2_x4 q1_x5 q2_x5 (rI_at 0 7 (fz_I hF 0 7 rfl rfl)) (rR_at 0 0 (fz_R hF 0 0 rfl rfl)) (rR_at 1 2 (fz_R hF 1 2 rfl rfl)) (rR_at 17 1 (fz_R hF 17 1 rfl rfl)) (rR_at 17 2 (fz_R hF 17 2 rfl rfl)) (rR_at 17 3 (fz_R hF 17 3 rfl rfl))) rfl (by decide) rfl (Nat.le_of_ble_eq_true rfl) (by decide) (fun r u hu => ?_)
  obtain ⟨y1, y2, y3, hu⟩ := hu
  refine z_eqs (σ' := (ap b (wx_I (ap b (wx_I (ap b (wx_I (ap b (ap b (wx_I (ap b (wx_I (ap b (wx_I (ap b (ap b (ap b (ap b σ [] [] []) [] [] []) [] [] []) [] [] []) (b + 18) x2.toNatClampNeg x3) [] [] []) (b + 19) x2.toNatClampNeg x4) [] [] []) (b + 20) x2.toNatClampNeg x5) [] [] []) [] [] []) (b + 18) x2.toNatClampNeg y1) [] [] []) (b + 19) x2.toNatClampNeg y2) [] [] []) (b + 20) x2.toNatClampNeg y3) [] [(431, 0, 0)] [])) hu.2 ?_
  show zx p l e _ s m _ below meth c g 8 _ _ _ _ 287 [(4, .int 0), (3, .ref (b + 431)), (2, .ref (b + 405)), (1, .ref (b + 0)), (0, .ref bS)] _
  refine z_seti (y := 0) hu.1 ?_
  refine z_istore (lv' := [(5, .int 0), (4, .int 0), (3, .ref (b + 431)), (2, .ref (b + 405)), (1, .ref (b + 0)), (0, .ref bS)]) B dL_law_287 (by decide) rfl ?_
  refine z_aload_n B dL_law_289 rfl 3 rfl ?_
  refine z_aload_n B dL_law_290 rfl 5 rfl ?_
  refine z_iload B dL_law_291 1 rfl ?_
  refine z_iconst (v := 1) B dL_law_293 (by decide) ?_
  refine z_iadd B dL_law_294 ?_
  refine z_seti (y := 1) (by decide) ?_
  refine z_sld (j := 1) (x := 2) B hX hbl hbA (by decide) (show ¬ ((1 : Int32) < 0 ∨ 6 ≤ (1 : Int32).toNatClampNeg) by decide) h_x1 dL_law_295 ?_
  refine z_aload_n B dL_law_296 rfl 5 rfl ?_
  refine z_iload B dL_law_297 1 rfl ?_
  refine z_iconst (v := 2) B dL_law_299 (by decide) ?_
  refine z_iadd B dL_law_300 ?_
  refine z_seti (y := 2) (by decide) ?_
  refine z_sld (j := 2) (x := x2) B hX hbl hbA (by decide) (show ¬ ((2 : Int32) < 0 ∨ 6 ≤ (2 : Int32).toNatClampNeg) by decide) h_x2 dL_law_301 ?_
  refine z_aload_n B dL_law_302 rfl 5 rfl ?_
  refine z_iload B dL_law_303 1 rfl ?_
  refine z_iconst (v := 3) B dL_law_305 (by decide) ?_
  refine z_iadd B dL_law_306 ?_
  refine z_seti (y := 3) (by decide) ?_
  refine z_sld (j := 3) (x := x3) B hX hbl hbA (by decide) (show ¬ ((3 : Int32) < 0 ∨ 6 ≤ (3 : Int32).toNatClampNeg) by decide) h_x3 dL_law_307 ?_
  refine z_aload_n B dL_law_308 rfl 5 rfl ?_
  refine z_iload B dL_law_309 1 rfl ?_
  refine z_iconst (v := 4) B dL_law_311 (by decide) ?_
  refine z_iadd B dL_law_312 ?_
  refine z_seti (y := 4) (by decide) ?_
  refine z_sld (j := 4) (x := x4) B hX hbl hbA (by decide) (show ¬ ((4 : Int32) < 0 ∨ 6 ≤ (4 : Int32).toNatClampNeg) by decide) h_x4 dL_law_313 ?_
  refine z_aload_n B dL_law_314 rfl 5 rfl ?_
  refine z_iload B dL_law_315 1 rfl ?_
  refine z_iconst (v := 5) B dL_law_317 (by decide) ?_
  refine z_iadd B dL_law_318 ?_
  refine z_seti (y := 5) (by decide) ?_
  refine z_sld (j := 5) (x := x5) B hX hbl hbA (by decide) (show ¬ ((5 : Int32) < 0 ∨ 6 ≤ (5 : Int32).toNatClampNeg) by decide) h_x5 dL_law_319 ?_
  refine z_cVi (As := [.int 2, .int x2, .int x3, .int x4, .int x5]) (rest := []) B cw_L_86 cx_10 dL_law_320 (ci_X9_check_495 l (σ := (ap b (wx_I (ap b (wx_I (ap b (wx_I (ap b (ap b (wx_I (ap b (wx_I (ap b (wx_I (ap b (ap b (ap b (ap b σ [] [] []) [] [] []) [] [] []) [] [] []) (b + 18) x2.toNatClampNeg x3) [] [] []) (b + 19) x2.toNatClampNeg x4) [] [] []) (b + 20) x2.toNatClampNeg x5) [] [] []) [] [] []) (b + 18) x2.toNatClampNeg y1) [] [] []) (b + 19) x2.toNatClampNeg y2) [] [] []) (b + 20) x2.toNatClampNeg y3) [] [(431, 0, 0)] [])) (b := b) (lyA (lyW (lyA (lyW (lyA (lyW (lyA (lyA (lyW (lyA (lyW (lyA (lyW (lyA (lyA (lyA (lyA hK))))))))))))))))) x2 x3 x4 x5 q1_x2 q2_x2 q1_x3 q2_x3 q1_x4 q2_x4 q1_x5 q2_x5 (rI_at 405 6 ((ux_a (by omega)).trans (rI_at 405 6 ((ux_a (by omega)).trans (rI_at 405 6 ((ux_a (by omega)).trans (rI_at 405 6 (rI_at 405 6 ((ux_a (by omega)).trans (rI_at 405 6 ((ux_a (by omega)).trans (rI_at 405 6 ((ux_a (by omega)).trans (rI_at 405 6 (rI_at 405 6 (rI_at 405 6 (rI_at 405 6 (fz_I hF 405 6 rfl rfl)))))))))))))))))) (rR_at 405 3 (rR_w (rR_at 405 3 (rR_w (rR_at 405 3 (rR_w (rR_at 405 3 (rR_at 405 3 (rR_w (rR_at 405 3 (rR_w (rR_at 405 3 (rR_w (rR_at 405 3 (rR_at 405 3 (rR_at 405 3 (rR_at 405 3 (fz_R hF 405 3 rfl rfl)))))))))))))))))) (rR_at 405 4 (rR_w (rR_at 405 4 (rR_w (rR_at 405 4 (rR_w (rR_at 405 4 (rR_at 405 4 (rR_w (rR_at 405 4 (rR_w (rR_at 405 4 (rR_w (rR_at 405 4 (rR_at 405 4 (rR_at 405 4 (rR_at 405 4 (fz_R hF 405 4 rfl rfl)))))))))))))))))) (rR_at 405 5 (rR_w (rR_at 405 5 (rR_w (rR_at 405 5 (rR_w (rR_at 405 5 (rR_at 405 5 (rR_w (rR_at 405 5 (rR_w (rR_at 405 5 (rR_w (rR_at 405 5 (rR_at 405 5 (rR_at 405 5 (rR_at 405 5 (fz_R hF 405 5 rfl rfl))))))))))))))))))) (lKA (lKW (lKA (lKW (lKA (lKW (lKA (lKA (lKW (lKA (lKW (lKA (lKW (lKA (lKA (lKA (lKA (hk_K hK 405 rfl rfl)))))))))))))))))) rfl (by decide) rfl (Nat.le_of_ble_eq_true rfl) (by decide) (fun r u hu => ?_)
  obtain ⟨y4, y5, y6, hu⟩ := hu
  refine z_eqs (σ' := (ap b (wx_I (ap b (wx_I (ap b (wx_I (ap b (ap b (wx_I (ap b (wx_I (ap b (wx_I (ap b (ap b (ap b (wx_I (ap b (wx_I (ap b (wx_I (ap b (ap b (wx_I (ap b (wx_I (ap b (wx_I (ap b (ap b (ap b (ap b σ [] [] []) [] [] []) [] [] []) [] [] []) (b + 18) x2.toNatClampNeg x3) [] [] []) (b + 19) x2.toNatClampNeg x4) [] [] []) (b + 20) x2.toNatClampNeg x5) [] [] []) [] [] []) (b + 18) x2.toNatClampNeg y1) [] [] []) (b + 19) x2.toNatClampNeg y2) [] [] []) (b + 20) x2.toNatClampNeg y3) [] [(431, 0, 0)] []) [(405, 0, 0)] [] []) [] [] []) (b + 406) (40 + x2).toNatClampNeg x3) [] [] []) (b + 407) (40 + x2).toNatClampNeg x4) [] [] []) (b + 408) (40 + x2).toNatClampNeg x5) [] [] []) [] [] []) (b + 406) (40 + x2).toNatClampNeg y4) [] [] []) (b + 407) (40 + x2).toNatClampNeg y5) [] [] []) (b + 408) (40 + x2).toNatClampNeg y6) [] [] [])) hu.2 ?_
  show zx p l e _ s m _ below meth c g 8 _ _ _ _ 323 [(5, .int 0), (4, .int 0), (3, .ref (b + 431)), (2, .ref (b + 405)), (1, .ref (b + 0)), (0, .ref bS)] _
  refine z_seti (y := 0) hu.1 ?_
  refine z_istore (lv' := [(6, .int 0), (5, .int 0), (4, .int 0), (3, .ref (b + 431)), (2, .ref (b + 405)), (1, .ref (b + 0)), (0, .ref bS)]) B dL_law_323 (by decide) rfl ?_
  refine z_aload_n B dL_law_325 rfl 4 rfl ?_
  refine z_cVi (As := []) (rest := []) B cw_L_80 cx_10 dL_law_326 (ci_X9_thrown_95 l (σ := (ap b (wx_I (ap b (wx_I (ap b (wx_I (ap b (ap b (wx_I (ap b (wx_I (ap b (wx_I (ap b (ap b (ap b (wx_I (ap b (wx_I (ap b (wx_I (ap b (ap b (wx_I (ap b (wx_I (ap b (wx_I (ap b (ap b (ap b (ap b σ [] [] []) [] [] []) [] [] []) [] [] []) (b + 18) x2.toNatClampNeg x3) [] [] []) (b + 19) x2.toNatClampNeg x4) [] [] []) (b + 20) x2.toNatClampNeg x5) [] [] []) [] [] []) (b + 18) x2.toNatClampNeg y1) [] [] []) (b + 19) x2.toNatClampNeg y2) [] [] []) (b + 20) x2.toNatClampNeg y3) [] [(431, 0, 0)] []) [(405, 0, 0)] [] []) [] [] []) (b + 406) (40 + x2).toNatClampNeg x3) [] [] []) (b + 407) (40 + x2).toNatClampNeg x4) [] [] []) (b + 408) (40 + x2).toNatClampNeg x5) [] [] []) [] [] []) (b + 406) (40 + x2).toNatClampNeg y4) [] [] []) (b + 407) (40 + x2).toNatClampNeg y5) [] [] []) (b + 408) (40 + x2).toNatClampNeg y6) [] [] [])) (b := b) (lyA (lyW (lyA (lyW (lyA (lyW (lyA (lyA (lyW (lyA (lyW (lyA (lyW (lyA (lyA (lyA (lyW (lyA (lyW (lyA (lyW (lyA (lyA (lyW (lyA (lyW (lyA (lyW (lyA (lyA (lyA (lyA hK)))))))))))))))))))))))))))))))) (rI_at 405 0 ((ux_a (by omega)).trans (rI_at 405 0 ((ux_a (by omega)).trans (rI_at 405 0 ((ux_a (by omega)).trans (rI_at 405 0 (rI_at 405 0 ((ux_a (by omega)).trans (rI_at 405 0 ((ux_a (by omega)).trans (rI_at 405 0 ((ux_a (by omega)).trans (rI_at 405 0 (rI_at 405 0 rfl)))))))))))))))) (lKA (lKW (lKA (lKW (lKA (lKW (lKA (lKA (lKW (lKA (lKW (lKA (lKW (lKA (lKA (lKA (lKW (lKA (lKW (lKA (lKW (lKA (lKA (lKW (lKA (lKW (lKA (lKW (lKA (lKA (lKA (lKA (hk_K hK 405 rfl rfl))))))))))))))))))))))))))))))))) rfl (by decide) rfl (Nat.le_of_ble_eq_true rfl) (by decide) (fun r u hu => ?_)
  refine z_eqs (σ' := (ap b (wx_I (ap b (wx_I (ap b (wx_I (ap b (ap b (wx_I (ap b (wx_I (ap b (wx_I (ap b (ap b (ap b (wx_I (ap b (wx_I (ap b (wx_I (ap b (ap b (wx_I (ap b (wx_I (ap b (wx_I (ap b (ap b (ap b (ap b σ [] [] []) [] [] []) [] [] []) [] [] []) (b + 18) x2.toNatClampNeg x3) [] [] []) (b + 19) x2.toNatClampNeg x4) [] [] []) (b + 20) x2.toNatClampNeg x5) [] [] []) [] [] []) (b + 18) x2.toNatClampNeg y1) [] [] []) (b + 19) x2.toNatClampNeg y2) [] [] []) (b + 20) x2.toNatClampNeg y3) [] [(431, 0, 0)] []) [(405, 0, 0)] [] []) [] [] []) (b + 406) (40 + x2).toNatClampNeg x3) [] [] []) (b + 407) (40 + x2).toNatClampNeg x4) [] [] []) (b + 408) (40 + x2).toNatClampNeg x5) [] [] []) [] [] []) (b + 406) (40 + x2).toNatClampNeg y4) [] [] []) (b + 407) (40 + x2).toNatClampNeg y5) [] [] []) (b + 408) (40 + x2).toNatClampNeg y6) [] [] [])) hu.2 ?_
  show zx p l e _ s m _ below meth c g 8 _ _ _ _ 329 [(6, .int 0), (5, .int 0), (4, .int 0), (3, .ref (b + 431)), (2, .ref (b + 405)), (1, .ref (b + 0)), (0, .ref bS)] _
  refine z_seti (y := 0) hu.1 ?_
  refine z_iload B dL_law_329 1 rfl ?_
  refine z_icmp_eq (tgt := 336) B dL_law_331 (by decide) (fun _ => ?_) (fun h => absurd (by decide) h)
  refine z_iload B dL_law_336 1 rfl ?_
  refine z_if_ne (tgt := 353) B dL_law_338 (by decide) (fun h => absurd (by decide) h) (fun _ => ?_)
  refine z_aload_n B dL_law_341 rfl 3 rfl ?_
  refine z_iconst (v := 0) B dL_law_342 (by decide) ?_
  refine z_lald (j := 0) (x := 0) B (lKA (lKW (lKA (lKW (lKA (lKW (lKA (lKA (lKW (lKA (lKW (lKA (lKW (lKA (lKA (lKA (lKW (lKA (lKW (lKA (lKW (lKA (lKA (lKW (lKA (lKW (lKA (lKW (lKA (lKA (lKA (lKA (hk_K hK 431 rfl rfl))))))))))))))))))))))))))))))))) (by decide) (in_of (lNA (lNW (lNA (lNW (lNA (lNW (lNA (lNA (lNW (lNA (lNW (lNA (lNW (lNA (lNA (lNA (lNW (lNA (lNW (lNA (lNW (lNA (lNA (lNW (lNA (lNW (lNA (lNW (lNA (lNA (lNA (lNA (hk_N hK 431 rfl rfl))))))))))))))))))))))))))))))))) (show ¬ ((0 : Int32) < 0 ∨ 1 ≤ (0 : Int32).toNatClampNeg) by decide)) (rJ_at 431 0 (rJ_w (rJ_at 431 0 (rJ_w (rJ_at 431 0 (rJ_w (rJ_at 431 0 (rJ_at 431 0 (rJ_w (rJ_at 431 0 (rJ_w (rJ_at 431 0 (rJ_w (rJ_at 431 0 (rJ_at 431 0 (rJ_at 431 0 rfl)))))))))))))))) dL_law_343 ?_
  refine z_iload B dL_law_344 0 rfl ?_
  refine z_i2l (v := 0) B dL_law_346 (by decide) ?_
  refine z_lcmp (v := 0) B dL_law_347 (by decide) ?_
  refine z_if_eq (tgt := 353) B dL_law_348 (by decide) (fun _ => ?_) (fun h => absurd (by decide) h)
  refine z_goto (tgt := 1395) B dL_law_353 (by decide) ?_
  exact z_widen (Nat.le_of_ble_eq_true rfl) (Nat.le_of_ble_eq_true rfl) (z_sub _ [2, 6] rfl (kk _))
set_option maxRecDepth 100000 in
set_option maxHeartbeats 4000000 in
theorem lf_1_200 {p : Program} {l : Launch} {e : Env} {s : State} {m : MethodId} {args : Array Value} {below : List Frame} {meth : Method} {c : Code} {g : gx_T} {Q : State → Prop} {σ : sx_T} {b t bS : Nat} {xs : Nat → Int32} (hlt : l.stackTraces = false) (B : zx_B p s m args meth c code RL 8 g) (hX : va_X bS 6 xs s s.heap) (hbl : bS < s.heap.size) (hbA : ¬ gx_b g ≤ bS) (hF : fz_P b t σ) (h_x1 : xs 1 = 2) {x2 : Int32} (h_x2 : xs 2 = x2) (q1_x2 : (0 : Int) ≤ x2.toInt) (q2_x2 : x2.toInt ≤ (19 : Int)) {x3 : Int32} (h_x3 : xs 3 = x3) (q1_x3 : (0 : Int) ≤ x3.toInt) (q2_x3 : x3.toInt ≤ (17 : Int)) {x4 : Int32} (h_x4 : xs 4 = x4) (q1_x4 : (0 : Int) ≤ x4.toInt) (q2_x4 : x4.toInt ≤ (99 : Int)) {x5 : Int32} (h_x5 : xs 5 = x5) (q1_x5 : (100 : Int) ≤ x5.toInt) (q2_x5 : x5.toInt ≤ (2147483647 : Int)) (kk : ∀ σ', zx p l e room_1 s m args below meth c g 8 600002 7302232 Q σ' 1395 [(4, .int 0), (0, .ref bS)] []) : zx p l e room_1 s m args below meth c g 8 500 100000 Q σ 252 [(4, .int 0), (3, .ref (b + 431)), (2, .ref (b + 405)), (1, .ref (b + 0)), (0, .ref bS)] [] := by
  have hK := fz_lay hF
  refine z_eqs (σ' := (ap b σ [] [] [])) rfl ?_
  refine z_aload_n B dL_law_252 rfl 3 rfl ?_
  refine z_aload_n B dL_law_253 rfl 4 rfl ?_
  refine z_iload B dL_law_254 0 rfl ?_
  refine z_iconst (v := 1) B dL_law_256 (by decide) ?_
  refine z_iadd B dL_law_257 ?_
  refine z_seti (y := 1) (by decide) ?_
  refine z_sld (j := 1) (x := 2) B hX hbl hbA (by decide) (show ¬ ((1 : Int32) < 0 ∨ 6 ≤ (1 : Int32).toNatClampNeg) by decide) h_x1 dL_law_258 ?_
  refine z_aload_n B dL_law_259 rfl 4 rfl ?_
  refine z_iload B dL_law_260 0 rfl ?_
  refine z_iconst (v := 2) B dL_law_262 (by decide) ?_
  refine z_iadd B dL_law_263 ?_
  refine z_seti (y := 2) (by decide) ?_
  refine z_sld (j := 2) (x := x2) B hX hbl hbA (by decide) (show ¬ ((2 : Int32) < 0 ∨ 6 ≤ (2 : Int32).toNatClampNeg) by decide) h_x2 dL_law_264 ?_
  refine z_aload_n B dL_law_265 rfl 4 rfl ?_
  refine z_iload B dL_law_266 0 rfl ?_
  refine z_iconst (v := 3) B dL_law_268 (by decide) ?_
  refine z_iadd B dL_law_269 ?_
  refine z_seti (y := 3) (by decide) ?_
  refine z_sld (j := 3) (x := x3) B hX hbl hbA (by decide) (show ¬ ((3 : Int32) < 0 ∨ 6 ≤ (3 : Int32).toNatClampNeg) by decide) h_x3 dL_law_270 ?_
  refine z_aload_n B dL_law_271 rfl 4 rfl ?_
  refine z_iload B dL_law_272 0 rfl ?_
  refine z_iconst (v := 4) B dL_law_274 (by decide) ?_
  refine z_iadd B dL_law_275 ?_
  refine z_seti (y := 4) (by decide) ?_
  refine z_sld (j := 4) (x := x4) B hX hbl hbA (by decide) (show ¬ ((4 : Int32) < 0 ∨ 6 ≤ (4 : Int32).toNatClampNeg) by decide) h_x4 dL_law_276 ?_
  refine z_aload_n B dL_law_277 rfl 4 rfl ?_
  refine z_iload B dL_law_278 0 rfl ?_
  refine z_iconst (v := 5) B dL_law_280 (by decide) ?_
  refine z_iadd B dL_law_281 ?_
  refine z_seti (y := 5) (by decide) ?_
  refine z_sld (j := 5) (x := x5) B hX hbl hbA (by decide) (show ¬ ((5 : Int32) < 0 ∨ 6 ≤ (5 : Int32).toNatClampNeg) by decide) h_x5 dL_law_282 ?_
  refine z_aload_n B dL_law_283 rfl 1 rfl ?_
  refine z_cSWi (As := [.ref (b + 0), .int 2, .int x2, .int x3, .int x4, .int x5, .ref (b + 431)]) (rest := []) B cw_L_84 dL_law_284 (ci_L_check_497 l hlt (σ := (ap b σ [] [] [])) (b := b) (lyA hK) x2 x3 x4 x5 q1_x2 q2_x2 q1_x3 q2_x3 q1_x4 q2_x4 q1_x5 q2_x5 (rR_at 0 0 (fz_R hF 0 0 rfl rfl)) (rR_at 1 2 (fz_R hF 1 2 rfl rfl))) rfl (by decide) rfl (Nat.le_of_ble_eq_true rfl) (by decide) (fun r u hu => ?_)
  obtain ⟨hu1, z, hu⟩ := hu
  refine z_eqs (σ' := (ap b (wx_Z σ z) [] [] [])) (hu.trans az_ap) ?_
  show zx p l e _ s m _ below meth c g 8 _ _ _ _ 287 [(4, .int 0), (3, .ref (b + 431)), (2, .ref (b + 405)), (1, .ref (b + 0)), (0, .ref bS)] _
  refine z_seti (y := 2) hu1 ?_
  refine z_istore (lv' := [(5, .int 2), (4, .int 0), (3, .ref (b + 431)), (2, .ref (b + 405)), (1, .ref (b + 0)), (0, .ref bS)]) B dL_law_287 (by decide) rfl ?_
  refine z_aload_n B dL_law_289 rfl 3 rfl ?_
  refine z_aload_n B dL_law_290 rfl 5 rfl ?_
  refine z_iload B dL_law_291 1 rfl ?_
  refine z_iconst (v := 1) B dL_law_293 (by decide) ?_
  refine z_iadd B dL_law_294 ?_
  refine z_seti (y := 1) (by decide) ?_
  refine z_sld (j := 1) (x := 2) B hX hbl hbA (by decide) (show ¬ ((1 : Int32) < 0 ∨ 6 ≤ (1 : Int32).toNatClampNeg) by decide) h_x1 dL_law_295 ?_
  refine z_aload_n B dL_law_296 rfl 5 rfl ?_
  refine z_iload B dL_law_297 1 rfl ?_
  refine z_iconst (v := 2) B dL_law_299 (by decide) ?_
  refine z_iadd B dL_law_300 ?_
  refine z_seti (y := 2) (by decide) ?_
  refine z_sld (j := 2) (x := x2) B hX hbl hbA (by decide) (show ¬ ((2 : Int32) < 0 ∨ 6 ≤ (2 : Int32).toNatClampNeg) by decide) h_x2 dL_law_301 ?_
  refine z_aload_n B dL_law_302 rfl 5 rfl ?_
  refine z_iload B dL_law_303 1 rfl ?_
  refine z_iconst (v := 3) B dL_law_305 (by decide) ?_
  refine z_iadd B dL_law_306 ?_
  refine z_seti (y := 3) (by decide) ?_
  refine z_sld (j := 3) (x := x3) B hX hbl hbA (by decide) (show ¬ ((3 : Int32) < 0 ∨ 6 ≤ (3 : Int32).toNatClampNeg) by decide) h_x3 dL_law_307 ?_
  refine z_aload_n B dL_law_308 rfl 5 rfl ?_
  refine z_iload B dL_law_309 1 rfl ?_
  refine z_iconst (v := 4) B dL_law_311 (by decide) ?_
  refine z_iadd B dL_law_312 ?_
  refine z_seti (y := 4) (by decide) ?_
  refine z_sld (j := 4) (x := x4) B hX hbl hbA (by decide) (show ¬ ((4 : Int32) < 0 ∨ 6 ≤ (4 : Int32).toNatClampNeg) by decide) h_x4 dL_law_313 ?_
  refine z_aload_n B dL_law_314 rfl 5 rfl ?_
  refine z_iload B dL_law_315 1 rfl ?_
  refine z_iconst (v := 5) B dL_law_317 (by decide) ?_
  refine z_iadd B dL_law_318 ?_
  refine z_seti (y := 5) (by decide) ?_
  refine z_sld (j := 5) (x := x5) B hX hbl hbA (by decide) (show ¬ ((5 : Int32) < 0 ∨ 6 ≤ (5 : Int32).toNatClampNeg) by decide) h_x5 dL_law_319 ?_
  refine z_cVi (As := [.int 2, .int x2, .int x3, .int x4, .int x5]) (rest := []) B cw_L_86 cx_10 dL_law_320 (ci_X9_check_498 l (σ := (ap b (wx_Z σ z) [] [] [])) (b := b) (lyA (lyZ hK)) x2 x3 x4 x5 q1_x2 q2_x2 q1_x3 q2_x3 q1_x4 q2_x4 q1_x5 q2_x5) (lKA (lKZ (hk_K hK 405 rfl rfl))) rfl (by decide) rfl (Nat.le_of_ble_eq_true rfl) (by decide) (fun r u hu => ?_)
  refine z_eqs (σ' := (ap b (wx_Z σ z) [(405, 0, 2)] [] [])) (hu.2.trans ap_ap) ?_
  show zx p l e _ s m _ below meth c g 8 _ _ _ _ 323 [(5, .int 2), (4, .int 0), (3, .ref (b + 431)), (2, .ref (b + 405)), (1, .ref (b + 0)), (0, .ref bS)] _
  refine z_seti (y := 0) hu.1 ?_
  refine z_istore (lv' := [(6, .int 0), (5, .int 2), (4, .int 0), (3, .ref (b + 431)), (2, .ref (b + 405)), (1, .ref (b + 0)), (0, .ref bS)]) B dL_law_323 (by decide) rfl ?_
  refine z_aload_n B dL_law_325 rfl 4 rfl ?_
  refine z_cVi (As := []) (rest := []) B cw_L_80 cx_10 dL_law_326 (ci_X9_thrown_73 l (σ := (ap b (wx_Z σ z) [(405, 0, 2)] [] [])) (b := b) (lyA (lyZ hK)) (rI_at 405 0 rfl)) (lKA (lKZ (hk_K hK 405 rfl rfl))) rfl (by decide) rfl (Nat.le_of_ble_eq_true rfl) (by decide) (fun r u hu => ?_)
  refine z_eqs (σ' := (ap b (wx_Z σ z) [(405, 0, 2)] [] [])) hu.2 ?_
  show zx p l e _ s m _ below meth c g 8 _ _ _ _ 329 [(6, .int 0), (5, .int 2), (4, .int 0), (3, .ref (b + 431)), (2, .ref (b + 405)), (1, .ref (b + 0)), (0, .ref bS)] _
  refine z_seti (y := 2) hu.1 ?_
  refine z_iload B dL_law_329 1 rfl ?_
  refine z_icmp_eq (tgt := 336) B dL_law_331 (by decide) (fun _ => ?_) (fun h => absurd (by decide) h)
  refine z_iload B dL_law_336 1 rfl ?_
  refine z_if_ne (tgt := 353) B dL_law_338 (by decide) (fun _ => ?_) (fun h => absurd h (by decide))
  refine z_goto (tgt := 1395) B dL_law_353 (by decide) ?_
  exact z_widen (Nat.le_of_ble_eq_true rfl) (Nat.le_of_ble_eq_true rfl) (z_sub _ [2, 6] rfl (kk _))
