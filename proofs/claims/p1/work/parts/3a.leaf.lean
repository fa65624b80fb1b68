set_option maxRecDepth 100000 in
set_option maxHeartbeats 4000000 in
theorem lf_0_0 {p : Program} {l : Launch} {e : Env} {s : State} {m : MethodId} {args : Array Value} {below : List Frame} {meth : Method} {c : Code} {g : gx_T} {Q : State → Prop} {σ : sx_T} {b t bS : Nat} {xs : Nat → Int32} (hlt : l.stackTraces = false) (B : zx_B p s m args meth c code RL 8 g) (hX : va_X bS 6 xs s s.heap) (hbl : bS < s.heap.size) (hbA : ¬ gx_b g ≤ bS) (hF : fz_P b t σ) {x1 : Int32} (h_x1 : xs 1 = x1) (q1_x1 : (-2147483648 : Int) ≤ x1.toInt) (q2_x1 : x1.toInt ≤ (-1 : Int)) {x2 : Int32} (h_x2 : xs 2 = x2) (q1_x2 : (-2147483648 : Int) ≤ x2.toInt) (q2_x2 : x2.toInt ≤ (2147483647 : Int)) {x3 : Int32} (h_x3 : xs 3 = x3) (q1_x3 : (-2147483648 : Int) ≤ x3.toInt) (q2_x3 : x3.toInt ≤ (-1 : Int)) {x4 : Int32} (h_x4 : xs 4 = x4) (q1_x4 : (-2147483648 : Int) ≤ x4.toInt) (q2_x4 : x4.toInt ≤ (2147483647 : Int)) {x5 : Int32} (h_x5 : xs 5 = x5) (q1_x5 : (-2147483648 : Int) ≤ x5.toInt) (q2_x5 : x5.toInt ≤ (2147483647 : Int)) (kk : ∀ σ', zx p l e room_1 s m args below meth c g 8 600002 7302232 Q σ' 1395 [(4, .int 0), (0, .ref bS)] []) : zx p l e room_1 s m args below meth c g 8 500 100000 Q σ 148 [(4, .int 0), (3, .ref (b + 431)), (2, .ref (b + 405)), (1, .ref (b + 0)), (0, .ref bS)] [] := by
  have hK := fz_lay hF
  refine z_eqs (σ' := (ap b σ [] [] [])) rfl ?_
  refine z_aload_n B dL_law_148 rfl 3 rfl ?_
  refine z_aload_n B dL_law_149 rfl 4 rfl ?_
  refine z_iload B dL_law_150 0 rfl ?_
  refine z_iconst (v := 1) B dL_law_152 (by decide) ?_
  refine z_iadd B dL_law_153 ?_
  refine z_seti (y := 1) (by decide) ?_
  refine z_sld (j := 1) (x := x1) B hX hbl hbA (by decide) (show ¬ ((1 : Int32) < 0 ∨ 6 ≤ (1 : Int32).toNatClampNeg) by decide) h_x1 dL_law_154 ?_
  refine z_aload_n B dL_law_155 rfl 4 rfl ?_
  refine z_iload B dL_law_156 0 rfl ?_
  refine z_iconst (v := 2) B dL_law_158 (by decide) ?_
  refine z_iadd B dL_law_159 ?_
  refine z_seti (y := 2) (by decide) ?_
  refine z_sld (j := 2) (x := x2) B hX hbl hbA (by decide) (show ¬ ((2 : Int32) < 0 ∨ 6 ≤ (2 : Int32).toNatClampNeg) by decide) h_x2 dL_law_160 ?_
  refine z_aload_n B dL_law_161 rfl 4 rfl ?_
  refine z_iload B dL_law_162 0 rfl ?_
  refine z_iconst (v := 3) B dL_law_164 (by decide) ?_
  refine z_iadd B dL_law_165 ?_
  refine z_seti (y := 3) (by decide) ?_
  refine z_sld (j := 3) (x := x3) B hX hbl hbA (by decide) (show ¬ ((3 : Int32) < 0 ∨ 6 ≤ (3 : Int32).toNatClampNeg) by decide) h_x3 dL_law_166 ?_
  refine z_aload_n B dL_law_167 rfl 4 rfl ?_
  refine z_iload B dL_law_168 0 rfl ?_
  refine z_iconst (v := 4) B dL_law_170 (by decide) ?_
  refine z_iadd B dL_law_171 ?_
  refine z_seti (y := 4) (by decide) ?_
  refine z_sld (j := 4) (x := x4) B hX hbl hbA (by decide) (show ¬ ((4 : Int32) < 0 ∨ 6 ≤ (4 : Int32).toNatClampNeg) by decide) h_x4 dL_law_172 ?_
  refine z_aload_n B dL_law_173 rfl 4 rfl ?_
  refine z_iload B dL_law_174 0 rfl ?_
  refine z_iconst (v := 5) B dL_law_176 (by decide) ?_
  refine z_iadd B dL_law_177 ?_
  refine z_seti (y := 5) (by decide) ?_
  refine z_sld (j := 5) (x := x5) B hX hbl hbA (by decide) (show ¬ ((5 : Int32) < 0 ∨ 6 ≤ (5 : Int32).toNatClampNeg) by decide) h_x5 dL_law_178 ?_
  refine z_aload_n B dL_law_179 rfl 1 rfl ?_
  refine z_cSWi (As := [.ref (b + 0), .int x1, .int x2, .int x3, .int x4, .int x5, .ref (b + 431)]) (rest := []) B cw_L_74 dL_law_180 (ci_L_set_24 l hlt (σ := (ap b σ [] [] [])) (b := b) (lyA hK) x1 x2 x3 x4 x5 q1_x1 q2_x1) rfl (by decide) rfl (Nat.le_of_ble_eq_true rfl) (by decide) (fun r u hu => ?_)
  obtain ⟨hu1, z, hu⟩ := hu
  refine z_eqs (σ' := (ap b (wx_Z σ z) [] [] [])) (hu.trans az_ap) ?_
  show zx p l e _ s m _ below meth c g 8 _ _ _ _ 183 [(4, .int 0), (3, .ref (b + 431)), (2, .ref (b + 405)), (1, .ref (b + 0)), (0, .ref bS)] _
  refine z_seti (y := 1) hu1 ?_
  refine z_istore (lv' := [(5, .int 1), (4, .int 0), (3, .ref (b + 431)), (2, .ref (b + 405)), (1, .ref (b + 0)), (0, .ref bS)]) B dL_law_183 (by decide) rfl ?_
  refine z_aload_n B dL_law_185 rfl 3 rfl ?_
  refine z_aload_n B dL_law_186 rfl 5 rfl ?_
  refine z_iload B dL_law_187 1 rfl ?_
  refine z_iconst (v := 1) B dL_law_189 (by decide) ?_
  refine z_iadd B dL_law_190 ?_
  refine z_seti (y := 1) (by decide) ?_
  refine z_sld (j := 1) (x := x1) B hX hbl hbA (by decide) (show ¬ ((1 : Int32) < 0 ∨ 6 ≤ (1 : Int32).toNatClampNeg) by decide) h_x1 dL_law_191 ?_
  refine z_aload_n B dL_law_192 rfl 5 rfl ?_
  refine z_iload B dL_law_193 1 rfl ?_
  refine z_iconst (v := 2) B dL_law_195 (by decide) ?_
  refine z_iadd B dL_law_196 ?_
  refine z_seti (y := 2) (by decide) ?_
  refine z_sld (j := 2) (x := x2) B hX hbl hbA (by decide) (show ¬ ((2 : Int32) < 0 ∨ 6 ≤ (2 : Int32).toNatClampNeg) by decide) h_x2 dL_law_197 ?_
  refine z_aload_n B dL_law_198 rfl 5 rfl ?_
  refine z_iload B dL_law_199 1 rfl ?_
  refine z_iconst (v := 3) B dL_law_201 (by decide) ?_
  refine z_iadd B dL_law_202 ?_
  refine z_seti (y := 3) (by decide) ?_
  refine z_sld (j := 3) (x := x3) B hX hbl hbA (by decide) (show ¬ ((3 : Int32) < 0 ∨ 6 ≤ (3 : Int32).toNatClampNeg) by decide) h_x3 dL_law_203 ?_
  refine z_aload_n B dL_law_204 rfl 5 rfl ?_
  refine z_iload B dL_law_205 1 rfl ?_
  refine z_iconst (v := 4) B dL_law_207 (by decide) ?_
  refine z_iadd B dL_law_208 ?_
  refine z_seti (y := 4) (by decide) ?_
  refine z_sld (j := 4) (x := x4) B hX hbl hbA (by decide) (show ¬ ((4 : Int32) < 0 ∨ 6 ≤ (4 : Int32).toNatClampNeg) by decide) h_x4 dL_law_209 ?_
  refine z_aload_n B dL_law_210 rfl 5 rfl ?_
  refine z_iload B dL_law_211 1 rfl ?_
  refine z_iconst (v := 5) B dL_law_213 (by decide) ?_
  refine z_iadd B dL_law_214 ?_
  refine z_seti (y := 5) (by decide) ?_
  refine z_sld (j := 5) (x := x5) B hX hbl hbA (by decide) (show ¬ ((5 : Int32) < 0 ∨ 6 ≤ (5 : Int32).toNatClampNeg) by decide) h_x5 dL_law_215 ?_
  refine z_cVi (As := [.int x1, .int x2, .int x3, .int x4, .int x5]) (rest := []) B cw_L_79 cx_10 dL_law_216 (ci_X9_set_30 l (σ := (ap b (wx_Z σ z) [] [] [])) (b := b) (lyA (lyZ hK)) x1 x2 x3 x4 x5 q1_x1 q2_x1 q1_x3 q2_x3) (lKA (lKZ (hk_K hK 405 rfl rfl))) rfl (by decide) rfl (Nat.le_of_ble_eq_true rfl) (by decide) (fun r u hu => ?_)
  refine z_eqs (σ' := (ap b (wx_Z σ z) [(405, 0, 1)] [] [])) (hu.2.trans ap_ap) ?_
  show zx p l e _ s m _ below meth c g 8 _ _ _ _ 219 [(5, .int 1), (4, .int 0), (3, .ref (b + 431)), (2, .ref (b + 405)), (1, .ref (b + 0)), (0, .ref bS)] _
  refine z_seti (y := 0) hu.1 ?_
  refine z_istore (lv' := [(6, .int 0), (5, .int 1), (4, .int 0), (3, .ref (b + 431)), (2, .ref (b + 405)), (1, .ref (b + 0)), (0, .ref bS)]) B dL_law_219 (by decide) rfl ?_
  refine z_aload_n B dL_law_221 rfl 4 rfl ?_
  refine z_cVi (As := []) (rest := []) B cw_L_80 cx_10 dL_law_222 (ci_X9_thrown_31 l (σ := (ap b (wx_Z σ z) [(405, 0, 1)] [] [])) (b := b) (lyA (lyZ hK)) (rI_at 405 0 rfl)) (lKA (lKZ (hk_K hK 405 rfl rfl))) rfl (by decide) rfl (Nat.le_of_ble_eq_true rfl) (by decide) (fun r u hu => ?_)
  refine z_eqs (σ' := (ap b (wx_Z σ z) [(405, 0, 1)] [] [])) hu.2 ?_
  show zx p l e _ s m _ below meth c g 8 _ _ _ _ 225 [(6, .int 0), (5, .int 1), (4, .int 0), (3, .ref (b + 431)), (2, .ref (b + 405)), (1, .ref (b + 0)), (0, .ref bS)] _
  refine z_seti (y := 1) hu.1 ?_
  refine z_iload B dL_law_225 1 rfl ?_
  refine z_icmp_eq (tgt := 232) B dL_law_227 (by decide) (fun _ => ?_) (fun h => absurd (by decide) h)
  refine z_iload B dL_law_232 1 rfl ?_
  refine z_if_ne (tgt := 249) B dL_law_234 (by decide) (fun _ => ?_) (fun h => absurd h (by decide))
  refine z_goto (tgt := 1395) B dL_law_249 (by decide) ?_
  exact z_widen (Nat.le_of_ble_eq_true rfl) (Nat.le_of_ble_eq_true rfl) (z_sub _ [2, 6] rfl (kk _))
set_option maxRecDepth 100000 in
set_option maxHeartbeats 4000000 in
theorem lf_0_1 {p : Program} {l : Launch} {e : Env} {s : State} {m : MethodId} {args : Array Value} {below : List Frame} {meth : Method} {c : Code} {g : gx_T} {Q : State → Prop} {σ : sx_T} {b t bS : Nat} {xs : Nat → Int32} (hlt : l.stackTraces = false) (B : zx_B p s m args meth c code RL 8 g) (hX : va_X bS 6 xs s s.heap) (hbl : bS < s.heap.size) (hbA : ¬ gx_b g ≤ bS) (hF : fz_P b t σ) {x1 : Int32} (h_x1 : xs 1 = x1) (q1_x1 : (-2147483648 : Int) ≤ x1.toInt) (q2_x1 : x1.toInt ≤ (-1 : Int)) {x2 : Int32} (h_x2 : xs 2 = x2) (q1_x2 : (-2147483648 : Int) ≤ x2.toInt) (q2_x2 : x2.toInt ≤ (2147483647 : Int)) {x3 : Int32} (h_x3 : xs 3 = x3) (q1_x3 : (0 : Int) ≤ x3.toInt) (q2_x3 : x3.toInt ≤ (17 : Int)) {x4 : Int32} (h_x4 : xs 4 = x4) (q1_x4 : (-2147483648 : Int) ≤ x4.toInt) (q2_x4 : x4.toInt ≤ (-1 : Int)) {x5 : Int32} (h_x5 : xs 5 = x5) (q1_x5 : (-2147483648 : Int) ≤ x5.toInt) (q2_x5 : x5.toInt ≤ (2147483647 : Int)) (kk : ∀ σ', zx p l e room_1 s m args below meth c g 8 600002 7302232 Q σ' 1395 [(4, .int 0), (0, .ref bS)] []) : zx p l e room_1 s m args below meth c g 8 500 100000 Q σ 148 [(4, .int 0), (3, .ref (b + 431)), (2, .ref (b + 405)), (1, .ref (b + 0)), (0, .ref bS)] [] := by
  have hK := fz_lay hF
  refine z_eqs (σ' := (ap b σ [] [] [])) rfl ?_
  refine z_aload_n B dL_law_148 rfl 3 rfl ?_
  refine z_aload_n B dL_law_149 rfl 4 rfl ?_
  refine z_iload B dL_law_150 0 rfl ?_
  refine z_iconst (v := 1) B dL_law_152 (by decide) ?_
  refine z_iadd B dL_law_153 ?_
  refine z_seti (y := 1) (by decide) ?_
  refine z_sld (j := 1) (x := x1) B hX hbl hbA (by decide) (show ¬ ((1 : Int32) < 0 ∨ 6 ≤ (1 : Int32).toNatClampNeg) by decide) h_x1 dL_law_154 ?_
  refine z_aload_n B dL_law_155 rfl 4 rfl ?_
  refine z_iload B dL_law_156 0 rfl ?_
  refine z_iconst (v := 2) B dL_law_158 (by decide) ?_
  refine z_iadd B dL_law_159 ?_
  refine z_seti (y := 2) (by decide) ?_
  refine z_sld (j := 2) (x := x2) B hX hbl hbA (by decide) (show ¬ ((2 : Int32) < 0 ∨ 6 ≤ (2 : Int32).toNatClampNeg) by decide) h_x2 dL_law_160 ?_
  refine z_aload_n B dL_law_161 rfl 4 rfl ?_
  refine z_iload B dL_law_162 0 rfl ?_
  refine z_iconst (v := 3) B dL_law_164 (by decide) ?_
  refine z_iadd B dL_law_165 ?_
  refine z_seti (y := 3) (by decide) ?_
  refine z_sld (j := 3) (x := x3) B hX hbl hbA (by decide) (show ¬ ((3 : Int32) < 0 ∨ 6 ≤ (3 : Int32).toNatClampNeg) by decide) h_x3 dL_law_166 ?_
  refine z_aload_n B dL_law_167 rfl 4 rfl ?_
  refine z_iload B dL_law_168 0 rfl ?_
  refine z_iconst (v := 4) B dL_law_170 (by decide) ?_
  refine z_iadd B dL_law_171 ?_
  refine z_seti (y := 4) (by decide) ?_
  refine z_sld (j := 4) (x := x4) B hX hbl hbA (by decide) (show ¬ ((4 : Int32) < 0 ∨ 6 ≤ (4 : Int32).toNatClampNeg) by decide) h_x4 dL_law_172 ?_
  refine z_aload_n B dL_law_173 rfl 4 rfl ?_
  refine z_iload B dL_law_174 0 rfl ?_
  refine z_iconst (v := 5) B dL_law_176 (by decide) ?_
  refine z_iadd B dL_law_177 ?_
  refine z_seti (y := 5) (by decide) ?_
  refine z_sld (j := 5) (x := x5) B hX hbl hbA (by decide) (show ¬ ((5 : Int32) < 0 ∨ 6 ≤ (5 : Int32).toNatClampNeg) by decide) h_x5 dL_law_178 ?_
  refine z_aload_n B dL_law_179 rfl 1 rfl ?_
  refine z_cSWi (As := [.ref (b + 0), .int x1, .int x2, .int x3, .int x4, .int x5, .ref (b + 431)]) (rest := []) B cw_L_74 dL_law_180 (ci_L_set_24 l hlt (σ := (ap b σ [] [] [])) (b := b) (lyA hK) x1 x2 x3 x4 x5 q1_x1 q2_x1) rfl (by decide) rfl (Nat.le_of_ble_eq_true rfl) (by decide) (fun r u hu => ?_)
  obtain ⟨hu1, z, hu⟩ := hu
  refine z_eqs (σ' := (ap b (wx_Z σ z) [] [] [])) (hu.trans az_ap) ?_
  show zx p l e _ s m _ below meth c g 8 _ _ _ _ 183 [(4, .int 0), (3, .ref (b + 431)), (2, .ref (b + 405)), (1, .ref (b + 0)), (0, .ref bS)] _
  refine z_seti (y := 1) hu1 ?_
  refine z_istore (lv' := [(5, .int 1), (4, .int 0), (3, .ref (b + 431)), (2, .ref (b + 405)), (1, .ref (b + 0)), (0, .ref bS)]) B dL_law_183 (by decide) rfl ?_
  refine z_aload_n B dL_law_185 rfl 3 rfl ?_
  refine z_aload_n B dL_law_186 rfl 5 rfl ?_
  refine z_iload B dL_law_187 1 rfl ?_
  refine z_iconst (v := 1) B dL_law_189 (by decide) ?_
  refine z_iadd B dL_law_190 ?_
  refine z_seti (y := 1) (by decide) ?_
  refine z_sld (j := 1) (x := x1) B hX hbl hbA (by decide) (show ¬ ((1 : Int32) < 0 ∨ 6 ≤ (1 : Int32).toNatClampNeg) by decide) h_x1 dL_law_191 ?_
  refine z_aload_n B dL_law_192 rfl 5 rfl ?_
  refine z_iload B dL_law_193 1 rfl ?_
  refine z_iconst (v := 2) B dL_law_195 (by decide) ?_
  refine z_iadd B dL_law_196 ?_
  refine z_seti (y := 2) (by decide) ?_
  refine z_sld (j := 2) (x := x2) B hX hbl hbA (by decide) (show ¬ ((2 : Int32) < 0 ∨ 6 ≤ (2 : Int32).toNatClampNeg) by decide) h_x2 dL_law_197 ?_
  refine z_aload_n B dL_law_198 rfl 5 rfl ?_
  refine z_iload B dL_law_199 1 rfl ?_
  refine z_iconst (v := 3) B dL_law_201 (by decide) ?_
  refine z_iadd B dL_law_202 ?_
  refine z_seti (y := 3) (by decide) ?_
  refine z_sld (j := 3) (x := x3) B hX hbl hbA (by decide) (show ¬ ((3 : Int32) < 0 ∨ 6 ≤ (3 : Int32).toNatClampNeg) by decide) h_x3 dL_law_203 ?_
  refine z_aload_n B dL_law_204 rfl 5 rfl ?_
  refine z_iload B dL_law_205 1 rfl ?_
  refine z_iconst (v := 4) B dL_law_207 (by decide) ?_
  refine z_iadd B dL_law_208 ?_
  refine z_seti (y := 4) (by decide) ?_
  refine z_sld (j := 4) (x := x4) B hX hbl hbA (by decide) (show ¬ ((4 : Int32) < 0 ∨ 6 ≤ (4 : Int32).toNatClampNeg) by decide) h_x4 dL_law_209 ?_
  refine z_aload_n B dL_law_210 rfl 5 rfl ?_
  refine z_iload B dL_law_211 1 rfl ?_
  refine z_iconst (v := 5) B dL_law_213 (by decide) ?_
  refine z_iadd B dL_law_214 ?_
  refine z_seti (y := 5) (by decide) ?_
  refine z_sld (j := 5) (x := x5) B hX hbl hbA (by decide) (show ¬ ((5 : Int32) < 0 ∨ 6 ≤ (5 : Int32).toNatClampNeg) by decide) h_x5 dL_law_215 ?_
  refine z_cVi (As := [.int x1, .int x2, .int x3, .int x4, .int x5]) (rest := []) B cw_L_79 cx_10 dL_law_216 (ci_X9_set_35 l (σ := (ap b (wx_Z σ z) [] [] [])) (b := b) (lyA (lyZ hK)) x1 x2 x3 x4 x5 q1_x1 q2_x1 q1_x3 q2_x3 q1_x4 q2_x4) (lKA (lKZ (hk_K hK 405 rfl rfl))) rfl (by decide) rfl (Nat.le_of_ble_eq_true rfl) (by decide) (fun r u hu => ?_)
  refine z_eqs (σ' := (ap b (wx_Z σ z) [(405, 0, 1)] [] [])) (hu.2.trans ap_ap) ?_
  show zx p l e _ s m _ below meth c g 8 _ _ _ _ 219 [(5, .int 1), (4, .int 0), (3, .ref (b + 431)), (2, .ref (b + 405)), (1, .ref (b + 0)), (0, .ref bS)] _
  refine z_seti (y := 0) hu.1 ?_
  refine z_istore (lv' := [(6, .int 0), (5, .int 1), (4, .int 0), (3, .ref (b + 431)), (2, .ref (b + 405)), (1, .ref (b + 0)), (0, .ref bS)]) B dL_law_219 (by decide) rfl ?_
  refine z_aload_n B dL_law_221 rfl 4 rfl ?_
  refine z_cVi (As := []) (rest := []) B cw_L_80 cx_10 dL_law_222 (ci_X9_thrown_31 l (σ := (ap b (wx_Z σ z) [(405, 0, 1)] [] [])) (b := b) (lyA (lyZ hK)) (rI_at 405 0 rfl)) (lKA (lKZ (hk_K hK 405 rfl rfl))) rfl (by decide) rfl (Nat.le_of_ble_eq_true rfl) (by decide) (fun r u hu => ?_)
  refine z_eqs (σ' := (ap b (wx_Z σ z) [(405, 0, 1)] [] [])) hu.2 ?_
  show zx p l e _ s m _ below meth c g 8 _ _ _ _ 225 [(6, .int 0), (5, .int 1), (4, .int 0), (3, .ref (b + 431)), (2, .ref (b + 405)), (1, .ref (b + 0)), (0, .ref bS)] _
  refine z_seti (y := 1) hu.1 ?_
  refine z_iload B dL_law_225 1 rfl ?_
  refine z_icmp_eq (tgt := 232) B dL_law_227 (by decide) (fun _ => ?_) (fun h => absurd (by decide) h)
  refine z_iload B dL_law_232 1 rfl ?_
  refine z_if_ne (tgt := 249) B dL_law_234 (by decide) (fun _ => ?_) (fun h => absurd h (by decide))
  refine z_goto (tgt := 1395) B dL_law_249 (by decide) ?_
  exact z_widen (Nat.le_of_ble_eq_true rfl) (Nat.le_of_ble_eq_true rfl) (z_sub _ [2, 6] rfl (kk _))
set_option maxRecDepth 100000 in
set_option maxHeartbeats 4000000 in
theorem lf_0_2 {p : Program} {l : Launch} {e : Env} {s : State} {m : MethodId} {args : Array Value} {below : List Frame} {meth : Method} {c : Code} {g : gx_T} {Q : State → Prop} {σ : sx_T} {b t bS : Nat} {xs : Nat → Int32} (hlt : l.stackTraces = false) (B : zx_B p s m args meth c code RL 8 g) (hX : va_X bS 6 xs s s.heap) (hbl : bS < s.heap.size) (hbA : ¬ gx_b g ≤ bS) (hF : fz_P b t σ) {x1 : Int32} (h_x1 : xs 1 = x1) (q1_x1 : (-2147483648 : Int) ≤ x1.toInt) (q2_x1 : x1.toInt ≤ (-1 : Int)) {x2 : Int32} (h_x2 : xs 2 = x2) (q1_x2 : (-2147483648 : Int) ≤ x2.toInt) (q2_x2 : x2.toInt ≤ (2147483647 : Int)) {x3 : Int32} (h_x3 : xs 3 = x3) (q1_x3 : (0 : Int) ≤ x3.toInt) (q2_x3 : x3.toInt ≤ (17 : Int)) {x4 : Int32} (h_x4 : xs 4 = x4) (q1_x4 : (0 : Int) ≤ x4.toInt) (q2_x4 : x4.toInt ≤ (99 : Int)) {x5 : Int32} (h_x5 : xs 5 = x5) (q1_x5 : (-2147483648 : Int) ≤ x5.toInt) (q2_x5 : x5.toInt ≤ (-1 : Int)) (kk : ∀ σ', zx p l e room_1 s m args below meth c g 8 600002 7302232 Q σ' 1395 [(4, .int 0), (0, .ref bS)] []) : zx p l e room_1 s m args below meth c g 8 500 100000 Q σ 148 [(4, .int 0), (3, .ref (b + 431)), (2, .ref (b + 405)), (1, .ref (b + 0)), (0, .ref bS)] [] := by
  have hK := fz_lay hF
  refine z_eqs (σ' := (ap b σ [] [] [])) rfl ?_
  refine z_aload_n B dL_law_148 rfl 3 rfl ?_
  refine z_aload_n B dL_law_149 rfl 4 rfl ?_
  refine z_iload B dL_law_150 0 rfl ?_
  refine z_iconst (v := 1) B dL_law_152 (by decide) ?_
  refine z_iadd B dL_law_153 ?_
  refine z_seti (y := 1) (by decide) ?_
  refine z_sld (j := 1) (x := x1) B hX hbl hbA (by decide) (show ¬ ((1 : Int32) < 0 ∨ 6 ≤ (1 : Int32).toNatClampNeg) by decide) h_x1 dL_law_154 ?_
  refine z_aload_n B dL_law_155 rfl 4 rfl ?_
  refine z_iload B dL_law_156 0 rfl ?_
  refine z_iconst (v := 2) B dL_law_158 (by decide) ?_
  refine z_iadd B dL_law_159 ?_
  refine z_seti (y := 2) (by decide) ?_
  refine z_sld (j := 2) (x := x2) B hX hbl hbA (by decide) (show ¬ ((2 : Int32) < 0 ∨ 6 ≤ (2 : Int32).toNatClampNeg) by decide) h_x2 dL_law_160 ?_
  refine z_aload_n B dL_law_161 rfl 4 rfl ?_
  refine z_iload B dL_law_162 0 rfl ?_
  refine z_iconst (v := 3) B dL_law_164 (by decide) ?_
  refine z_iadd B dL_law_165 ?_
  refine z_seti (y := 3) (by decide) ?_
  refine z_sld (j := 3) (x := x3) B hX hbl hbA (by decide) (show ¬ ((3 : Int32) < 0 ∨ 6 ≤ (3 : Int32).toNatClampNeg) by decide) h_x3 dL_law_166 ?_
  refine z_aload_n B dL_law_167 rfl 4 rfl ?_
  refine z_iload B dL_law_168 0 rfl ?_
  refine z_iconst (v := 4) B dL_law_170 (by decide) ?_
  refine z_iadd B dL_law_171 ?_
  refine z_seti (y := 4) (by decide) ?_
  refine z_sld (j := 4) (x := x4) B hX hbl hbA (by decide) (show ¬ ((4 : Int32) < 0 ∨ 6 ≤ (4 : Int32).toNatClampNeg) by decide) h_x4 dL_law_172 ?_
  refine z_aload_n B dL_law_173 rfl 4 rfl ?_
  refine z_iload B dL_law_174 0 rfl ?_
  refine z_iconst (v := 5) B dL_law_176 (by decide) ?_
  refine z_iadd B dL_law_177 ?_
  refine z_seti (y := 5) (by decide) ?_
  refine z_sld (j := 5) (x := x5) B hX hbl hbA (by decide) (show ¬ ((5 : Int32) < 0 ∨ 6 ≤ (5 : Int32).toNatClampNeg) by decide) h_x5 dL_law_178 ?_
  refine z_aload_n B dL_law_179 rfl 1 rfl ?_
  refine z_cSWi (As := [.ref (b + 0), .int x1, .int x2, .int x3, .int x4, .int x5, .ref (b + 431)]) (rest := []) B cw_L_74 dL_law_180 (ci_L_set_24 l hlt (σ := (ap b σ [] [] [])) (b := b) (lyA hK) x1 x2 x3 x4 x5 q1_x1 q2_x1) rfl (by decide) rfl (Nat.le_of_ble_eq_true rfl) (by decide) (fun r u hu => ?_)
  obtain ⟨hu1, z, hu⟩ := hu
  refine z_eqs (σ' := (ap b (wx_Z σ z) [] [] [])) (hu.trans az_ap) ?_
  show zx p l e _ s m _ below meth c g 8 _ _ _ _ 183 [(4, .int 0), (3, .ref (b + 431)), (2, .ref (b + 405)), (1, .ref (b + 0)), (0, .ref bS)] _
  refine z_seti (y := 1) hu1 ?_
  refine z_istore (lv' := [(5, .int 1), (4, .int 0), (3, .ref (b + 431)), (2, .ref (b + 405)), (1, .ref (b + 0)), (0, .ref bS)]) B dL_law_183 (by decide) rfl ?_
  refine z_aload_n B dL_law_185 rfl 3 rfl ?_
  refine z_aload_n B dL_law_186 rfl 5 rfl ?_
  refine z_iload B dL_law_187 1 rfl ?_
  refine z_iconst (v := 1) B dL_law_189 (by decide) ?_
  refine z_iadd B dL_law_190 ?_
  refine z_seti (y := 1) (by decide) ?_
  refine z_sld (j := 1) (x := x1) B hX hbl hbA (by decide) (show ¬ ((1 : Int32) < 0 ∨ 6 ≤ (1 : Int32).toNatClampNeg) by decide) h_x1 dL_law_191 ?_
  refine z_aload_n B dL_law_192 rfl 5 rfl ?_
  refine z_iload B dL_law_193 1 rfl ?_
  refine z_iconst (v := 2) B dL_law_195 (by decide) ?_
  refine z_iadd B dL_law_196 ?_
  refine z_seti (y := 2) (by decide) ?_
  refine z_sld (j := 2) (x := x2) B hX hbl hbA (by decide) (show ¬ ((2 : Int32) < 0 ∨ 6 ≤ (2 : Int32).toNatClampNeg) by decide) h_x2 dL_law_197 ?_
  refine z_aload_n B dL_law_198 rfl 5 rfl ?_
  refine z_iload B dL_law_199 1 rfl ?_
  refine z_iconst (v := 3) B dL_law_201 (by decide) ?_
  refine z_iadd B dL_law_202 ?_
  refine z_seti (y := 3) (by decide) ?_
  refine z_sld (j := 3) (x := x3) B hX hbl hbA (by decide) (show ¬ ((3 : Int32) < 0 ∨ 6 ≤ (3 : Int32).toNatClampNeg) by decide) h_x3 dL_law_203 ?_
  refine z_aload_n B dL_law_204 rfl 5 rfl ?_
  refine z_iload B dL_law_205 1 rfl ?_
  refine z_iconst (v := 4) B dL_law_207 (by decide) ?_
  refine z_iadd B dL_law_208 ?_
  refine z_seti (y := 4) (by decide) ?_
  refine z_sld (j := 4) (x := x4) B hX hbl hbA (by decide) (show ¬ ((4 : Int32) < 0 ∨ 6 ≤ (4 : Int32).toNatClampNeg) by decide) h_x4 dL_law_209 ?_
  refine z_aload_n B dL_law_210 rfl 5 rfl ?_
  refine z_iload B dL_law_211 1 rfl ?_
  refine z_iconst (v := 5) B dL_law_213 (by decide) ?_
  refine z_iadd B dL_law_214 ?_
  refine z_seti (y := 5) (by decide) ?_
  refine z_sld (j := 5) (x := x5) B hX hbl hbA (by decide) (show ¬ ((5 : Int32) < 0 ∨ 6 ≤ (5 : Int32).toNatClampNeg) by decide) h_x5 dL_law_215 ?_
  refine z_cVi (As := [.int x1, .int x2, .int x3, .int x4, .int x5]) (rest := []) B cw_L_79 cx_10 dL_law_216 (ci_X9_set_38 l (σ := (ap b (wx_Z σ z) [] [] [])) (b := b) (lyA (lyZ hK)) x1 x2 x3 x4 x5 q1_x1 q2_x1 q1_x3 q2_x3 q1_x4 q2_x4 q1_x5 q2_x5) (lKA (lKZ (hk_K hK 405 rfl rfl))) rfl (by decide) rfl (Nat.le_of_ble_eq_true rfl) (by decide) (fun r u hu => ?_)
  refine z_eqs (σ' := (ap b (wx_Z σ z) [(405, 0, 1)] [] [])) (hu.2.trans ap_ap) ?_
  show zx p l e _ s m _ below meth c g 8 _ _ _ _ 219 [(5, .int 1), (4, .int 0), (3, .ref (b + 431)), (2, .ref (b + 405)), (1, .ref (b + 0)), (0, .ref bS)] _
  refine z_seti (y := 0) hu.1 ?_
  refine z_istore (lv' := [(6, .int 0), (5, .int 1), (4, .int 0), (3, .ref (b + 431)), (2, .ref (b + 405)), (1, .ref (b + 0)), (0, .ref bS)]) B dL_law_219 (by decide) rfl ?_
  refine z_aload_n B dL_law_221 rfl 4 rfl ?_
  refine z_cVi (As := []) (rest := []) B cw_L_80 cx_10 dL_law_222 (ci_X9_thrown_31 l (σ := (ap b (wx_Z σ z) [(405, 0, 1)] [] [])) (b := b) (lyA (lyZ hK)) (rI_at 405 0 rfl)) (lKA (lKZ (hk_K hK 405 rfl rfl))) rfl (by decide) rfl (Nat.le_of_ble_eq_true rfl) (by decide) (fun r u hu => ?_)
  refine z_eqs (σ' := (ap b (wx_Z σ z) [(405, 0, 1)] [] [])) hu.2 ?_
  show zx p l e _ s m _ below meth c g 8 _ _ _ _ 225 [(6, .int 0), (5, .int 1), (4, .int 0), (3, .ref (b + 431)), (2, .ref (b + 405)), (1, .ref (b + 0)), (0, .ref bS)] _
  refine z_seti (y := 1) hu.1 ?_
  refine z_iload B dL_law_225 1 rfl ?_
  refine z_icmp_eq (tgt := 232) B dL_law_227 (by decide) (fun _ => ?_) (fun h => absurd (by decide) h)
  refine z_iload B dL_law_232 1 rfl ?_
  refine z_if_ne (tgt := 249) B dL_law_234 (by decide) (fun _ => ?_) (fun h => absurd h (by decide))
  refine z_goto (tgt := 1395) B dL_law_249 (by decide) ?_
  exact z_widen (Nat.le_of_ble_eq_true rfl) (Nat.le_of_ble_eq_true rfl) (z_sub _ [2, 6] rfl (kk _))
set_option maxRecDepth 100000 in
set_option maxHeartbeats 4000000 in
theorem lf_0_3 {p : Program} {l : Launch} {e : Env} {s : State} {m : MethodId} {args : Array Value} {below : List Frame} {meth : Method} {c : Code} {g : gx_T} {Q : State → Prop} {σ : sx_T} {b t bS : Nat} {xs : Nat → Int32} (hlt : l.stackTraces = false) (B : zx_B p s m args meth c code RL 8 g) (hX : va_X bS 6 xs s s.heap) (hbl : bS < s.heap.size) (hbA : ¬ gx_b g ≤ bS) (hF : fz_P b t σ) {x1 : Int32} (h_x1 : xs 1 = x1) (q1_x1 : (-2147483648 : Int) ≤ x1.toInt) (q2_x1 : x1.toInt ≤ (-1 : Int)) {x2 : Int32} (h_x2 : xs 2 = x2) (q1_x2 : (-2147483648 : Int) ≤ x2.toInt) (q2_x2 : x2.toInt ≤ (2147483647 : Int)) {x3 : Int32} (h_x3 : xs 3 = x3) (q1_x3 : (0 : Int) ≤ x3.toInt) (q2_x3 : x3.toInt ≤ (17 : Int)) {x4 : Int32} (h_x4 : xs 4 = x4) (q1_x4 : (0 : Int) ≤ x4.toInt) (q2_x4 : x4.toInt ≤ (99 : Int)) {x5 : Int32} (h_x5 : xs 5 = x5) (q1_x5 : (0 : Int) ≤ x5.toInt) (q2_x5 : x5.toInt ≤ (99 : Int)) (kk : ∀ σ', zx p l e room_1 s m args below meth c g 8 600002 7302232 Q σ' 1395 [(4, .int 0), (0, .ref bS)] []) : zx p l e room_1 s m args below meth c g 8 500 100000 Q σ 148 [(4, .int 0), (3, .ref (b + 431)), (2, .ref (b + 405)), (1, .ref (b + 0)), (0, .ref bS)] [] := by
  have hK := fz_lay hF
  refine z_eqs (σ' := (ap b σ [] [] [])) rfl ?_
  refine z_aload_n B dL_law_148 rfl 3 rfl ?_
  refine z_aload_n B dL_law_149 rfl 4 rfl ?_
  refine z_iload B dL_law_150 0 rfl ?_
  refine z_iconst (v := 1) B dL_law_152 (by decide) ?_
  refine z_iadd B dL_law_153 ?_
  refine z_seti (y := 1) (by decide) ?_
  refine z_sld (j := 1) (x := x1) B hX hbl hbA (by decide) (show ¬ ((1 : Int32) < 0 ∨ 6 ≤ (1 : Int32).toNatClampNeg) by decide) h_x1 dL_law_154 ?_
  refine z_aload_n B dL_law_155 rfl 4 rfl ?_
  refine z_iload B dL_law_156 0 rfl ?_
  refine z_iconst (v := 2) B dL_law_158 (by decide) ?_
  refine z_iadd B dL_law_159 ?_
  refine z_seti (y := 2) (by decide) ?_
  refine z_sld (j := 2) (x := x2) B hX hbl hbA (by decide) (show ¬ ((2 : Int32) < 0 ∨ 6 ≤ (2 : Int32).toNatClampNeg) by decide) h_x2 dL_law_160 ?_
  refine z_aload_n B dL_law_161 rfl 4 rfl ?_
  refine z_iload B dL_law_162 0 rfl ?_
  refine z_iconst (v := 3) B dL_law_164 (by decide) ?_
  refine z_iadd B dL_law_165 ?_
  refine z_seti (y := 3) (by decide) ?_
  refine z_sld (j := 3) (x := x3) B hX hbl hbA (by decide) (show ¬ ((3 : Int32) < 0 ∨ 6 ≤ (3 : Int32).toNatClampNeg) by decide) h_x3 dL_law_166 ?_
  refine z_aload_n B dL_law_167 rfl 4 rfl ?_
  refine z_iload B dL_law_168 0 rfl ?_
  refine z_iconst (v := 4) B dL_law_170 (by decide) ?_
  refine z_iadd B dL_law_171 ?_
  refine z_seti (y := 4) (by decide) ?_
  refine z_sld (j := 4) (x := x4) B hX hbl hbA (by decide) (show ¬ ((4 : Int32) < 0 ∨ 6 ≤ (4 : Int32).toNatClampNeg) by decide) h_x4 dL_law_172 ?_
  refine z_aload_n B dL_law_173 rfl 4 rfl ?_
  refine z_iload B dL_law_174 0 rfl ?_
  refine z_iconst (v := 5) B dL_law_176 (by decide) ?_
  refine z_iadd B dL_law_177 ?_
  refine z_seti (y := 5) (by decide) ?_
  refine z_sld (j := 5) (x := x5) B hX hbl hbA (by decide) (show ¬ ((5 : Int32) < 0 ∨ 6 ≤ (5 : Int32).toNatClampNeg) by decide) h_x5 dL_law_178 ?_
  refine z_aload_n B dL_law_179 rfl 1 rfl ?_
  refine z_cSWi (As := [.ref (b + 0), .int x1, .int x2, .int x3, .int x4, .int x5, .ref (b + 431)]) (rest := []) B cw_L_74 dL_law_180 (ci_L_set_24 l hlt (σ := (ap b σ [] [] [])) (b := b) (lyA hK) x1 x2 x3 x4 x5 q1_x1 q2_x1) rfl (by decide) rfl (Nat.le_of_ble_eq_true rfl) (by decide) (fun r u hu => ?_)
  obtain ⟨hu1, z, hu⟩ := hu
  refine z_eqs (σ' := (ap b (wx_Z σ z) [] [] [])) (hu.trans az_ap) ?_
  show zx p l e _ s m _ below meth c g 8 _ _ _ _ 183 [(4, .int 0), (3, .ref (b + 431)), (2, .ref (b + 405)), (1, .ref (b + 0)), (0, .ref bS)] _
  refine z_seti (y := 1) hu1 ?_
  refine z_istore (lv' := [(5, .int 1), (4, .int 0), (3, .ref (b + 431)), (2, .ref (b + 405)), (1, .ref (b + 0)), (0, .ref bS)]) B dL_law_183 (by decide) rfl ?_
  refine z_aload_n B dL_law_185 rfl 3 rfl ?_
  refine z_aload_n B dL_law_186 rfl 5 rfl ?_
  refine z_iload B dL_law_187 1 rfl ?_
  refine z_iconst (v := 1) B dL_law_189 (by decide) ?_
  refine z_iadd B dL_law_190 ?_
  refine z_seti (y := 1) (by decide) ?_
  refine z_sld (j := 1) (x := x1) B hX hbl hbA (by decide) (show ¬ ((1 : Int32) < 0 ∨ 6 ≤ (1 : Int32).toNatClampNeg) by decide) h_x1 dL_law_191 ?_
  refine z_aload_n B dL_law_192 rfl 5 rfl ?_
  refine z_iload B dL_law_193 1 rfl ?_
  refine z_iconst (v := 2) B dL_law_195 (by decide) ?_
  refine z_iadd B dL_law_196 ?_
  refine z_seti (y := 2) (by decide) ?_
  refine z_sld (j := 2) (x := x2) B hX hbl hbA (by decide) (show ¬ ((2 : Int32) < 0 ∨ 6 ≤ (2 : Int32).toNatClampNeg) by decide) h_x2 dL_law_197 ?_
  refine z_aload_n B dL_law_198 rfl 5 rfl ?_
  refine z_iload B dL_law_199 1 rfl ?_
  refine z_iconst (v := 3) B dL_law_201 (by decide) ?_
  refine z_iadd B dL_law_202 ?_
  refine z_seti (y := 3) (by decide) ?_
  refine z_sld (j := 3) (x := x3) B hX hbl hbA (by decide) (show ¬ ((3 : Int32) < 0 ∨ 6 ≤ (3 : Int32).toNatClampNeg) by decide) h_x3 dL_law_203 ?_
  refine z_aload_n B dL_law_204 rfl 5 rfl ?_
  refine z_iload B dL_law_205 1 rfl ?_
  refine z_iconst (v := 4) B dL_law_207 (by decide) ?_
  refine z_iadd B dL_law_208 ?_
  refine z_seti (y := 4) (by decide) ?_
  refine z_sld (j := 4) (x := x4) B hX hbl hbA (by decide) (show ¬ ((4 : Int32) < 0 ∨ 6 ≤ (4 : Int32).toNatClampNeg) by decide) h_x4 dL_law_209 ?_
  refine z_aload_n B dL_law_210 rfl 5 rfl ?_
  refine z_iload B dL_law_211 1 rfl ?_
  refine z_iconst (v := 5) B dL_law_213 (by decide) ?_
  refine z_iadd B dL_law_214 ?_
  refine z_seti (y := 5) (by decide) ?_
  refine z_sld (j := 5) (x := x5) B hX hbl hbA (by decide) (show ¬ ((5 : Int32) < 0 ∨ 6 ≤ (5 : Int32).toNatClampNeg) by decide) h_x5 dL_law_215 ?_
  refine z_cVi (As := [.int x1, .int x2, .int x3, .int x4, .int x5]) (rest := []) B cw_L_79 cx_10 dL_law_216 (ci_X9_set_41 l (σ := (ap b (wx_Z σ z) [] [] [])) (b := b) (lyA (lyZ hK)) x1 x2 x3 x4 x5 q1_x1 q2_x1 q1_x3 q2_x3 q1_x4 q2_x4 q1_x5 q2_x5) (lKA (lKZ (hk_K hK 405 rfl rfl))) rfl (by decide) rfl (Nat.le_of_ble_eq_true rfl) (by decide) (fun r u hu => ?_)
  refine z_eqs (σ' := (ap b (wx_Z σ z) [(405, 0, 1)] [] [])) (hu.2.trans ap_ap) ?_
  show zx p l e _ s m _ below meth c g 8 _ _ _ _ 219 [(5, .int 1), (4, .int 0), (3, .ref (b + 431)), (2, .ref (b + 405)), (1, .ref (b + 0)), (0, .ref bS)] _
  refine z_seti (y := 0) hu.1 ?_
  refine z_istore (lv' := [(6, .int 0), (5, .int 1), (4, .int 0), (3, .ref (b + 431)), (2, .ref (b + 405)), (1, .ref (b + 0)), (0, .ref bS)]) B dL_law_219 (by decide) rfl ?_
  refine z_aload_n B dL_law_221 rfl 4 rfl ?_
  refine z_cVi (As := []) (rest := []) B cw_L_80 cx_10 dL_law_222 (ci_X9_thrown_31 l (σ := (ap b (wx_Z σ z) [(405, 0, 1)] [] [])) (b := b) (lyA (lyZ hK)) (rI_at 405 0 rfl)) (lKA (lKZ (hk_K hK 405 rfl rfl))) rfl (by decide) rfl (Nat.le_of_ble_eq_true rfl) (by decide) (fun r u hu => ?_)
  refine z_eqs (σ' := (ap b (wx_Z σ z) [(405, 0, 1)] [] [])) hu.2 ?_
  show zx p l e _ s m _ below meth c g 8 _ _ _ _ 225 [(6, .int 0), (5, .int 1), (4, .int 0), (3, .ref (b + 431)), (2, .ref (b + 405)), (1, .ref (b + 0)), (0, .ref bS)] _
  refine z_seti (y := 1) hu.1 ?_
  refine z_iload B dL_law_225 1 rfl ?_
  refine z_icmp_eq (tgt := 232) B dL_law_227 (by decide) (fun _ => ?_) (fun h => absurd (by decide) h)
  refine z_iload B dL_law_232 1 rfl ?_
  refine z_if_ne (tgt := 249) B dL_law_234 (by decide) (fun _ => ?_) (fun h => absurd h (by decide))
  refine z_goto (tgt := 1395) B dL_law_249 (by decide) ?_
  exact z_widen (Nat.le_of_ble_eq_true rfl) (Nat.le_of_ble_eq_true rfl) (z_sub _ [2, 6] rfl (kk _))
set_option maxRecDepth 100000 in
set_option maxHeartbeats 4000000 in
theorem lf_0_4 {p : Program} {l : Launch} {e : Env} {s : State} {m : MethodId} {args : Array Value} {below : List Frame} {meth : Method} {c : Code} {g : gx_T} {Q : State → Prop} {σ : sx_T} {b t bS : Nat} {xs : Nat → Int32} (hlt : l.stackTraces = false) (B : zx_B p s m args meth c code RL 8 g) (hX : va_X bS 6 xs s s.heap) (hbl : bS < s.heap.size) (hbA : ¬ gx_b g ≤ bS) (hF : fz_P b t σ) {x1 : Int32} (h_x1 : xs 1 = x1) (q1_x1 : (-2147483648 : Int) ≤ x1.toInt) (q2_x1 : x1.toInt ≤ (-1 : Int)) {x2 : Int32} (h_x2 : xs 2 = x2) (q1_x2 : (-2147483648 : Int) ≤ x2.toInt) (q2_x2 : x2.toInt ≤ (2147483647 : Int)) {x3 : Int32} (h_x3 : xs 3 = x3) (q1_x3 : (0 : Int) ≤ x3.toInt) (q2_x3 : x3.toInt ≤ (17 : Int)) {x4 : Int32} (h_x4 : xs 4 = x4) (q1_x4 : (0 : Int) ≤ x4.toInt) (q2_x4 : x4.toInt ≤ (99 : Int)) {x5 : Int32} (h_x5 : xs 5 = x5) (q1_x5 : (100 : Int) ≤ x5.toInt) (q2_x5 : x5.toInt ≤ (2147483647 : Int)) (kk : ∀ σ', zx p l e room_1 s m args below meth c g 8 600002 7302232 Q σ' 1395 [(4, .int 0), (0, .ref bS)] []) : zx p l e room_1 s m args below meth c g 8 500 100000 Q σ 148 [(4, .int 0), (3, .ref (b + 431)), (2, .ref (b + 405)), (1, .ref (b + 0)), (0, .ref bS)] [] := by
  have hK := fz_lay hF
  refine z_eqs (σ' := (ap b σ [] [] [])) rfl ?_
  refine z_aload_n B dL_law_148 rfl 3 rfl ?_
  refine z_aload_n B dL_law_149 rfl 4 rfl ?_
  refine z_iload B dL_law_150 0 rfl ?_
  refine z_iconst (v := 1) B dL_law_152 (by decide) ?_
  refine z_iadd B dL_law_153 ?_
  refine z_seti (y := 1) (by decide) ?_
  refine z_sld (j := 1) (x := x1) B hX hbl hbA (by decide) (show ¬ ((1 : Int32) < 0 ∨ 6 ≤ (1 : Int32).toNatClampNeg) by decide) h_x1 dL_law_154 ?_
  refine z_aload_n B dL_law_155 rfl 4 rfl ?_
  refine z_iload B dL_law_156 0 rfl ?_
  refine z_iconst (v := 2) B dL_law_158 (by decide) ?_
  refine z_iadd B dL_law_159 ?_
  refine z_seti (y := 2) (by decide) ?_
  refine z_sld (j := 2) (x := x2) B hX hbl hbA (by decide) (show ¬ ((2 : Int32) < 0 ∨ 6 ≤ (2 : Int32).toNatClampNeg) by decide) h_x2 dL_law_160 ?_
  refine z_aload_n B dL_law_161 rfl 4 rfl ?_
  refine z_iload B dL_law_162 0 rfl ?_
  refine z_iconst (v := 3) B dL_law_164 (by decide) ?_
  refine z_iadd B dL_law_165 ?_
  refine z_seti (y := 3) (by decide) ?_
  refine z_sld (j := 3) (x := x3) B hX hbl hbA (by decide) (show ¬ ((3 : Int32) < 0 ∨ 6 ≤ (3 : Int32).toNatClampNeg) by decide) h_x3 dL_law_166 ?_
  refine z_aload_n B dL_law_167 rfl 4 rfl ?_
  refine z_iload B dL_law_168 0 rfl ?_
  refine z_iconst (v := 4) B dL_law_170 (by decide) ?_
  refine z_iadd B dL_law_171 ?_
  refine z_seti (y := 4) (by decide) ?_
  refine z_sld (j := 4) (x := x4) B hX hbl hbA (by decide) (show ¬ ((4 : Int32) < 0 ∨ 6 ≤ (4 : Int32).toNatClampNeg) by decide) h_x4 dL_law_172 ?_
  refine z_aload_n B dL_law_173 rfl 4 rfl ?_
  refine z_iload B dL_law_174 0 rfl ?_
  refine z_iconst (v := 5) B dL_law_176 (by decide) ?_
  refine z_iadd B dL_law_177 ?_
  refine z_seti (y := 5) (by decide) ?_
  refine z_sld (j := 5) (x := x5) B hX hbl hbA (by decide) (show ¬ ((5 : Int32) < 0 ∨ 6 ≤ (5 : Int32).toNatClampNeg) by decide) h_x5 dL_law_178 ?_
  refine z_aload_n B dL_law_179 rfl 1 rfl ?_
  refine z_cSWi (As := [.ref (b + 0), .int x1, .int x2, .int x3, .int x4, .int x5, .ref (b + 431)]) (rest := []) B cw_L_74 dL_law_180 (ci_L_set_24 l hlt (σ := (ap b σ [] [] [])) (b := b) (lyA hK) x1 x2 x3 x4 x5 q1_x1 q2_x1) rfl (by decide) rfl (Nat.le_of_ble_eq_true rfl) (by decide) (fun r u hu => ?_)
  obtain ⟨hu1, z, hu⟩ := hu
  refine z_eqs (σ' := (ap b (wx_Z σ z) [] [] [])) (hu.trans az_ap) ?_
  show zx p l e _ s m _ below meth c g 8 _ _ _ _ 183 [(4, .int 0), (3, .ref (b + 431)), (2, .ref (b + 405)), (1, .ref (b + 0)), (0, .ref bS)] _
  refine z_seti (y := 1) hu1 ?_
  refine z_istore (lv' := [(5, .int 1), (4, .int 0), (3, .ref (b + 431)), (2, .ref (b + 405)), (1, .ref (b + 0)), (0, .ref bS)]) B dL_law_183 (by decide) rfl ?_
  refine z_aload_n B dL_law_185 rfl 3 rfl ?_
  refine z_aload_n B dL_law_186 rfl 5 rfl ?_
  refine z_iload B dL_law_187 1 rfl ?_
  refine z_iconst (v := 1) B dL_law_189 (by decide) ?_
  refine z_iadd B dL_law_190 ?_
  refine z_seti (y := 1) (by decide) ?_
  refine z_sld (j := 1) (x := x1) B hX hbl hbA (by decide) (show ¬ ((1 : Int32) < 0 ∨ 6 ≤ (1 : Int32).toNatClampNeg) by decide) h_x1 dL_law_191 ?_
  refine z_aload_n B dL_law_192 rfl 5 rfl ?_
  refine z_iload B dL_law_193 1 rfl ?_
  refine z_iconst (v := 2) B dL_law_195 (by decide) ?_
  refine z_iadd B dL_law_196 ?_
  refine z_seti (y := 2) (by decide) ?_
  refine z_sld (j := 2) (x := x2) B hX hbl hbA (by decide) (show ¬ ((2 : Int32) < 0 ∨ 6 ≤ (2 : Int32).toNatClampNeg) by decide) h_x2 dL_law_197 ?_
  refine z_aload_n B dL_law_198 rfl 5 rfl ?_
  refine z_iload B dL_law_199 1 rfl ?_
  refine z_iconst (v := 3) B dL_law_201 (by decide) ?_
  refine z_iadd B dL_law_202 ?_
  refine z_seti (y := 3) (by decide) ?_
  refine z_sld (j := 3) (x := x3) B hX hbl hbA (by decide) (show ¬ ((3 : Int32) < 0 ∨ 6 ≤ (3 : Int32).toNatClampNeg) by decide) h_x3 dL_law_203 ?_
  refine z_aload_n B dL_law_204 rfl 5 rfl ?_
  refine z_iload B dL_law_205 1 rfl ?_
  refine z_iconst (v := 4) B dL_law_207 (by decide) ?_
  refine z_iadd B dL_law_208 ?_
  refine z_seti (y := 4) (by decide) ?_
  refine z_sld (j := 4) (x := x4) B hX hbl hbA (by decide) (show ¬ ((4 : Int32) < 0 ∨ 6 ≤ (4 : Int32).toNatClampNeg) by decide) h_x4 dL_law_209 ?_
  refine z_aload_n B dL_law_210 rfl 5 rfl ?_
  refine z_iload B dL_law_211 1 rfl ?_
  refine z_iconst (v := 5) B dL_law_213 (by decide) ?_
  refine z_iadd B dL_law_214 ?_
  refine z_seti (y := 5) (by decide) ?_
  refine z_sld (j := 5) (x := x5) B hX hbl hbA (by decide) (show ¬ ((5 : Int32) < 0 ∨ 6 ≤ (5 : Int32).toNatClampNeg) by decide) h_x5 dL_law_215 ?_
  refine z_cVi (As := [.int x1, .int x2, .int x3, .int x4, .int x5]) (rest := []) B cw_L_79 cx_10 dL_law_216 (ci_X9_set_44 l (σ := (ap b (wx_Z σ z) [] [] [])) (b := b) (lyA (lyZ hK)) x1 x2 x3 x4 x5 q1_x1 q2_x1 q1_x3 q2_x3 q1_x4 q2_x4 q1_x5 q2_x5) (lKA (lKZ (hk_K hK 405 rfl rfl))) rfl (by decide) rfl (Nat.le_of_ble_eq_true rfl) (by decide) (fun r u hu => ?_)
  refine z_eqs (σ' := (ap b (wx_Z σ z) [(405, 0, 1)] [] [])) (hu.2.trans ap_ap) ?_
  show zx p l e _ s m _ below meth c g 8 _ _ _ _ 219 [(5, .int 1), (4, .int 0), (3, .ref (b + 431)), (2, .ref (b + 405)), (1, .ref (b + 0)), (0, .ref bS)] _
  refine z_seti (y := 0) hu.1 ?_
  refine z_istore (lv' := [(6, .int 0), (5, .int 1), (4, .int 0), (3, .ref (b + 431)), (2, .ref (b + 405)), (1, .ref (b + 0)), (0, .ref bS)]) B dL_law_219 (by decide) rfl ?_
  refine z_aload_n B dL_law_221 rfl 4 rfl ?_
  refine z_cVi (As := []) (rest := []) B cw_L_80 cx_10 dL_law_222 (ci_X9_thrown_31 l (σ := (ap b (wx_Z σ z) [(405, 0, 1)] [] [])) (b := b) (lyA (lyZ hK)) (rI_at 405 0 rfl)) (lKA (lKZ (hk_K hK 405 rfl rfl))) rfl (by decide) rfl (Nat.le_of_ble_eq_true rfl) (by decide) (fun r u hu => ?_)
  refine z_eqs (σ' := (ap b (wx_Z σ z) [(405, 0, 1)] [] [])) hu.2 ?_
  show zx p l e _ s m _ below meth c g 8 _ _ _ _ 225 [(6, .int 0), (5, .int 1), (4, .int 0), (3, .ref (b + 431)), (2, .ref (b + 405)), (1, .ref (b + 0)), (0, .ref bS)] _
  refine z_seti (y := 1) hu.1 ?_
  refine z_iload B dL_law_225 1 rfl ?_
  refine z_icmp_eq (tgt := 232) B dL_law_227 (by decide) (fun _ => ?_) (fun h => absurd (by decide) h)
  refine z_iload B dL_law_232 1 rfl ?_
  refine z_if_ne (tgt := 249) B dL_law_234 (by decide) (fun _ => ?_) (fun h => absurd h (by decide))
  refine z_goto (tgt := 1395) B dL_law_249 (by decide) ?_
  exact z_widen (Nat.le_of_ble_eq_true rfl) (Nat.le_of_ble_eq_true rfl) (z_sub _ [2, 6] rfl (kk _))
set_option maxRecDepth 100000 in
set_option maxHeartbeats 4000000 in
theorem lf_0_5 {p : Program} {l : Launch} {e : Env} {s : State} {m : MethodId} {args : Array Value} {below : List Frame} {meth : Method} {c : Code} {g : gx_T} {Q : State → Prop} {σ : sx_T} {b t bS : Nat} {xs : Nat → Int32} (hlt : l.stackTraces = false) (B : zx_B p s m args meth c code RL 8 g) (hX : va_X bS 6 xs s s.heap) (hbl : bS < s.heap.size) (hbA : ¬ gx_b g ≤ bS) (hF : fz_P b t σ) {x1 : Int32} (h_x1 : xs 1 = x1) (q1_x1 : (-2147483648 : Int) ≤ x1.toInt) (q2_x1 : x1.toInt ≤ (-1 : Int)) {x2 : Int32} (h_x2 : xs 2 = x2) (q1_x2 : (-2147483648 : Int) ≤ x2.toInt) (q2_x2 : x2.toInt ≤ (2147483647 : Int)) {x3 : Int32} (h_x3 : xs 3 = x3) (q1_x3 : (0 : Int) ≤ x3.toInt) (q2_x3 : x3.toInt ≤ (17 : Int)) {x4 : Int32} (h_x4 : xs 4 = x4) (q1_x4 : (100 : Int) ≤ x4.toInt) (q2_x4 : x4.toInt ≤ (2147483647 : Int)) {x5 : Int32} (h_x5 : xs 5 = x5) (q1_x5 : (-2147483648 : Int) ≤ x5.toInt) (q2_x5 : x5.toInt ≤ (2147483647 : Int)) (kk : ∀ σ', zx p l e room_1 s m args below meth c g 8 600002 7302232 Q σ' 1395 [(4, .int 0), (0, .ref bS)] []) : zx p l e room_1 s m args below meth c g 8 500 100000 Q σ 148 [(4, .int 0), (3, .ref (b + 431)), (2, .ref (b + 405)), (1, .ref (b + 0)), (0, .ref bS)] [] := by
  have hK := fz_lay hF
  refine z_eqs (σ' := (ap b σ [] [] [])) rfl ?_
  refine z_aload_n B dL_law_148 rfl 3 rfl ?_
  refine z_aload_n B dL_law_149 rfl 4 rfl ?_
  refine z_iload B dL_law_150 0 rfl ?_
  refine z_iconst (v := 1) B dL_law_152 (by decide) ?_
  refine z_iadd B dL_law_153 ?_
  refine z_seti (y := 1) (by decide) ?_
  refine z_sld (j := 1) (x := x1) B hX hbl hbA (by decide) (show ¬ ((1 : Int32) < 0 ∨ 6 ≤ (1 : Int32).toNatClampNeg) by decide) h_x1 dL_law_154 ?_
  refine z_aload_n B dL_law_155 rfl 4 rfl ?_
  refine z_iload B dL_law_156 0 rfl ?_
  refine z_iconst (v := 2) B dL_law_158 (by decide) ?_
  refine z_iadd B dL_law_159 ?_
  refine z_seti (y := 2) (by decide) ?_
  refine z_sld (j := 2) (x := x2) B hX hbl hbA (by decide) (show ¬ ((2 : Int32) < 0 ∨ 6 ≤ (2 : Int32).toNatClampNeg) by decide) h_x2 dL_law_160 ?_
  refine z_aload_n B dL_law_161 rfl 4 rfl ?_
  refine z_iload B dL_law_162 0 rfl ?_
  refine z_iconst (v := 3) B dL_law_164 (by decide) ?_
  refine z_iadd B dL_law_165 ?_
  refine z_seti (y := 3) (by decide) ?_
  refine z_sld (j := 3) (x := x3) B hX hbl hbA (by decide) (show ¬ ((3 : Int32) < 0 ∨ 6 ≤ (3 : Int32).toNatClampNeg) by decide) h_x3 dL_law_166 ?_
  refine z_aload_n B dL_law_167 rfl 4 rfl ?_
  refine z_iload B dL_law_168 0 rfl ?_
  refine z_iconst (v := 4) B dL_law_170 (by decide) ?_
  refine z_iadd B dL_law_171 ?_
  refine z_seti (y := 4) (by decide) ?_
  refine z_sld (j := 4) (x := x4) B hX hbl hbA (by decide) (show ¬ ((4 : Int32) < 0 ∨ 6 ≤ (4 : Int32).toNatClampNeg) by decide) h_x4 dL_law_172 ?_
  refine z_aload_n B dL_law_173 rfl 4 rfl ?_
  refine z_iload B dL_law_174 0 rfl ?_
  refine z_iconst (v := 5) B dL_law_176 (by decide) ?_
  refine z_iadd B dL_law_177 ?_
  refine z_seti (y := 5) (by decide) ?_
  refine z_sld (j := 5) (x := x5) B hX hbl hbA (by decide) (show ¬ ((5 : Int32) < 0 ∨ 6 ≤ (5 : Int32).toNatClampNeg) by decide) h_x5 dL_law_178 ?_
  refine z_aload_n B dL_law_179 rfl 1 rfl ?_
  refine z_cSWi (As := [.ref (b + 0), .int x1, .int x2, .int x3, .int x4, .int x5, .ref (b + 431)]) (rest := []) B cw_L_74 dL_law_180 (ci_L_set_24 l hlt (σ := (ap b σ [] [] [])) (b := b) (lyA hK) x1 x2 x3 x4 x5 q1_x1 q2_x1) rfl (by decide) rfl (Nat.le_of_ble_eq_true rfl) (by decide) (fun r u hu => ?_)
  obtain ⟨hu1, z, hu⟩ := hu
  refine z_eqs (σ' := (ap b (wx_Z σ z) [] [] [])) (hu.trans az_ap) ?_
  show zx p l e _ s m _ below meth c g 8 _ _ _ _ 183 [(4, .int 0), (3, .ref (b + 431)), (2, .ref (b + 405)), (1, .ref (b + 0)), (0, .ref bS)] _
  refine z_seti (y := 1) hu1 ?_
  refine z_istore (lv' := [(5, .int 1), (4, .int 0), (3, .ref (b + 431)), (2, .ref (b + 405)), (1, .ref (b + 0)), (0, .ref bS)]) B dL_law_183 (by decide) rfl ?_
  refine z_aload_n B dL_law_185 rfl 3 rfl ?_
  refine z_aload_n B dL_law_186 rfl 5 rfl ?_
  refine z_iload B dL_law_187 1 rfl ?_
  refine z_iconst (v := 1) B dL_law_189 (by decide) ?_
  refine z_iadd B dL_law_190 ?_
  refine z_seti (y := 1) (by decide) ?_
  refine z_sld (j := 1) (x := x1) B hX hbl hbA (by decide) (show ¬ ((1 : Int32) < 0 ∨ 6 ≤ (1 : Int32).toNatClampNeg) by decide) h_x1 dL_law_191 ?_
  refine z_aload_n B dL_law_192 rfl 5 rfl ?_
  refine z_iload B dL_law_193 1 rfl ?_
  refine z_iconst (v := 2) B dL_law_195 (by decide) ?_
  refine z_iadd B dL_law_196 ?_
  refine z_seti (y := 2) (by decide) ?_
  refine z_sld (j := 2) (x := x2) B hX hbl hbA (by decide) (show ¬ ((2 : Int32) < 0 ∨ 6 ≤ (2 : Int32).toNatClampNeg) by decide) h_x2 dL_law_197 ?_
  refine z_aload_n B dL_law_198 rfl 5 rfl ?_
  refine z_iload B dL_law_199 1 rfl ?_
  refine z_iconst (v := 3) B dL_law_201 (by decide) ?_
  refine z_iadd B dL_law_202 ?_
  refine z_seti (y := 3) (by decide) ?_
  refine z_sld (j := 3) (x := x3) B hX hbl hbA (by decide) (show ¬ ((3 : Int32) < 0 ∨ 6 ≤ (3 : Int32).toNatClampNeg) by decide) h_x3 dL_law_203 ?_
  refine z_aload_n B dL_law_204 rfl 5 rfl ?_
  refine z_iload B dL_law_205 1 rfl ?_
  refine z_iconst (v := 4) B dL_law_207 (by decide) ?_
  refine z_iadd B dL_law_208 ?_
  refine z_seti (y := 4) (by decide) ?_
  refine z_sld (j := 4) (x := x4) B hX hbl hbA (by decide) (show ¬ ((4 : Int32) < 0 ∨ 6 ≤ (4 : Int32).toNatClampNeg) by decide) h_x4 dL_law_209 ?_
  refine z_aload_n B dL_law_210 rfl 5 rfl ?_
  refine z_iload B dL_law_211 1 rfl ?_
  refine z_iconst (v := 5) B dL_law_213 (by decide) ?_
  refine z_iadd B dL_law_214 ?_
  refine z_seti (y := 5) (by decide) ?_
  refine z_sld (j := 5) (x := x5) B hX hbl hbA (by decide) (show ¬ ((5 : Int32) < 0 ∨ 6 ≤ (5 : Int32).toNatClampNeg) by decide) h_x5 dL_law_215 ?_
  refine z_cVi (As := [.int x1, .int x2, .int x3, .int x4, .int x5]) (rest := []) B cw_L_79 cx_10 dL_law_216 (ci_X9_set_46 l (σ := (ap b (wx_Z σ z) [] [] [])) (b := b) (lyA (lyZ hK)) x1 x2 x3 x4 x5 q1_x1 q2_x1 q1_x3 q2_x3 q1_x4 q2_x4) (lKA (lKZ (hk_K hK 405 rfl rfl))) rfl (by decide) rfl (Nat.le_of_ble_eq_true rfl) (by decide) (fun r u hu => ?_)
  refine z_eqs (σ' := (ap b (wx_Z σ z) [(405, 0, 1)] [] [])) (hu.2.trans ap_ap) ?_
  show zx p l e _ s m _ below meth c g 8 _ _ _ _ 219 [(5, .int 1), (4, .int 0), (3, .ref (b + 431)), (2, .ref (b + 405)), (1, .ref (b + 0)), (0, .ref bS)] _
  refine z_seti (y := 0) hu.1 ?_
  refine z_istore (lv' := [(6, .int 0), (5, .int 1), (4, .int 0), (3, .ref (b + 431)), (2, .ref (b + 405)), (1, .ref (b + 0)), (0, .ref bS)]) B dL_law_219 (by decide) rfl ?_
  refine z_aload_n B dL_law_221 rfl 4 rfl ?_
  refine z_cVi (As := []) (rest := []) B cw_L_80 cx_10 dL_law_222 (ci_X9_thrown_31 l (σ := (ap b (wx_Z σ z) [(405, 0, 1)] [] [])) (b := b) (lyA (lyZ hK)) (rI_at 405 0 rfl)) (lKA (lKZ (hk_K hK 405 rfl rfl))) rfl (by decide) rfl (Nat.le_of_ble_eq_true rfl) (by decide) (fun r u hu => ?_)
  refine z_eqs (σ' := (ap b (wx_Z σ z) [(405, 0, 1)] [] [])) hu.2 ?_
  show zx p l e _ s m _ below meth c g 8 _ _ _ _ 225 [(6, .int 0), (5, .int 1), (4, .int 0), (3, .ref (b + 431)), (2, .ref (b + 405)), (1, .ref (b + 0)), (0, .ref bS)] _
  refine z_seti (y := 1) hu.1 ?_
  refine z_iload B dL_law_225 1 rfl ?_
  refine z_icmp_eq (tgt := 232) B dL_law_227 (by decide) (fun _ => ?_) (fun h => absurd (by decide) h)
  refine z_iload B dL_law_232 1 rfl ?_
  refine z_if_ne (tgt := 249) B dL_law_234 (by decide) (fun _ => ?_) (fun h => absurd h (by decide))
  refine z_goto (tgt := 1395) B dL_law_249 (by decide) ?_
  exact z_widen (Nat.le_of_ble_eq_true rfl) (Nat.le_of_ble_eq_true rfl) (z_sub _ [2, 6] rfl (kk _))
set_option maxRecDepth 100000 in
set_option maxHeartbeats 4000000 in
theorem lf_0_6 {p : Program} {l : Launch} {e : Env} {s : State} {m : MethodId} {args : Array Value} {below : List Frame} {meth : Method} {c : Code} {g : gx_T} {Q : State → Prop} {σ : sx_T} {b t bS : Nat} {xs : Nat → Int32} (hlt : l.stackTraces = false) (B : zx_B p s m args meth c code RL 8 g) (hX : va_X bS 6 xs s s.heap) (hbl : bS < s.heap.size) (hbA : ¬ gx_b g ≤ bS) (hF : fz_P b t σ) {x1 : Int32} (h_x1 : xs 1 = x1) (q1_x1 : (-2147483648 : Int) ≤ x1.toInt) (q2_x1 : x1.toInt ≤ (-1 : Int)) {x2 : Int32} (h_x2 : xs 2 = x2) (q1_x2 : (-2147483648 : Int) ≤ x2.toInt) (q2_x2 : x2.toInt ≤ (2147483647 : Int)) {x3 : Int32} (h_x3 : xs 3 = x3) (q1_x3 : (18 : Int) ≤ x3.toInt) (q2_x3 : x3.toInt ≤ (2147483647 : Int)) {x4 : Int32} (h_x4 : xs 4 = x4) (q1_x4 : (-2147483648 : Int) ≤ x4.toInt) (q2_x4 : x4.toInt ≤ (2147483647 : Int)) {x5 : Int32} (h_x5 : xs 5 = x5) (q1_x5 : (-2147483648 : Int) ≤ x5.toInt) (q2_x5 : x5.toInt ≤ (2147483647 : Int)) (kk : ∀ σ', zx p l e room_1 s m args below meth c g 8 600002 7302232 Q σ' 1395 [(4, .int 0), (0, .ref bS)] []) : zx p l e room_1 s m args below meth c g 8 500 100000 Q σ 148 [(4, .int 0), (3, .ref (b + 431)), (2, .ref (b + 405)), (1, .ref (b + 0)), (0, .ref bS)] [] := by
  have hK := fz_lay hF
  refine z_eqs (σ' := (ap b σ [] [] [])) rfl ?_
  refine z_aload_n B dL_law_148 rfl 3 rfl ?_
  refine z_aload_n B dL_law_149 rfl 4 rfl ?_
  refine z_iload B dL_law_150 0 rfl ?_
  refine z_iconst (v := 1) B dL_law_152 (by decide) ?_
  refine z_iadd B dL_law_153 ?_
  refine z_seti (y := 1) (by decide) ?_
  refine z_sld (j := 1) (x := x1) B hX hbl hbA (by decide) (show ¬ ((1 : Int32) < 0 ∨ 6 ≤ (1 : Int32).toNatClampNeg) by decide) h_x1 dL_law_154 ?_
  refine z_aload_n B dL_law_155 rfl 4 rfl ?_
  refine z_iload B dL_law_156 0 rfl ?_
  refine z_iconst (v := 2) B dL_law_158 (by decide) ?_
  refine z_iadd B dL_law_159 ?_
  refine z_seti (y := 2) (by decide) ?_
  refine z_sld (j := 2) (x := x2) B hX hbl hbA (by decide) (show ¬ ((2 : Int32) < 0 ∨ 6 ≤ (2 : Int32).toNatClampNeg) by decide) h_x2 dL_law_160 ?_
  refine z_aload_n B dL_law_161 rfl 4 rfl ?_
  refine z_iload B dL_law_162 0 rfl ?_
  refine z_iconst (v := 3) B dL_law_164 (by decide) ?_
  refine z_iadd B dL_law_165 ?_
  refine z_seti (y := 3) (by decide) ?_
  refine z_sld (j := 3) (x := x3) B hX hbl hbA (by decide) (show ¬ ((3 : Int32) < 0 ∨ 6 ≤ (3 : Int32).toNatClampNeg) by decide) h_x3 dL_law_166 ?_
  refine z_aload_n B dL_law_167 rfl 4 rfl ?_
  refine z_iload B dL_law_168 0 rfl ?_
  refine z_iconst (v := 4) B dL_law_170 (by decide) ?_
  refine z_iadd B dL_law_171 ?_
  refine z_seti (y := 4) (by decide) ?_
  refine z_sld (j := 4) (x := x4) B hX hbl hbA (by decide) (show ¬ ((4 : Int32) < 0 ∨ 6 ≤ (4 : Int32).toNatClampNeg) by decide) h_x4 dL_law_172 ?_
  refine z_aload_n B dL_law_173 rfl 4 rfl ?_
  refine z_iload B dL_law_174 0 rfl ?_
  refine z_iconst (v := 5) B dL_law_176 (by decide) ?_
  refine z_iadd B dL_law_177 ?_
  refine z_seti (y := 5) (by decide) ?_
  refine z_sld (j := 5) (x := x5) B hX hbl hbA (by decide) (show ¬ ((5 : Int32) < 0 ∨ 6 ≤ (5 : Int32).toNatClampNeg) by decide) h_x5 dL_law_178 ?_
  refine z_aload_n B dL_law_179 rfl 1 rfl ?_
  refine z_cSWi (As := [.ref (b + 0), .int x1, .int x2, .int x3, .int x4, .int x5, .ref (b + 431)]) (rest := []) B cw_L_74 dL_law_180 (ci_L_set_24 l hlt (σ := (ap b σ [] [] [])) (b := b) (lyA hK) x1 x2 x3 x4 x5 q1_x1 q2_x1) rfl (by decide) rfl (Nat.le_of_ble_eq_true rfl) (by decide) (fun r u hu => ?_)
  obtain ⟨hu1, z, hu⟩ := hu
  refine z_eqs (σ' := (ap b (wx_Z σ z) [] [] [])) (hu.trans az_ap) ?_
  show zx p l e _ s m _ below meth c g 8 _ _ _ _ 183 [(4, .int 0), (3, .ref (b + 431)), (2, .ref (b + 405)), (1, .ref (b + 0)), (0, .ref bS)] _
  refine z_seti (y := 1) hu1 ?_
  refine z_istore (lv' := [(5, .int 1), (4, .int 0), (3, .ref (b + 431)), (2, .ref (b + 405)), (1, .ref (b + 0)), (0, .ref bS)]) B dL_law_183 (by decide) rfl ?_
  refine z_aload_n B dL_law_185 rfl 3 rfl ?_
  refine z_aload_n B dL_law_186 rfl 5 rfl ?_
  refine z_iload B dL_law_187 1 rfl ?_
  refine z_iconst (v := 1) B dL_law_189 (by decide) ?_
  refine z_iadd B dL_law_190 ?_
  refine z_seti (y := 1) (by decide) ?_
  refine z_sld (j := 1) (x := x1) B hX hbl hbA (by decide) (show ¬ ((1 : Int32) < 0 ∨ 6 ≤ (1 : Int32).toNatClampNeg) by decide) h_x1 dL_law_191 ?_
  refine z_aload_n B dL_law_192 rfl 5 rfl ?_
  refine z_iload B dL_law_193 1 rfl ?_
  refine z_iconst (v := 2) B dL_law_195 (by decide) ?_
  refine z_iadd B dL_law_196 ?_
  refine z_seti (y := 2) (by decide) ?_
  refine z_sld (j := 2) (x := x2) B hX hbl hbA (by decide) (show ¬ ((2 : Int32) < 0 ∨ 6 ≤ (2 : Int32).toNatClampNeg) by decide) h_x2 dL_law_197 ?_
  refine z_aload_n B dL_law_198 rfl 5 rfl ?_
  refine z_iload B dL_law_199 1 rfl ?_
  refine z_iconst (v := 3) B dL_law_201 (by decide) ?_
  refine z_iadd B dL_law_202 ?_
  refine z_seti (y := 3) (by decide) ?_
  refine z_sld (j := 3) (x := x3) B hX hbl hbA (by decide) (show ¬ ((3 : Int32) < 0 ∨ 6 ≤ (3 : Int32).toNatClampNeg) by decide) h_x3 dL_law_203 ?_
  refine z_aload_n B dL_law_204 rfl 5 rfl ?_
  refine z_iload B dL_law_205 1 rfl ?_
  refine z_iconst (v := 4) B dL_law_207 (by decide) ?_
  refine z_iadd B dL_law_208 ?_
  refine z_seti (y := 4) (by decide) ?_
  refine z_sld (j := 4) (x := x4) B hX hbl hbA (by decide) (show ¬ ((4 : Int32) < 0 ∨ 6 ≤ (4 : Int32).toNatClampNeg) by decide) h_x4 dL_law_209 ?_
  refine z_aload_n B dL_law_210 rfl 5 rfl ?_
  refine z_iload B dL_law_211 1 rfl ?_
  refine z_iconst (v := 5) B dL_law_213 (by decide) ?_
  refine z_iadd B dL_law_214 ?_
  refine z_seti (y := 5) (by decide) ?_
  refine z_sld (j := 5) (x := x5) B hX hbl hbA (by decide) (show ¬ ((5 : Int32) < 0 ∨ 6 ≤ (5 : Int32).toNatClampNeg) by decide) h_x5 dL_law_215 ?_
  refine z_cVi (As := [.int x1, .int x2, .int x3, .int x4, .int x5]) (rest := []) B cw_L_79 cx_10 dL_law_216 (ci_X9_set_49 l (σ := (ap b (wx_Z σ z) [] [] [])) (b := b) (lyA (lyZ hK)) x1 x2 x3 x4 x5 q1_x1 q2_x1 q1_x3 q2_x3) (lKA (lKZ (hk_K hK 405 rfl rfl))) rfl (by decide) rfl (Nat.le_of_ble_eq_true rfl) (by decide) (fun r u hu => ?_)
  refine z_eqs (σ' := (ap b (wx_Z σ z) [(405, 0, 1)] [] [])) (hu.2.trans ap_ap) ?_
  show zx p l e _ s m _ below meth c g 8 _ _ _ _ 219 [(5, .int 1), (4, .int 0), (3, .ref (b + 431)), (2, .ref (b + 405)), (1, .ref (b + 0)), (0, .ref bS)] _
  refine z_seti (y := 0) hu.1 ?_
  refine z_istore (lv' := [(6, .int 0), (5, .int 1), (4, .int 0), (3, .ref (b + 431)), (2, .ref (b + 405)), (1, .ref (b + 0)), (0, .ref bS)]) B dL_law_219 (by decide) rfl ?_
  refine z_aload_n B dL_law_221 rfl 4 rfl ?_
  refine z_cVi (As := []) (rest := []) B cw_L_80 cx_10 dL_law_222 (ci_X9_thrown_31 l (σ := (ap b (wx_Z σ z) [(405, 0, 1)] [] [])) (b := b) (lyA (lyZ hK)) (rI_at 405 0 rfl)) (lKA (lKZ (hk_K hK 405 rfl rfl))) rfl (by decide) rfl (Nat.le_of_ble_eq_true rfl) (by decide) (fun r u hu => ?_)
  refine z_eqs (σ' := (ap b (wx_Z σ z) [(405, 0, 1)] [] [])) hu.2 ?_
  show zx p l e _ s m _ below meth c g 8 _ _ _ _ 225 [(6, .int 0), (5, .int 1), (4, .int 0), (3, .ref (b + 431)), (2, .ref (b + 405)), (1, .ref (b + 0)), (0, .ref bS)] _
  refine z_seti (y := 1) hu.1 ?_
  refine z_iload B dL_law_225 1 rfl ?_
  refine z_icmp_eq (tgt := 232) B dL_law_227 (by decide) (fun _ => ?_) (fun h => absurd (by decide) h)
  refine z_iload B dL_law_232 1 rfl ?_
  refine z_if_ne (tgt := 249) B dL_law_234 (by decide) (fun _ => ?_) (fun h => absurd h (by decide))
  refine z_goto (tgt := 1395) B dL_law_249 (by decide) ?_
  exact z_widen (Nat.le_of_ble_eq_true rfl) (Nat.le_of_ble_eq_true rfl) (z_sub _ [2, 6] rfl (kk _))
set_option maxRecDepth 100000 in
set_option maxHeartbeats 4000000 in
theorem lf_0_7 {p : Program} {l : Launch} {e : Env} {s : State} {m : MethodId} {args : Array Value} {below : List Frame} {meth : Method} {c : Code} {g : gx_T} {Q : State → Prop} {σ : sx_T} {b t bS : Nat} {xs : Nat → Int32} (hlt : l.stackTraces = false) (B : zx_B p s m args meth c code RL 8 g) (hX : va_X bS 6 xs s s.heap) (hbl : bS < s.heap.size) (hbA : ¬ gx_b g ≤ bS) (hF : fz_P b t σ) (h_x1 : xs 1 = 0) {x2 : Int32} (h_x2 : xs 2 = x2) (q1_x2 : (-2147483648 : Int) ≤ x2.toInt) (q2_x2 : x2.toInt ≤ (-1 : Int)) {x3 : Int32} (h_x3 : xs 3 = x3) (q1_x3 : (-2147483648 : Int) ≤ x3.toInt) (q2_x3 : x3.toInt ≤ (-1 : Int)) {x4 : Int32} (h_x4 : xs 4 = x4) (q1_x4 : (-2147483648 : Int) ≤ x4.toInt) (q2_x4 : x4.toInt ≤ (2147483647 : Int)) {x5 : Int32} (h_x5 : xs 5 = x5) (q1_x5 : (-2147483648 : Int) ≤ x5.toInt) (q2_x5 : x5.toInt ≤ (2147483647 : Int)) (kk : ∀ σ', zx p l e room_1 s m args below meth c g 8 600002 7302232 Q σ' 1395 [(4, .int 0), (0, .ref bS)] []) : zx p l e room_1 s m args below meth c g 8 500 100000 Q σ 148 [(4, .int 0), (3, .ref (b + 431)), (2, .ref (b + 405)), (1, .ref (b + 0)), (0, .ref bS)] [] := by
  have hK := fz_lay hF
  refine z_eqs (σ' := (ap b σ [] [] [])) rfl ?_
  refine z_aload_n B dL_law_148 rfl 3 rfl ?_
  refine z_aload_n B dL_law_149 rfl 4 rfl ?_
  refine z_iload B dL_law_150 0 rfl ?_
  refine z_iconst (v := 1) B dL_law_152 (by decide) ?_
  refine z_iadd B dL_law_153 ?_
  refine z_seti (y := 1) (by decide) ?_
  refine z_sld (j := 1) (x := 0) B hX hbl hbA (by decide) (show ¬ ((1 : Int32) < 0 ∨ 6 ≤ (1 : Int32).toNatClampNeg) by decide) h_x1 dL_law_154 ?_
  refine z_aload_n B dL_law_155 rfl 4 rfl ?_
  refine z_iload B dL_law_156 0 rfl ?_
  refine z_iconst (v := 2) B dL_law_158 (by decide) ?_
  refine z_iadd B dL_law_159 ?_
  refine z_seti (y := 2) (by decide) ?_
  refine z_sld (j := 2) (x := x2) B hX hbl hbA (by decide) (show ¬ ((2 : Int32) < 0 ∨ 6 ≤ (2 : Int32).toNatClampNeg) by decide) h_x2 dL_law_160 ?_
  refine z_aload_n B dL_law_161 rfl 4 rfl ?_
  refine z_iload B dL_law_162 0 rfl ?_
  refine z_iconst (v := 3) B dL_law_164 (by decide) ?_
  refine z_iadd B dL_law_165 ?_
  refine z_seti (y := 3) (by decide) ?_
  refine z_sld (j := 3) (x := x3) B hX hbl hbA (by decide) (show ¬ ((3 : Int32) < 0 ∨ 6 ≤ (3 : Int32).toNatClampNeg) by decide) h_x3 dL_law_166 ?_
  refine z_aload_n B dL_law_167 rfl 4 rfl ?_
  refine z_iload B dL_law_168 0 rfl ?_
  refine z_iconst (v := 4) B dL_law_170 (by decide) ?_
  refine z_iadd B dL_law_171 ?_
  refine z_seti (y := 4) (by decide) ?_
  refine z_sld (j := 4) (x := x4) B hX hbl hbA (by decide) (show ¬ ((4 : Int32) < 0 ∨ 6 ≤ (4 : Int32).toNatClampNeg) by decide) h_x4 dL_law_172 ?_
  refine z_aload_n B dL_law_173 rfl 4 rfl ?_
  refine z_iload B dL_law_174 0 rfl ?_
  refine z_iconst (v := 5) B dL_law_176 (by decide) ?_
  refine z_iadd B dL_law_177 ?_
  refine z_seti (y := 5) (by decide) ?_
  refine z_sld (j := 5) (x := x5) B hX hbl hbA (by decide) (show ¬ ((5 : Int32) < 0 ∨ 6 ≤ (5 : Int32).toNatClampNeg) by decide) h_x5 dL_law_178 ?_
  refine z_aload_n B dL_law_179 rfl 1 rfl ?_
  refine z_cSWi (As := [.ref (b + 0), .int 0, .int x2, .int x3, .int x4, .int x5, .ref (b + 431)]) (rest := []) B cw_L_74 dL_law_180 (ci_L_set_53 l hlt (σ := (ap b σ [] [] [])) (b := b) (lyA hK) x2 x3 x4 x5 q1_x2 q2_x2 (rR_at 0 0 (fz_R hF 0 0 rfl rfl)) (rR_at 1 0 (fz_R hF 1 0 rfl rfl))) rfl (by decide) rfl (Nat.le_of_ble_eq_true rfl) (by decide) (fun r u hu => ?_)
  obtain ⟨hu1, z, hu⟩ := hu
  refine z_eqs (σ' := (ap b (wx_Z σ z) [] [] [])) (hu.trans az_ap) ?_
  show zx p l e _ s m _ below meth c g 8 _ _ _ _ 183 [(4, .int 0), (3, .ref (b + 431)), (2, .ref (b + 405)), (1, .ref (b + 0)), (0, .ref bS)] _
  refine z_seti (y := 1) hu1 ?_
  refine z_istore (lv' := [(5, .int 1), (4, .int 0), (3, .ref (b + 431)), (2, .ref (b + 405)), (1, .ref (b + 0)), (0, .ref bS)]) B dL_law_183 (by decide) rfl ?_
  refine z_aload_n B dL_law_185 rfl 3 rfl ?_
  refine z_aload_n B dL_law_186 rfl 5 rfl ?_
  refine z_iload B dL_law_187 1 rfl ?_
  refine z_iconst (v := 1) B dL_law_189 (by decide) ?_
  refine z_iadd B dL_law_190 ?_
  refine z_seti (y := 1) (by decide) ?_
  refine z_sld (j := 1) (x := 0) B hX hbl hbA (by decide) (show ¬ ((1 : Int32) < 0 ∨ 6 ≤ (1 : Int32).toNatClampNeg) by decide) h_x1 dL_law_191 ?_
  refine z_aload_n B dL_law_192 rfl 5 rfl ?_
  refine z_iload B dL_law_193 1 rfl ?_
  refine z_iconst (v := 2) B dL_law_195 (by decide) ?_
  refine z_iadd B dL_law_196 ?_
  refine z_seti (y := 2) (by decide) ?_
  refine z_sld (j := 2) (x := x2) B hX hbl hbA (by decide) (show ¬ ((2 : Int32) < 0 ∨ 6 ≤ (2 : Int32).toNatClampNeg) by decide) h_x2 dL_law_197 ?_
  refine z_aload_n B dL_law_198 rfl 5 rfl ?_
  refine z_iload B dL_law_199 1 rfl ?_
  refine z_iconst (v := 3) B dL_law_201 (by decide) ?_
  refine z_iadd B dL_law_202 ?_
  refine z_seti (y := 3) (by decide) ?_
  refine z_sld (j := 3) (x := x3) B hX hbl hbA (by decide) (show ¬ ((3 : Int32) < 0 ∨ 6 ≤ (3 : Int32).toNatClampNeg) by decide) h_x3 dL_law_203 ?_
  refine z_aload_n B dL_law_204 rfl 5 rfl ?_
  refine z_iload B dL_law_205 1 rfl ?_
  refine z_iconst (v := 4) B dL_law_207 (by decide) ?_
  refine z_iadd B dL_law_208 ?_
  refine z_seti (y := 4) (by decide) ?_
  refine z_sld (j := 4) (x := x4) B hX hbl hbA (by decide) (show ¬ ((4 : Int32) < 0 ∨ 6 ≤ (4 : Int32).toNatClampNeg) by decide) h_x4 dL_law_209 ?_
  refine z_aload_n B dL_law_210 rfl 5 rfl ?_
  refine z_iload B dL_law_211 1 rfl ?_
  refine z_iconst (v := 5) B dL_law_213 (by decide) ?_
  refine z_iadd B dL_law_214 ?_
  refine z_seti (y := 5) (by decide) ?_
  refine z_sld (j := 5) (x := x5) B hX hbl hbA (by decide) (show ¬ ((5 : Int32) < 0 ∨ 6 ≤ (5 : Int32).toNatClampNeg) by decide) h_x5 dL_law_215 ?_
  refine z_cVi (As := [.int 0, .int x2, .int x3, .int x4, .int x5]) (rest := []) B cw_L_79 cx_10 dL_law_216 (ci_X9_set_57 l (σ := (ap b (wx_Z σ z) [] [] [])) (b := b) (lyA (lyZ hK)) x2 x3 x4 x5 q1_x2 q2_x2 q1_x3 q2_x3) (lKA (lKZ (hk_K hK 405 rfl rfl))) rfl (by decide) rfl (Nat.le_of_ble_eq_true rfl) (by decide) (fun r u hu => ?_)
  refine z_eqs (σ' := (ap b (wx_Z σ z) [(405, 0, 1)] [] [])) (hu.2.trans ap_ap) ?_
  show zx p l e _ s m _ below meth c g 8 _ _ _ _ 219 [(5, .int 1), (4, .int 0), (3, .ref (b + 431)), (2, .ref (b + 405)), (1, .ref (b + 0)), (0, .ref bS)] _
  refine z_seti (y := 0) hu.1 ?_
  refine z_istore (lv' := [(6, .int 0), (5, .int 1), (4, .int 0), (3, .ref (b + 431)), (2, .ref (b + 405)), (1, .ref (b + 0)), (0, .ref bS)]) B dL_law_219 (by decide) rfl ?_
  refine z_aload_n B dL_law_221 rfl 4 rfl ?_
  refine z_cVi (As := []) (rest := []) B cw_L_80 cx_10 dL_law_222 (ci_X9_thrown_31 l (σ := (ap b (wx_Z σ z) [(405, 0, 1)] [] [])) (b := b) (lyA (lyZ hK)) (rI_at 405 0 rfl)) (lKA (lKZ (hk_K hK 405 rfl rfl))) rfl (by decide) rfl (Nat.le_of_ble_eq_true rfl) (by decide) (fun r u hu => ?_)
  refine z_eqs (σ' := (ap b (wx_Z σ z) [(405, 0, 1)] [] [])) hu.2 ?_
  show zx p l e _ s m _ below meth c g 8 _ _ _ _ 225 [(6, .int 0), (5, .int 1), (4, .int 0), (3, .ref (b + 431)), (2, .ref (b + 405)), (1, .ref (b + 0)), (0, .ref bS)] _
  refine z_seti (y := 1) hu.1 ?_
  refine z_iload B dL_law_225 1 rfl ?_
  refine z_icmp_eq (tgt := 232) B dL_law_227 (by decide) (fun _ => ?_) (fun h => absurd (by decide) h)
  refine z_iload B dL_law_232 1 rfl ?_
  refine z_if_ne (tgt := 249) B dL_law_234 (by decide) (fun _ => ?_) (fun h => absurd h (by decide))
  refine z_goto (tgt := 1395) B dL_law_249 (by decide) ?_
  exact z_widen (Nat.le_of_ble_eq_true rfl) (Nat.le_of_ble_eq_true rfl) (z_sub _ [2, 6] rfl (kk _))
set_option maxRecDepth 100000 in
set_option maxHeartbeats 4000000 in
theorem lf_0_8 {p : Program} {l : Launch} {e : Env} {s : State} {m : MethodId} {args : Array Value} {below : List Frame} {meth : Method} {c : Code} {g : gx_T} {Q : State → Prop} {σ : sx_T} {b t bS : Nat} {xs : Nat → Int32} (hlt : l.stackTraces = false) (B : zx_B p s m args meth c code RL 8 g) (hX : va_X bS 6 xs s s.heap) (hbl : bS < s.heap.size) (hbA : ¬ gx_b g ≤ bS) (hF : fz_P b t σ) (h_x1 : xs 1 = 0) {x2 : Int32} (h_x2 : xs 2 = x2) (q1_x2 : (-2147483648 : Int) ≤ x2.toInt) (q2_x2 : x2.toInt ≤ (-1 : Int)) {x3 : Int32} (h_x3 : xs 3 = x3) (q1_x3 : (0 : Int) ≤ x3.toInt) (q2_x3 : x3.toInt ≤ (17 : Int)) {x4 : Int32} (h_x4 : xs 4 = x4) (q1_x4 : (-2147483648 : Int) ≤ x4.toInt) (q2_x4 : x4.toInt ≤ (-1 : Int)) {x5 : Int32} (h_x5 : xs 5 = x5) (q1_x5 : (-2147483648 : Int) ≤ x5.toInt) (q2_x5 : x5.toInt ≤ (2147483647 : Int)) (kk : ∀ σ', zx p l e room_1 s m args below meth c g 8 600002 7302232 Q σ' 1395 [(4, .int 0), (0, .ref bS)] []) : zx p l e room_1 s m args below meth c g 8 500 100000 Q σ 148 [(4, .int 0), (3, .ref (b + 431)), (2, .ref (b + 405)), (1, .ref (b + 0)), (0, .ref bS)] [] := by
  have hK := fz_lay hF
  refine z_eqs (σ' := (ap b σ [] [] [])) rfl ?_
  refine z_aload_n B dL_law_148 rfl 3 rfl ?_
  refine z_aload_n B dL_law_149 rfl 4 rfl ?_
  refine z_iload B dL_law_150 0 rfl ?_
  refine z_iconst (v := 1) B dL_law_152 (by decide) ?_
  refine z_iadd B dL_law_153 ?_
  refine z_seti (y := 1) (by decide) ?_
  refine z_sld (j := 1) (x := 0) B hX hbl hbA (by decide) (show ¬ ((1 : Int32) < 0 ∨ 6 ≤ (1 : Int32).toNatClampNeg) by decide) h_x1 dL_law_154 ?_
  refine z_aload_n B dL_law_155 rfl 4 rfl ?_
  refine z_iload B dL_law_156 0 rfl ?_
  refine z_iconst (v := 2) B dL_law_158 (by decide) ?_
  refine z_iadd B dL_law_159 ?_
  refine z_seti (y := 2) (by decide) ?_
  refine z_sld (j := 2) (x := x2) B hX hbl hbA (by decide) (show ¬ ((2 : Int32) < 0 ∨ 6 ≤ (2 : Int32).toNatClampNeg) by decide) h_x2 dL_law_160 ?_
  refine z_aload_n B dL_law_161 rfl 4 rfl ?_
  refine z_iload B dL_law_162 0 rfl ?_
  refine z_iconst (v := 3) B dL_law_164 (by decide) ?_
  refine z_iadd B dL_law_165 ?_
  refine z_seti (y := 3) (by decide) ?_
  refine z_sld (j := 3) (x := x3) B hX hbl hbA (by decide) (show ¬ ((3 : Int32) < 0 ∨ 6 ≤ (3 : Int32).toNatClampNeg) by decide) h_x3 dL_law_166 ?_
  refine z_aload_n B dL_law_167 rfl 4 rfl ?_
  refine z_iload B dL_law_168 0 rfl ?_
  refine z_iconst (v := 4) B dL_law_170 (by decide) ?_
  refine z_iadd B dL_law_171 ?_
  refine z_seti (y := 4) (by decide) ?_
  refine z_sld (j := 4) (x := x4) B hX hbl hbA (by decide) (show ¬ ((4 : Int32) < 0 ∨ 6 ≤ (4 : Int32).toNatClampNeg) by decide) h_x4 dL_law_172 ?_
  refine z_aload_n B dL_law_173 rfl 4 rfl ?_
  refine z_iload B dL_law_174 0 rfl ?_
  refine z_iconst (v := 5) B dL_law_176 (by decide) ?_
  refine z_iadd B dL_law_177 ?_
  refine z_seti (y := 5) (by decide) ?_
  refine z_sld (j := 5) (x := x5) B hX hbl hbA (by decide) (show ¬ ((5 : Int32) < 0 ∨ 6 ≤ (5 : Int32).toNatClampNeg) by decide) h_x5 dL_law_178 ?_
  refine z_aload_n B dL_law_179 rfl 1 rfl ?_
  refine z_cSWi (As := [.ref (b + 0), .int 0, .int x2, .int x3, .int x4, .int x5, .ref (b + 431)]) (rest := []) B cw_L_74 dL_law_180 (ci_L_set_53 l hlt (σ := (ap b σ [] [] [])) (b := b) (lyA hK) x2 x3 x4 x5 q1_x2 q2_x2 (rR_at 0 0 (fz_R hF 0 0 rfl rfl)) (rR_at 1 0 (fz_R hF 1 0 rfl rfl))) rfl (by decide) rfl (Nat.le_of_ble_eq_true rfl) (by decide) (fun r u hu => ?_)
  obtain ⟨hu1, z, hu⟩ := hu
  refine z_eqs (σ' := (ap b (wx_Z σ z) [] [] [])) (hu.trans az_ap) ?_
  show zx p l e _ s m _ below meth c g 8 _ _ _ _ 183 [(4, .int 0), (3, .ref (b + 431)), (2, .ref (b + 405)), (1, .ref (b + 0)), (0, .ref bS)] _
  refine z_seti (y := 1) hu1 ?_
  refine z_istore (lv' := [(5, .int 1), (4, .int 0), (3, .ref (b + 431)), (2, .ref (b + 405)), (1, .ref (b + 0)), (0, .ref bS)]) B dL_law_183 (by decide) rfl ?_
  refine z_aload_n B dL_law_185 rfl 3 rfl ?_
  refine z_aload_n B dL_law_186 rfl 5 rfl ?_
  refine z_iload B dL_law_187 1 rfl ?_
  refine z_iconst (v := 1) B dL_law_189 (by decide) ?_
  refine z_iadd B dL_law_190 ?_
  refine z_seti (y := 1) (by decide) ?_
  refine z_sld (j := 1) (x := 0) B hX hbl hbA (by decide) (show ¬ ((1 : Int32) < 0 ∨ 6 ≤ (1 : Int32).toNatClampNeg) by decide) h_x1 dL_law_191 ?_
  refine z_aload_n B dL_law_192 rfl 5 rfl ?_
  refine z_iload B dL_law_193 1 rfl ?_
  refine z_iconst (v := 2) B dL_law_195 (by decide) ?_
  refine z_iadd B dL_law_196 ?_
  refine z_seti (y := 2) (by decide) ?_
  refine z_sld (j := 2) (x := x2) B hX hbl hbA (by decide) (show ¬ ((2 : Int32) < 0 ∨ 6 ≤ (2 : Int32).toNatClampNeg) by decide) h_x2 dL_law_197 ?_
  refine z_aload_n B dL_law_198 rfl 5 rfl ?_
  refine z_iload B dL_law_199 1 rfl ?_
  refine z_iconst (v := 3) B dL_law_201 (by decide) ?_
  refine z_iadd B dL_law_202 ?_
  refine z_seti (y := 3) (by decide) ?_
  refine z_sld (j := 3) (x := x3) B hX hbl hbA (by decide) (show ¬ ((3 : Int32) < 0 ∨ 6 ≤ (3 : Int32).toNatClampNeg) by decide) h_x3 dL_law_203 ?_
  refine z_aload_n B dL_law_204 rfl 5 rfl ?_
  refine z_iload B dL_law_205 1 rfl ?_
  refine z_iconst (v := 4) B dL_law_207 (by decide) ?_
  refine z_iadd B dL_law_208 ?_
  refine z_seti (y := 4) (by decide) ?_
  refine z_sld (j := 4) (x := x4) B hX hbl hbA (by decide) (show ¬ ((4 : Int32) < 0 ∨ 6 ≤ (4 : Int32).toNatClampNeg) by decide) h_x4 dL_law_209 ?_
  refine z_aload_n B dL_law_210 rfl 5 rfl ?_
  refine z_iload B dL_law_211 1 rfl ?_
  refine z_iconst (v := 5) B dL_law_213 (by decide) ?_
  refine z_iadd B dL_law_214 ?_
  refine z_seti (y := 5) (by decide) ?_
  refine z_sld (j := 5) (x := x5) B hX hbl hbA (by decide) (show ¬ ((5 : Int32) < 0 ∨ 6 ≤ (5 : Int32).toNatClampNeg) by decide) h_x5 dL_law_215 ?_
  refine z_cVi (As := [.int 0, .int x2, .int x3, .int x4, .int x5]) (rest := []) B cw_L_79 cx_10 dL_law_216 (ci_X9_set_58 l (σ := (ap b (wx_Z σ z) [] [] [])) (b := b) (lyA (lyZ hK)) x2 x3 x4 x5 q1_x2 q2_x2 q1_x3 q2_x3 q1_x4 q2_x4) (lKA (lKZ (hk_K hK 405 rfl rfl))) rfl (by decide) rfl (Nat.le_of_ble_eq_true rfl) (by decide) (fun r u hu => ?_)
  refine z_eqs (σ' := (ap b (wx_Z σ z) [(405, 0, 1)] [] [])) (hu.2.trans ap_ap) ?_
  show zx p l e _ s m _ below meth c g 8 _ _ _ _ 219 [(5, .int 1), (4, .int 0), (3, .ref (b + 431)), (2, .ref (b + 405)), (1, .ref (b + 0)), (0, .ref bS)] _
  refine z_seti (y := 0) hu.1 ?_
  refine z_istore (lv' := [(6, .int 0), (5, .int 1), (4, .int 0), (3, .ref (b + 431)), (2, .ref (b + 405)), (1, .ref (b + 0)), (0, .ref bS)]) B dL_law_219 (by decide) rfl ?_
  refine z_aload_n B dL_law_221 rfl 4 rfl ?_
  refine z_cVi (As := []) (rest := []) B cw_L_80 cx_10 dL_law_222 (ci_X9_thrown_31 l (σ := (ap b (wx_Z σ z) [(405, 0, 1)] [] [])) (b := b) (lyA (lyZ hK)) (rI_at 405 0 rfl)) (lKA (lKZ (hk_K hK 405 rfl rfl))) rfl (by decide) rfl (Nat.le_of_ble_eq_true rfl) (by decide) (fun r u hu => ?_)
  refine z_eqs (σ' := (ap b (wx_Z σ z) [(405, 0, 1)] [] [])) hu.2 ?_
  show zx p l e _ s m _ below meth c g 8 _ _ _ _ 225 [(6, .int 0), (5, .int 1), (4, .int 0), (3, .ref (b + 431)), (2, .ref (b + 405)), (1, .ref (b + 0)), (0, .ref bS)] _
  refine z_seti (y := 1) hu.1 ?_
  refine z_iload B dL_law_225 1 rfl ?_
  refine z_icmp_eq (tgt := 232) B dL_law_227 (by decide) (fun _ => ?_) (fun h => absurd (by decide) h)
  refine z_iload B dL_law_232 1 rfl ?_
  refine z_if_ne (tgt := 249) B dL_law_234 (by decide) (fun _ => ?_) (fun h => absurd h (by decide))
  refine z_goto (tgt := 1395) B dL_law_249 (by decide) ?_
  exact z_widen (Nat.le_of_ble_eq_true rfl) (Nat.le_of_ble_eq_true rfl) (z_sub _ [2, 6] rfl (kk _))
set_option maxRecDepth 100000 in
set_option maxHeartbeats 4000000 in
theorem lf_0_9 {p : Program} {l : Launch} {e : Env} {s : State} {m : MethodId} {args : Array Value} {below : List Frame} {meth : Method} {c : Code} {g : gx_T} {Q : State → Prop} {σ : sx_T} {b t bS : Nat} {xs : Nat → Int32} (hlt : l.stackTraces = false) (B : zx_B p s m args meth c code RL 8 g) (hX : va_X bS 6 xs s s.heap) (hbl : bS < s.heap.size) (hbA : ¬ gx_b g ≤ bS) (hF : fz_P b t σ) (h_x1 : xs 1 = 0) {x2 : Int32} (h_x2 : xs 2 = x2) (q1_x2 : (-2147483648 : Int) ≤ x2.toInt) (q2_x2 : x2.toInt ≤ (-1 : Int)) {x3 : Int32} (h_x3 : xs 3 = x3) (q1_x3 : (0 : Int) ≤ x3.toInt) (q2_x3 : x3.toInt ≤ (17 : Int)) {x4 : Int32} (h_x4 : xs 4 = x4) (q1_x4 : (0 : Int) ≤ x4.toInt) (q2_x4 : x4.toInt ≤ (99 : Int)) {x5 : Int32} (h_x5 : xs 5 = x5) (q1_x5 : (-2147483648 : Int) ≤ x5.toInt) (q2_x5 : x5.toInt ≤ (-1 : Int)) (kk : ∀ σ', zx p l e room_1 s m args below meth c g 8 600002 7302232 Q σ' 1395 [(4, .int 0), (0, .ref bS)] []) : zx p l e room_1 s m args below meth c g 8 500 100000 Q σ 148 [(4, .int 0), (3, .ref (b + 431)), (2, .ref (b + 405)), (1, .ref (b + 0)), (0, .ref bS)] [] := by
  have hK := fz_lay hF
  refine z_eqs (σ' := (ap b σ [] [] [])) rfl ?_
  refine z_aload_n B dL_law_148 rfl 3 rfl ?_
  refine z_aload_n B dL_law_149 rfl 4 rfl ?_
  refine z_iload B dL_law_150 0 rfl ?_
  refine z_iconst (v := 1) B dL_law_152 (by decide) ?_
  refine z_iadd B dL_law_153 ?_
  refine z_seti (y := 1) (by decide) ?_
  refine z_sld (j := 1) (x := 0) B hX hbl hbA (by decide) (show ¬ ((1 : Int32) < 0 ∨ 6 ≤ (1 : Int32).toNatClampNeg) by decide) h_x1 dL_law_154 ?_
  refine z_aload_n B dL_law_155 rfl 4 rfl ?_
  refine z_iload B dL_law_156 0 rfl ?_
  refine z_iconst (v := 2) B dL_law_158 (by decide) ?_
  refine z_iadd B dL_law_159 ?_
  refine z_seti (y := 2) (by decide) ?_
  refine z_sld (j := 2) (x := x2) B hX hbl hbA (by decide) (show ¬ ((2 : Int32) < 0 ∨ 6 ≤ (2 : Int32).toNatClampNeg) by decide) h_x2 dL_law_160 ?_
  refine z_aload_n B dL_law_161 rfl 4 rfl ?_
  refine z_iload B dL_law_162 0 rfl ?_
  refine z_iconst (v := 3) B dL_law_164 (by decide) ?_
  refine z_iadd B dL_law_165 ?_
  refine z_seti (y := 3) (by decide) ?_
  refine z_sld (j := 3) (x := x3) B hX hbl hbA (by decide) (show ¬ ((3 : Int32) < 0 ∨ 6 ≤ (3 : Int32).toNatClampNeg) by decide) h_x3 dL_law_166 ?_
  refine z_aload_n B dL_law_167 rfl 4 rfl ?_
  refine z_iload B dL_law_168 0 rfl ?_
  refine z_iconst (v := 4) B dL_law_170 (by decide) ?_
  refine z_iadd B dL_law_171 ?_
  refine z_seti (y := 4) (by decide) ?_
  refine z_sld (j := 4) (x := x4) B hX hbl hbA (by decide) (show ¬ ((4 : Int32) < 0 ∨ 6 ≤ (4 : Int32).toNatClampNeg) by decide) h_x4 dL_law_172 ?_
  refine z_aload_n B dL_law_173 rfl 4 rfl ?_
  refine z_iload B dL_law_174 0 rfl ?_
  refine z_iconst (v := 5) B dL_law_176 (by decide) ?_
  refine z_iadd B dL_law_177 ?_
  refine z_seti (y := 5) (by decide) ?_
  refine z_sld (j := 5) (x := x5) B hX hbl hbA (by decide) (show ¬ ((5 : Int32) < 0 ∨ 6 ≤ (5 : Int32).toNatClampNeg) by decide) h_x5 dL_law_178 ?_
  refine z_aload_n B dL_law_179 rfl 1 rfl ?_
  refine z_cSWi (As := [.ref (b + 0), .int 0, .int x2, .int x3, .int x4, .int x5, .ref (b + 431)]) (rest := []) B cw_L_74 dL_law_180 (ci_L_set_53 l hlt (σ := (ap b σ [] [] [])) (b := b) (lyA hK) x2 x3 x4 x5 q1_x2 q2_x2 (rR_at 0 0 (fz_R hF 0 0 rfl rfl)) (rR_at 1 0 (fz_R hF 1 0 rfl rfl))) rfl (by decide) rfl (Nat.le_of_ble_eq_true rfl) (by decide) (fun r u hu => ?_)
  obtain ⟨hu1, z, hu⟩ := hu
  refine z_eqs (σ' := (ap b (wx_Z σ z) [] [] [])) (hu.trans az_ap) ?_
  show zx p l e _ s m _ below meth c g 8 _ _ _ _ 183 [(4, .int 0), (3, .ref (b + 431)), (2, .ref (b + 405)), (1, .ref (b + 0)), (0, .ref bS)] _
  refine z_seti (y := 1) hu1 ?_
  refine z_istore (lv' := [(5, .int 1), (4, .int 0), (3, .ref (b + 431)), (2, .ref (b + 405)), (1, .ref (b + 0)), (0, .ref bS)]) B dL_law_183 (by decide) rfl ?_
  refine z_aload_n B dL_law_185 rfl 3 rfl ?_
  refine z_aload_n B dL_law_186 rfl 5 rfl ?_
  refine z_iload B dL_law_187 1 rfl ?_
  refine z_iconst (v := 1) B dL_law_189 (by decide) ?_
  refine z_iadd B dL_law_190 ?_
  refine z_seti (y := 1) (by decide) ?_
  refine z_sld (j := 1) (x := 0) B hX hbl hbA (by decide) (show ¬ ((1 : Int32) < 0 ∨ 6 ≤ (1 : Int32).toNatClampNeg) by decide) h_x1 dL_law_191 ?_
  refine z_aload_n B dL_law_192 rfl 5 rfl ?_
  refine z_iload B dL_law_193 1 rfl ?_
  refine z_iconst (v := 2) B dL_law_195 (by decide) ?_
  refine z_iadd B dL_law_196 ?_
  refine z_seti (y := 2) (by decide) ?_
  refine z_sld (j := 2) (x := x2) B hX hbl hbA (by decide) (show ¬ ((2 : Int32) < 0 ∨ 6 ≤ (2 : Int32).toNatClampNeg) by decide) h_x2 dL_law_197 ?_
  refine z_aload_n B dL_law_198 rfl 5 rfl ?_
  refine z_iload B dL_law_199 1 rfl ?_
  refine z_iconst (v := 3) B dL_law_201 (by decide) ?_
  refine z_iadd B dL_law_202 ?_
  refine z_seti (y := 3) (by decide) ?_
  refine z_sld (j := 3) (x := x3) B hX hbl hbA (by decide) (show ¬ ((3 : Int32) < 0 ∨ 6 ≤ (3 : Int32).toNatClampNeg) by decide) h_x3 dL_law_203 ?_
  refine z_aload_n B dL_law_204 rfl 5 rfl ?_
  refine z_iload B dL_law_205 1 rfl ?_
  refine z_iconst (v := 4) B dL_law_207 (by decide) ?_
  refine z_iadd B dL_law_208 ?_
  refine z_seti (y := 4) (by decide) ?_
  refine z_sld (j := 4) (x := x4) B hX hbl hbA (by decide) (show ¬ ((4 : Int32) < 0 ∨ 6 ≤ (4 : Int32).toNatClampNeg) by decide) h_x4 dL_law_209 ?_
  refine z_aload_n B dL_law_210 rfl 5 rfl ?_
  refine z_iload B dL_law_211 1 rfl ?_
  refine z_iconst (v := 5) B dL_law_213 (by decide) ?_
  refine z_iadd B dL_law_214 ?_
  refine z_seti (y := 5) (by decide) ?_
  refine z_sld (j := 5) (x := x5) B hX hbl hbA (by decide) (show ¬ ((5 : Int32) < 0 ∨ 6 ≤ (5 : Int32).toNatClampNeg) by decide) h_x5 dL_law_215 ?_
  refine z_cVi (As := [.int 0, .int x2, .int x3, .int x4, .int x5]) (rest := []) B cw_L_79 cx_10 dL_law_216 (ci_X9_set_59 l (σ := (ap b (wx_Z σ z) [] [] [])) (b := b) (lyA (lyZ hK)) x2 x3 x4 x5 q1_x2 q2_x2 q1_x3 q2_x3 q1_x4 q2_x4 q1_x5 q2_x5) (lKA (lKZ (hk_K hK 405 rfl rfl))) rfl (by decide) rfl (Nat.le_of_ble_eq_true rfl) (by decide) (fun r u hu => ?_)
  refine z_eqs (σ' := (ap b (wx_Z σ z) [(405, 0, 1)] [] [])) (hu.2.trans ap_ap) ?_
  show zx p l e _ s m _ below meth c g 8 _ _ _ _ 219 [(5, .int 1), (4, .int 0), (3, .ref (b + 431)), (2, .ref (b + 405)), (1, .ref (b + 0)), (0, .ref bS)] _
  refine z_seti (y := 0) hu.1 ?_
  refine z_istore (lv' := [(6, .int 0), (5, .int 1), (4, .int 0), (3, .ref (b + 431)), (2, .ref (b + 405)), (1, .ref (b + 0)), (0, .ref bS)]) B dL_law_219 (by decide) rfl ?_
  refine z_aload_n B dL_law_221 rfl 4 rfl ?_
  refine z_cVi (As := []) (rest := []) B cw_L_80 cx_10 dL_law_222 (ci_X9_thrown_31 l (σ := (ap b (wx_Z σ z) [(405, 0, 1)] [] [])) (b := b) (lyA (lyZ hK)) (rI_at 405 0 rfl)) (lKA (lKZ (hk_K hK 405 rfl rfl))) rfl (by decide) rfl (Nat.le_of_ble_eq_true rfl) (by decide) (fun r u hu => ?_)
  refine z_eqs (σ' := (ap b (wx_Z σ z) [(405, 0, 1)] [] [])) hu.2 ?_
  show zx p l e _ s m _ below meth c g 8 _ _ _ _ 225 [(6, .int 0), (5, .int 1), (4, .int 0), (3, .ref (b + 431)), (2, .ref (b + 405)), (1, .ref (b + 0)), (0, .ref bS)] _
  refine z_seti (y := 1) hu.1 ?_
  refine z_iload B dL_law_225 1 rfl ?_
  refine z_icmp_eq (tgt := 232) B dL_law_227 (by decide) (fun _ => ?_) (fun h => absurd (by decide) h)
  refine z_iload B dL_law_232 1 rfl ?_
  refine z_if_ne (tgt := 249) B dL_law_234 (by decide) (fun _ => ?_) (fun h => absurd h (by decide))
  refine z_goto (tgt := 1395) B dL_law_249 (by decide) ?_
  exact z_widen (Nat.le_of_ble_eq_true rfl) (Nat.le_of_ble_eq_true rfl) (z_sub _ [2, 6] rfl (kk _))
set_option maxRecDepth 100000 in
set_option maxHeartbeats 4000000 in
theorem lf_0_10 {p : Program} {l : Launch} {e : Env} {s : State} {m : MethodId} {args : Array Value} {below : List Frame} {meth : Method} {c : Code} {g : gx_T} {Q : State → Prop} {σ : sx_T} {b t bS : Nat} {xs : Nat → Int32} (hlt : l.stackTraces = false) (B : zx_B p s m args meth c code RL 8 g) (hX : va_X bS 6 xs s s.heap) (hbl : bS < s.heap.size) (hbA : ¬ gx_b g ≤ bS) (hF : fz_P b t σ) (h_x1 : xs 1 = 0) {x2 : Int32} (h_x2 : xs 2 = x2) (q1_x2 : (-2147483648 : Int) ≤ x2.toInt) (q2_x2 : x2.toInt ≤ (-1 : Int)) {x3 : Int32} (h_x3 : xs 3 = x3) (q1_x3 : (0 : Int) ≤ x3.toInt) (q2_x3 : x3.toInt ≤ (17 : Int)) {x4 : Int32} (h_x4 : xs 4 = x4) (q1_x4 : (0 : Int) ≤ x4.toInt) (q2_x4 : x4.toInt ≤ (99 : Int)) {x5 : Int32} (h_x5 : xs 5 = x5) (q1_x5 : (0 : Int) ≤ x5.toInt) (q2_x5 : x5.toInt ≤ (99 : Int)) (kk : ∀ σ', zx p l e room_1 s m args below meth c g 8 600002 7302232 Q σ' 1395 [(4, .int 0), (0, .ref bS)] []) : zx p l e room_1 s m args below meth c g 8 500 100000 Q σ 148 [(4, .int 0), (3, .ref (b + 431)), (2, .ref (b + 405)), (1, .ref (b + 0)), (0, .ref bS)] [] := by
  have hK := fz_lay hF
  refine z_eqs (σ' := (ap b σ [] [] [])) rfl ?_
  refine z_aload_n B dL_law_148 rfl 3 rfl ?_
  refine z_aload_n B dL_law_149 rfl 4 rfl ?_
  refine z_iload B dL_law_150 0 rfl ?_
  refine z_iconst (v := 1) B dL_law_152 (by decide) ?_
  refine z_iadd B dL_law_153 ?_
  refine z_seti (y := 1) (by decide) ?_
  refine z_sld (j := 1) (x := 0) B hX hbl hbA (by decide) (show ¬ ((1 : Int32) < 0 ∨ 6 ≤ (1 : Int32).toNatClampNeg) by decide) h_x1 dL_law_154 ?_
  refine z_aload_n B dL_law_155 rfl 4 rfl ?_
  refine z_iload B dL_law_156 0 rfl ?_
  refine z_iconst (v := 2) B dL_law_158 (by decide) ?_
  refine z_iadd B dL_law_159 ?_
  refine z_seti (y := 2) (by decide) ?_
  refine z_sld (j := 2) (x := x2) B hX hbl hbA (by decide) (show ¬ ((2 : Int32) < 0 ∨ 6 ≤ (2 : Int32).toNatClampNeg) by decide) h_x2 dL_law_160 ?_
  refine z_aload_n B dL_law_161 rfl 4 rfl ?_
  refine z_iload B dL_law_162 0 rfl ?_
  refine z_iconst (v := 3) B dL_law_164 (by decide) ?_
  refine z_iadd B dL_law_165 ?_
  refine z_seti (y := 3) (by decide) ?_
  refine z_sld (j := 3) (x := x3) B hX hbl hbA (by decide) (show ¬ ((3 : Int32) < 0 ∨ 6 ≤ (3 : Int32).toNatClampNeg) by decide) h_x3 dL_law_166 ?_
  refine z_aload_n B dL_law_167 rfl 4 rfl ?_
  refine z_iload B dL_law_168 0 rfl ?_
  refine z_iconst (v := 4) B dL_law_170 (by decide) ?_
  refine z_iadd B dL_law_171 ?_
  refine z_seti (y := 4) (by decide) ?_
  refine z_sld (j := 4) (x := x4) B hX hbl hbA (by decide) (show ¬ ((4 : Int32) < 0 ∨ 6 ≤ (4 : Int32).toNatClampNeg) by decide) h_x4 dL_law_172 ?_
  refine z_aload_n B dL_law_173 rfl 4 rfl ?_
  refine z_iload B dL_law_174 0 rfl ?_
  refine z_iconst (v := 5) B dL_law_176 (by decide) ?_
  refine z_iadd B dL_law_177 ?_
  refine z_seti (y := 5) (by decide) ?_
  refine z_sld (j := 5) (x := x5) B hX hbl hbA (by decide) (show ¬ ((5 : Int32) < 0 ∨ 6 ≤ (5 : Int32).toNatClampNeg) by decide) h_x5 dL_law_178 ?_
  refine z_aload_n B dL_law_179 rfl 1 rfl ?_
  refine z_cSWi (As := [.ref (b + 0), .int 0, .int x2, .int x3, .int x4, .int x5, .ref (b + 431)]) (rest := []) B cw_L_74 dL_law_180 (ci_L_set_53 l hlt (σ := (ap b σ [] [] [])) (b := b) (lyA hK) x2 x3 x4 x5 q1_x2 q2_x2 (rR_at 0 0 (fz_R hF 0 0 rfl rfl)) (rR_at 1 0 (fz_R hF 1 0 rfl rfl))) rfl (by decide) rfl (Nat.le_of_ble_eq_true rfl) (by decide) (fun r u hu => ?_)
  obtain ⟨hu1, z, hu⟩ := hu
  refine z_eqs (σ' := (ap b (wx_Z σ z) [] [] [])) (hu.trans az_ap) ?_
  show zx p l e _ s m _ below meth c g 8 _ _ _ _ 183 [(4, .int 0), (3, .ref (b + 431)), (2, .ref (b + 405)), (1, .ref (b + 0)), (0, .ref bS)] _
  refine z_seti (y := 1) hu1 ?_
  refine z_istore (lv' := [(5, .int 1), (4, .int 0), (3, .ref (b + 431)), (2, .ref (b + 405)), (1, .ref (b + 0)), (0, .ref bS)]) B dL_law_183 (by decide) rfl ?_
  refine z_aload_n B dL_law_185 rfl 3 rfl ?_
  refine z_aload_n B dL_law_186 rfl 5 rfl ?_
  refine z_iload B dL_law_187 1 rfl ?_
  refine z_iconst (v := 1) B dL_law_189 (by decide) ?_
  refine z_iadd B dL_law_190 ?_
  refine z_seti (y := 1) (by decide) ?_
  refine z_sld (j := 1) (x := 0) B hX hbl hbA (by decide) (show ¬ ((1 : Int32) < 0 ∨ 6 ≤ (1 : Int32).toNatClampNeg) by decide) h_x1 dL_law_191 ?_
  refine z_aload_n B dL_law_192 rfl 5 rfl ?_
  refine z_iload B dL_law_193 1 rfl ?_
  refine z_iconst (v := 2) B dL_law_195 (by decide) ?_
  refine z_iadd B dL_law_196 ?_
  refine z_seti (y := 2) (by decide) ?_
  refine z_sld (j := 2) (x := x2) B hX hbl hbA (by decide) (show ¬ ((2 : Int32) < 0 ∨ 6 ≤ (2 : Int32).toNatClampNeg) by decide) h_x2 dL_law_197 ?_
  refine z_aload_n B dL_law_198 rfl 5 rfl ?_
  refine z_iload B dL_law_199 1 rfl ?_
  refine z_iconst (v := 3) B dL_law_201 (by decide) ?_
  refine z_iadd B dL_law_202 ?_
  refine z_seti (y := 3) (by decide) ?_
  refine z_sld (j := 3) (x := x3) B hX hbl hbA (by decide) (show ¬ ((3 : Int32) < 0 ∨ 6 ≤ (3 : Int32).toNatClampNeg) by decide) h_x3 dL_law_203 ?_
  refine z_aload_n B dL_law_204 rfl 5 rfl ?_
  refine z_iload B dL_law_205 1 rfl ?_
  refine z_iconst (v := 4) B dL_law_207 (by decide) ?_
  refine z_iadd B dL_law_208 ?_
  refine z_seti (y := 4) (by decide) ?_
  refine z_sld (j := 4) (x := x4) B hX hbl hbA (by decide) (show ¬ ((4 : Int32) < 0 ∨ 6 ≤ (4 : Int32).toNatClampNeg) by decide) h_x4 dL_law_209 ?_
  refine z_aload_n B dL_law_210 rfl 5 rfl ?_
  refine z_iload B dL_law_211 1 rfl ?_
  refine z_iconst (v := 5) B dL_law_213 (by decide) ?_
  refine z_iadd B dL_law_214 ?_
  refine z_seti (y := 5) (by decide) ?_
  refine z_sld (j := 5) (x := x5) B hX hbl hbA (by decide) (show ¬ ((5 : Int32) < 0 ∨ 6 ≤ (5 : Int32).toNatClampNeg) by decide) h_x5 dL_law_215 ?_
  refine z_cVi (As := [.int 0, .int x2, .int x3, .int x4, .int x5]) (rest := []) B cw_L_79 cx_10 dL_law_216 (ci_X9_set_60 l (σ := (ap b (wx_Z σ z) [] [] [])) (b := b) (lyA (lyZ hK)) x2 x3 x4 x5 q1_x2 q2_x2 q1_x3 q2_x3 q1_x4 q2_x4 q1_x5 q2_x5) (lKA (lKZ (hk_K hK 405 rfl rfl))) rfl (by decide) rfl (Nat.le_of_ble_eq_true rfl) (by decide) (fun r u hu => ?_)
  refine z_eqs (σ' := (ap b (wx_Z σ z) [(405, 0, 1)] [] [])) (hu.2.trans ap_ap) ?_
  show zx p l e _ s m _ below meth c g 8 _ _ _ _ 219 [(5, .int 1), (4, .int 0), (3, .ref (b + 431)), (2, .ref (b + 405)), (1, .ref (b + 0)), (0, .ref bS)] _
  refine z_seti (y := 0) hu.1 ?_
  refine z_istore (lv' := [(6, .int 0), (5, .int 1), (4, .int 0), (3, .ref (b + 431)), (2, .ref (b + 405)), (1, .ref (b + 0)), (0, .ref bS)]) B dL_law_219 (by decide) rfl ?_
  refine z_aload_n B dL_law_221 rfl 4 rfl ?_
  refine z_cVi (As := []) (rest := []) B cw_L_80 cx_10 dL_law_222 (ci_X9_thrown_31 l (σ := (ap b (wx_Z σ z) [(405, 0, 1)] [] [])) (b := b) (lyA (lyZ hK)) (rI_at 405 0 rfl)) (lKA (lKZ (hk_K hK 405 rfl rfl))) rfl (by decide) rfl (Nat.le_of_ble_eq_true rfl) (by decide) (fun r u hu => ?_)
  refine z_eqs (σ' := (ap b (wx_Z σ z) [(405, 0, 1)] [] [])) hu.2 ?_
  show zx p l e _ s m _ below meth c g 8 _ _ _ _ 225 [(6, .int 0), (5, .int 1), (4, .int 0), (3, .ref (b + 431)), (2, .ref (b + 405)), (1, .ref (b + 0)), (0, .ref bS)] _
  refine z_seti (y := 1) hu.1 ?_
  refine z_iload B dL_law_225 1 rfl ?_
  refine z_icmp_eq (tgt := 232) B dL_law_227 (by decide) (fun _ => ?_) (fun h => absurd (by decide) h)
  refine z_iload B dL_law_232 1 rfl ?_
  refine z_if_ne (tgt := 249) B dL_law_234 (by decide) (fun _ => ?_) (fun h => absurd h (by decide))
  refine z_goto (tgt := 1395) B dL_law_249 (by decide) ?_
  exact z_widen (Nat.le_of_ble_eq_true rfl) (Nat.le_of_ble_eq_true rfl) (z_sub _ [2, 6] rfl (kk _))
set_option maxRecDepth 100000 in
set_option maxHeartbeats 4000000 in
theorem lf_0_11 {p : Program} {l : Launch} {e : Env} {s : State} {m : MethodId} {args : Array Value} {below : List Frame} {meth : Method} {c : Code} {g : gx_T} {Q : State → Prop} {σ : sx_T} {b t bS : Nat} {xs : Nat → Int32} (hlt : l.stackTraces = false) (B : zx_B p s m args meth c code RL 8 g) (hX : va_X bS 6 xs s s.heap) (hbl : bS < s.heap.size) (hbA : ¬ gx_b g ≤ bS) (hF : fz_P b t σ) (h_x1 : xs 1 = 0) {x2 : Int32} (h_x2 : xs 2 = x2) (q1_x2 : (-2147483648 : Int) ≤ x2.toInt) (q2_x2 : x2.toInt ≤ (-1 : Int)) {x3 : Int32} (h_x3 : xs 3 = x3) (q1_x3 : (0 : Int) ≤ x3.toInt) (q2_x3 : x3.toInt ≤ (17 : Int)) {x4 : Int32} (h_x4 : xs 4 = x4) (q1_x4 : (0 : Int) ≤ x4.toInt) (q2_x4 : x4.toInt ≤ (99 : Int)) {x5 : Int32} (h_x5 : xs 5 = x5) (q1_x5 : (100 : Int) ≤ x5.toInt) (q2_x5 : x5.toInt ≤ (2147483647 : Int)) (kk : ∀ σ', zx p l e room_1 s m args below meth c g 8 600002 7302232 Q σ' 1395 [(4, .int 0), (0, .ref bS)] []) : zx p l e room_1 s m args below meth c g 8 500 100000 Q σ 148 [(4, .int 0), (3, .ref (b + 431)), (2, .ref (b + 405)), (1, .ref (b + 0)), (0, .ref bS)] [] := by
  have hK := fz_lay hF
  refine z_eqs (σ' := (ap b σ [] [] [])) rfl ?_
  refine z_aload_n B dL_law_148 rfl 3 rfl ?_
  refine z_aload_n B dL_law_149 rfl 4 rfl ?_
  refine z_iload B dL_law_150 0 rfl ?_
  refine z_iconst (v := 1) B dL_law_152 (by decide) ?_
  refine z_iadd B dL_law_153 ?_
  refine z_seti (y := 1) (by decide) ?_
  refine z_sld (j := 1) (x := 0) B hX hbl hbA (by decide) (show ¬ ((1 : Int32) < 0 ∨ 6 ≤ (1 : Int32).toNatClampNeg) by decide) h_x1 dL_law_154 ?_
  refine z_aload_n B dL_law_155 rfl 4 rfl ?_
  refine z_iload B dL_law_156 0 rfl ?_
  refine z_iconst (v := 2) B dL_law_158 (by decide) ?_
  refine z_iadd B dL_law_159 ?_
  refine z_seti (y := 2) (by decide) ?_
  refine z_sld (j := 2) (x := x2) B hX hbl hbA (by decide) (show ¬ ((2 : Int32) < 0 ∨ 6 ≤ (2 : Int32).toNatClampNeg) by decide) h_x2 dL_law_160 ?_
  refine z_aload_n B dL_law_161 rfl 4 rfl ?_
  refine z_iload B dL_law_162 0 rfl ?_
  refine z_iconst (v := 3) B dL_law_164 (by decide) ?_
  refine z_iadd B dL_law_165 ?_
  refine z_seti (y := 3) (by decide) ?_
  refine z_sld (j := 3) (x := x3) B hX hbl hbA (by decide) (show ¬ ((3 : Int32) < 0 ∨ 6 ≤ (3 : Int32).toNatClampNeg) by decide) h_x3 dL_law_166 ?_
  refine z_aload_n B dL_law_167 rfl 4 rfl ?_
  refine z_iload B dL_law_168 0 rfl ?_
  refine z_iconst (v := 4) B dL_law_170 (by decide) ?_
  refine z_iadd B dL_law_171 ?_
  refine z_seti (y := 4) (by decide) ?_
  refine z_sld (j := 4) (x := x4) B hX hbl hbA (by decide) (show ¬ ((4 : Int32) < 0 ∨ 6 ≤ (4 : Int32).toNatClampNeg) by decide) h_x4 dL_law_172 ?_
  refine z_aload_n B dL_law_173 rfl 4 rfl ?_
  refine z_iload B dL_law_174 0 rfl ?_
  refine z_iconst (v := 5) B dL_law_176 (by decide) ?_
  refine z_iadd B dL_law_177 ?_
  refine z_seti (y := 5) (by decide) ?_
  refine z_sld (j := 5) (x := x5) B hX hbl hbA (by decide) (show ¬ ((5 : Int32) < 0 ∨ 6 ≤ (5 : Int32).toNatClampNeg) by decide) h_x5 dL_law_178 ?_
  refine z_aload_n B dL_law_179 rfl 1 rfl ?_
  refine z_cSWi (As := [.ref (b + 0), .int 0, .int x2, .int x3, .int x4, .int x5, .ref (b + 431)]) (rest := []) B cw_L_74 dL_law_180 (ci_L_set_53 l hlt (σ := (ap b σ [] [] [])) (b := b) (lyA hK) x2 x3 x4 x5 q1_x2 q2_x2 (rR_at 0 0 (fz_R hF 0 0 rfl rfl)) (rR_at 1 0 (fz_R hF 1 0 rfl rfl))) rfl (by decide) rfl (Nat.le_of_ble_eq_true rfl) (by decide) (fun r u hu => ?_)
  obtain ⟨hu1, z, hu⟩ := hu
  refine z_eqs (σ' := (ap b (wx_Z σ z) [] [] [])) (hu.trans az_ap) ?_
  show zx p l e _ s m _ below meth c g 8 _ _ _ _ 183 [(4, .int 0), (3, .ref (b + 431)), (2, .ref (b + 405)), (1, .ref (b + 0)), (0, .ref bS)] _
  refine z_seti (y := 1) hu1 ?_
  refine z_istore (lv' := [(5, .int 1), (4, .int 0), (3, .ref (b + 431)), (2, .ref (b + 405)), (1, .ref (b + 0)), (0, .ref bS)]) B dL_law_183 (by decide) rfl ?_
  refine z_aload_n B dL_law_185 rfl 3 rfl ?_
  refine z_aload_n B dL_law_186 rfl 5 rfl ?_
  refine z_iload B dL_law_187 1 rfl ?_
  refine z_iconst (v := 1) B dL_law_189 (by decide) ?_
  refine z_iadd B dL_law_190 ?_
  refine z_seti (y := 1) (by decide) ?_
  refine z_sld (j := 1) (x := 0) B hX hbl hbA (by decide) (show ¬ ((1 : Int32) < 0 ∨ 6 ≤ (1 : Int32).toNatClampNeg) by decide) h_x1 dL_law_191 ?_
  refine z_aload_n B dL_law_192 rfl 5 rfl ?_
  refine z_iload B dL_law_193 1 rfl ?_
  refine z_iconst (v := 2) B dL_law_195 (by decide) ?_
  refine z_iadd B dL_law_196 ?_
  refine z_seti (y := 2) (by decide) ?_
  refine z_sld (j := 2) (x := x2) B hX hbl hbA (by decide) (show ¬ ((2 : Int32) < 0 ∨ 6 ≤ (2 : Int32).toNatClampNeg) by decide) h_x2 dL_law_197 ?_
  refine z_aload_n B dL_law_198 rfl 5 rfl ?_
  refine z_iload B dL_law_199 1 rfl ?_
  refine z_iconst (v := 3) B dL_law_201 (by decide) ?_
  refine z_iadd B dL_law_202 ?_
  refine z_seti (y := 3) (by decide) ?_
  refine z_sld (j := 3) (x := x3) B hX hbl hbA (by decide) (show ¬ ((3 : Int32) < 0 ∨ 6 ≤ (3 : Int32).toNatClampNeg) by decide) h_x3 dL_law_203 ?_
  refine z_aload_n B dL_law_204 rfl 5 rfl ?_
  refine z_iload B dL_law_205 1 rfl ?_
  refine z_iconst (v := 4) B dL_law_207 (by decide) ?_
  refine z_iadd B dL_law_208 ?_
  refine z_seti (y := 4) (by decide) ?_
  refine z_sld (j := 4) (x := x4) B hX hbl hbA (by decide) (show ¬ ((4 : Int32) < 0 ∨ 6 ≤ (4 : Int32).toNatClampNeg) by decide) h_x4 dL_law_209 ?_
  refine z_aload_n B dL_law_210 rfl 5 rfl ?_
  refine z_iload B dL_law_211 1 rfl ?_
  refine z_iconst (v := 5) B dL_law_213 (by decide) ?_
  refine z_iadd B dL_law_214 ?_
  refine z_seti (y := 5) (by decide) ?_
  refine z_sld (j := 5) (x := x5) B hX hbl hbA (by decide) (show ¬ ((5 : Int32) < 0 ∨ 6 ≤ (5 : Int32).toNatClampNeg) by decide) h_x5 dL_law_215 ?_
  refine z_cVi (As := [.int 0, .int x2, .int x3, .int x4, .int x5]) (rest := []) B cw_L_79 cx_10 dL_law_216 (ci_X9_set_61 l (σ := (ap b (wx_Z σ z) [] [] [])) (b := b) (lyA (lyZ hK)) x2 x3 x4 x5 q1_x2 q2_x2 q1_x3 q2_x3 q1_x4 q2_x4 q1_x5 q2_x5) (lKA (lKZ (hk_K hK 405 rfl rfl))) rfl (by decide) rfl (Nat.le_of_ble_eq_true rfl) (by decide) (fun r u hu => ?_)
  refine z_eqs (σ' := (ap b (wx_Z σ z) [(405, 0, 1)] [] [])) (hu.2.trans ap_ap) ?_
  show zx p l e _ s m _ below meth c g 8 _ _ _ _ 219 [(5, .int 1), (4, .int 0), (3, .ref (b + 431)), (2, .ref (b + 405)), (1, .ref (b + 0)), (0, .ref bS)] _
  refine z_seti (y := 0) hu.1 ?_
  refine z_istore (lv' := [(6, .int 0), (5, .int 1), (4, .int 0), (3, .ref (b + 431)), (2, .ref (b + 405)), (1, .ref (b + 0)), (0, .ref bS)]) B dL_law_219 (by decide) rfl ?_
  refine z_aload_n B dL_law_221 rfl 4 rfl ?_
  refine z_cVi (As := []) (rest := []) B cw_L_80 cx_10 dL_law_222 (ci_X9_thrown_31 l (σ := (ap b (wx_Z σ z) [(405, 0, 1)] [] [])) (b := b) (lyA (lyZ hK)) (rI_at 405 0 rfl)) (lKA (lKZ (hk_K hK 405 rfl rfl))) rfl (by decide) rfl (Nat.le_of_ble_eq_true rfl) (by decide) (fun r u hu => ?_)
  refine z_eqs (σ' := (ap b (wx_Z σ z) [(405, 0, 1)] [] [])) hu.2 ?_
  show zx p l e _ s m _ below meth c g 8 _ _ _ _ 225 [(6, .int 0), (5, .int 1), (4, .int 0), (3, .ref (b + 431)), (2, .ref (b + 405)), (1, .ref (b + 0)), (0, .ref bS)] _
  refine z_seti (y := 1) hu.1 ?_
  refine z_iload B dL_law_225 1 rfl ?_
  refine z_icmp_eq (tgt := 232) B dL_law_227 (by decide) (fun _ => ?_) (fun h => absurd (by decide) h)
  refine z_iload B dL_law_232 1 rfl ?_
  refine z_if_ne (tgt := 249) B dL_law_234 (by decide) (fun _ => ?_) (fun h => absurd h (by decide))
  refine z_goto (tgt := 1395) B dL_law_249 (by decide) ?_
  exact z_widen (Nat.le_of_ble_eq_true rfl) (Nat.le_of_ble_eq_true rfl) (z_sub _ [2, 6] rfl (kk _))
set_option maxRecDepth 100000 in
set_option maxHeartbeats 4000000 in
theorem lf_0_12 {p : Program} {l : Launch} {e : Env} {s : State} {m : MethodId} {args : Array Value} {below : List Frame} {meth : Method} {c : Code} {g : gx_T} {Q : State → Prop} {σ : sx_T} {b t bS : Nat} {xs : Nat → Int32} (hlt : l.stackTraces = false) (B : zx_B p s m args meth c code RL 8 g) (hX : va_X bS 6 xs s s.heap) (hbl : bS < s.heap.size) (hbA : ¬ gx_b g ≤ bS) (hF : fz_P b t σ) (h_x1 : xs 1 = 0) {x2 : Int32} (h_x2 : xs 2 = x2) (q1_x2 : (-2147483648 : Int) ≤ x2.toInt) (q2_x2 : x2.toInt ≤ (-1 : Int)) {x3 : Int32} (h_x3 : xs 3 = x3) (q1_x3 : (0 : Int) ≤ x3.toInt) (q2_x3 : x3.toInt ≤ (17 : Int)) {x4 : Int32} (h_x4 : xs 4 = x4) (q1_x4 : (100 : Int) ≤ x4.toInt) (q2_x4 : x4.toInt ≤ (2147483647 : Int)) {x5 : Int32} (h_x5 : xs 5 = x5) (q1_x5 : (-2147483648 : Int) ≤ x5.toInt) (q2_x5 : x5.toInt ≤ (2147483647 : Int)) (kk : ∀ σ', zx p l e room_1 s m args below meth c g 8 600002 7302232 Q σ' 1395 [(4, .int 0), (0, .ref bS)] []) : zx p l e room_1 s m args below meth c g 8 500 100000 Q σ 148 [(4, .int 0), (3, .ref (b + 431)), (2, .ref (b + 405)), (1, .ref (b + 0)), (0, .ref bS)] [] := by
  have hK := fz_lay hF
  refine z_eqs (σ' := (ap b σ [] [] [])) rfl ?_
  refine z_aload_n B dL_law_148 rfl 3 rfl ?_
  refine z_aload_n B dL_law_149 rfl 4 rfl ?_
  refine z_iload B dL_law_150 0 rfl ?_
  refine z_iconst (v := 1) B dL_law_152 (by decide) ?_
  refine z_iadd B dL_law_153 ?_
  refine z_seti (y := 1) (by decide) ?_
  refine z_sld (j := 1) (x := 0) B hX hbl hbA (by decide) (show ¬ ((1 : Int32) < 0 ∨ 6 ≤ (1 : Int32).toNatClampNeg) by decide) h_x1 dL_law_154 ?_
  refine z_aload_n B dL_law_155 rfl 4 rfl ?_
  refine z_iload B dL_law_156 0 rfl ?_
  refine z_iconst (v := 2) B dL_law_158 (by decide) ?_
  refine z_iadd B dL_law_159 ?_
  refine z_seti (y := 2) (by decide) ?_
  refine z_sld (j := 2) (x := x2) B hX hbl hbA (by decide) (show ¬ ((2 : Int32) < 0 ∨ 6 ≤ (2 : Int32).toNatClampNeg) by decide) h_x2 dL_law_160 ?_
  refine z_aload_n B dL_law_161 rfl 4 rfl ?_
  refine z_iload B dL_law_162 0 rfl ?_
  refine z_iconst (v := 3) B dL_law_164 (by decide) ?_
  refine z_iadd B dL_law_165 ?_
  refine z_seti (y := 3) (by decide) ?_
  refine z_sld (j := 3) (x := x3) B hX hbl hbA (by decide) (show ¬ ((3 : Int32) < 0 ∨ 6 ≤ (3 : Int32).toNatClampNeg) by decide) h_x3 dL_law_166 ?_
  refine z_aload_n B dL_law_167 rfl 4 rfl ?_
  refine z_iload B dL_law_168 0 rfl ?_
  refine z_iconst (v := 4) B dL_law_170 (by decide) ?_
  refine z_iadd B dL_law_171 ?_
  refine z_seti (y := 4) (by decide) ?_
  refine z_sld (j := 4) (x := x4) B hX hbl hbA (by decide) (show ¬ ((4 : Int32) < 0 ∨ 6 ≤ (4 : Int32).toNatClampNeg) by decide) h_x4 dL_law_172 ?_
  refine z_aload_n B dL_law_173 rfl 4 rfl ?_
  refine z_iload B dL_law_174 0 rfl ?_
  refine z_iconst (v := 5) B dL_law_176 (by decide) ?_
  refine z_iadd B dL_law_177 ?_
  refine z_seti (y := 5) (by decide) ?_
  refine z_sld (j := 5) (x := x5) B hX hbl hbA (by decide) (show ¬ ((5 : Int32) < 0 ∨ 6 ≤ (5 : Int32).toNatClampNeg) by decide) h_x5 dL_law_178 ?_
  refine z_aload_n B dL_law_179 rfl 1 rfl ?_
  refine z_cSWi (As := [.ref (b + 0), .int 0, .int x2, .int x3, .int x4, .int x5, .ref (b + 431)]) (rest := []) B cw_L_74 dL_law_180 (ci_L_set_53 l hlt (σ := (ap b σ [] [] [])) (b := b) (lyA hK) x2 x3 x4 x5 q1_x2 q2_x2 (rR_at 0 0 (fz_R hF 0 0 rfl rfl)) (rR_at 1 0 (fz_R hF 1 0 rfl rfl))) rfl (by decide) rfl (Nat.le_of_ble_eq_true rfl) (by decide) (fun r u hu => ?_)
  obtain ⟨hu1, z, hu⟩ := hu
  refine z_eqs (σ' := (ap b (wx_Z σ z) [] [] [])) (hu.trans az_ap) ?_
  show zx p l e _ s m _ below meth c g 8 _ _ _ _ 183 [(4, .int 0), (3, .ref (b + 431)), (2, .ref (b + 405)), (1, .ref (b + 0)), (0, .ref bS)] _
  refine z_seti (y := 1) hu1 ?_
  refine z_istore (lv' := [(5, .int 1), (4, .int 0), (3, .ref (b + 431)), (2, .ref (b + 405)), (1, .ref (b + 0)), (0, .ref bS)]) B dL_law_183 (by decide) rfl ?_
  refine z_aload_n B dL_law_185 rfl 3 rfl ?_
  refine z_aload_n B dL_law_186 rfl 5 rfl ?_
  refine z_iload B dL_law_187 1 rfl ?_
  refine z_iconst (v := 1) B dL_law_189 (by decide) ?_
  refine z_iadd B dL_law_190 ?_
  refine z_seti (y := 1) (by decide) ?_
  refine z_sld (j := 1) (x := 0) B hX hbl hbA (by decide) (show ¬ ((1 : Int32) < 0 ∨ 6 ≤ (1 : Int32).toNatClampNeg) by decide) h_x1 dL_law_191 ?_
  refine z_aload_n B dL_law_192 rfl 5 rfl ?_
  refine z_iload B dL_law_193 1 rfl ?_
  refine z_iconst (v := 2) B dL_law_195 (by decide) ?_
  refine z_iadd B dL_law_196 ?_
  refine z_seti (y := 2) (by decide) ?_
  refine z_sld (j := 2) (x := x2) B hX hbl hbA (by decide) (show ¬ ((2 : Int32) < 0 ∨ 6 ≤ (2 : Int32).toNatClampNeg) by decide) h_x2 dL_law_197 ?_
  refine z_aload_n B dL_law_198 rfl 5 rfl ?_
  refine z_iload B dL_law_199 1 rfl ?_
  refine z_iconst (v := 3) B dL_law_201 (by decide) ?_
  refine z_iadd B dL_law_202 ?_
  refine z_seti (y := 3) (by decide) ?_
  refine z_sld (j := 3) (x := x3) B hX hbl hbA (by decide) (show ¬ ((3 : Int32) < 0 ∨ 6 ≤ (3 : Int32).toNatClampNeg) by decide) h_x3 dL_law_203 ?_
  refine z_aload_n B dL_law_204 rfl 5 rfl ?_
  refine z_iload B dL_law_205 1 rfl ?_
  refine z_iconst (v := 4) B dL_law_207 (by decide) ?_
  refine z_iadd B dL_law_208 ?_
  refine z_seti (y := 4) (by decide) ?_
  refine z_sld (j := 4) (x := x4) B hX hbl hbA (by decide) (show ¬ ((4 : Int32) < 0 ∨ 6 ≤ (4 : Int32).toNatClampNeg) by decide) h_x4 dL_law_209 ?_
  refine z_aload_n B dL_law_210 rfl 5 rfl ?_
  refine z_iload B dL_law_211 1 rfl ?_
  refine z_iconst (v := 5) B dL_law_213 (by decide) ?_
  refine z_iadd B dL_law_214 ?_
  refine z_seti (y := 5) (by decide) ?_
  refine z_sld (j := 5) (x := x5) B hX hbl hbA (by decide) (show ¬ ((5 : Int32) < 0 ∨ 6 ≤ (5 : Int32).toNatClampNeg) by decide) h_x5 dL_law_215 ?_
  refine z_cVi (As := [.int 0, .int x2, .int x3, .int x4, .int x5]) (rest := []) B cw_L_79 cx_10 dL_law_216 (ci_X9_set_62 l (σ := (ap b (wx_Z σ z) [] [] [])) (b := b) (lyA (lyZ hK)) x2 x3 x4 x5 q1_x2 q2_x2 q1_x3 q2_x3 q1_x4 q2_x4) (lKA (lKZ (hk_K hK 405 rfl rfl))) rfl (by decide) rfl (Nat.le_of_ble_eq_true rfl) (by decide) (fun r u hu => ?_)
  refine z_eqs (σ' := (ap b (wx_Z σ z) [(405, 0, 1)] [] [])) (hu.2.trans ap_ap) ?_
  show zx p l e _ s m _ below meth c g 8 _ _ _ _ 219 [(5, .int 1), (4, .int 0), (3, .ref (b + 431)), (2, .ref (b + 405)), (1, .ref (b + 0)), (0, .ref bS)] _
  refine z_seti (y := 0) hu.1 ?_
  refine z_istore (lv' := [(6, .int 0), (5, .int 1), (4, .int 0), (3, .ref (b + 431)), (2, .ref (b + 405)), (1, .ref (b + 0)), (0, .ref bS)]) B dL_law_219 (by decide) rfl ?_
  refine z_aload_n B dL_law_221 rfl 4 rfl ?_
  refine z_cVi (As := []) (rest := []) B cw_L_80 cx_10 dL_law_222 (ci_X9_thrown_31 l (σ := (ap b (wx_Z σ z) [(405, 0, 1)] [] [])) (b := b) (lyA (lyZ hK)) (rI_at 405 0 rfl)) (lKA (lKZ (hk_K hK 405 rfl rfl))) rfl (by decide) rfl (Nat.le_of_ble_eq_true rfl) (by decide) (fun r u hu => ?_)
  refine z_eqs (σ' := (ap b (wx_Z σ z) [(405, 0, 1)] [] [])) hu.2 ?_
  show zx p l e _ s m _ below meth c g 8 _ _ _ _ 225 [(6, .int 0), (5, .int 1), (4, .int 0), (3, .ref (b + 431)), (2, .ref (b + 405)), (1, .ref (b + 0)), (0, .ref bS)] _
  refine z_seti (y := 1) hu.1 ?_
  refine z_iload B dL_law_225 1 rfl ?_
  refine z_icmp_eq (tgt := 232) B dL_law_227 (by decide) (fun _ => ?_) (fun h => absurd (by decide) h)
  refine z_iload B dL_law_232 1 rfl ?_
  refine z_if_ne (tgt := 249) B dL_law_234 (by decide) (fun _ => ?_) (fun h => absurd h (by decide))
  refine z_goto (tgt := 1395) B dL_law_249 (by decide) ?_
  exact z_widen (Nat.le_of_ble_eq_true rfl) (Nat.le_of_ble_eq_true rfl) (z_sub _ [2, 6] rfl (kk _))
set_option maxRecDepth 100000 in
set_option maxHeartbeats 4000000 in
theorem lf_0_13 {p : Program} {l : Launch} {e : Env} {s : State} {m : MethodId} {args : Array Value} {below : List Frame} {meth : Method} {c : Code} {g : gx_T} {Q : State → Prop} {σ : sx_T} {b t bS : Nat} {xs : Nat → Int32} (hlt : l.stackTraces = false) (B : zx_B p s m args meth c code RL 8 g) (hX : va_X bS 6 xs s s.heap) (hbl : bS < s.heap.size) (hbA : ¬ gx_b g ≤ bS) (hF : fz_P b t σ) (h_x1 : xs 1 = 0) {x2 : Int32} (h_x2 : xs 2 = x2) (q1_x2 : (-2147483648 : Int) ≤ x2.toInt) (q2_x2 : x2.toInt ≤ (-1 : Int)) {x3 : Int32} (h_x3 : xs 3 = x3) (q1_x3 : (18 : Int) ≤ x3.toInt) (q2_x3 : x3.toInt ≤ (2147483647 : Int)) {x4 : Int32} (h_x4 : xs 4 = x4) (q1_x4 : (-2147483648 : Int) ≤ x4.toInt) (q2_x4 : x4.toInt ≤ (2147483647 : Int)) {x5 : Int32} (h_x5 : xs 5 = x5) (q1_x5 : (-2147483648 : Int) ≤ x5.toInt) (q2_x5 : x5.toInt ≤ (2147483647 : Int)) (kk : ∀ σ', zx p l e room_1 s m args below meth c g 8 600002 7302232 Q σ' 1395 [(4, .int 0), (0, .ref bS)] []) : zx p l e room_1 s m args below meth c g 8 500 100000 Q σ 148 [(4, .int 0), (3, .ref (b + 431)), (2, .ref (b + 405)), (1, .ref (b + 0)), (0, .ref bS)] [] := by
  have hK := fz_lay hF
  refine z_eqs (σ' := (ap b σ [] [] [])) rfl ?_
  refine z_aload_n B dL_law_148 rfl 3 rfl ?_
  refine z_aload_n B dL_law_149 rfl 4 rfl ?_
  refine z_iload B dL_law_150 0 rfl ?_
  refine z_iconst (v := 1) B dL_law_152 (by decide) ?_
  refine z_iadd B dL_law_153 ?_
  refine z_seti (y := 1) (by decide) ?_
  refine z_sld (j := 1) (x := 0) B hX hbl hbA (by decide) (show ¬ ((1 : Int32) < 0 ∨ 6 ≤ (1 : Int32).toNatClampNeg) by decide) h_x1 dL_law_154 ?_
  refine z_aload_n B dL_law_155 rfl 4 rfl ?_
  refine z_iload B dL_law_156 0 rfl ?_
  refine z_iconst (v := 2) B dL_law_158 (by decide) ?_
  refine z_iadd B dL_law_159 ?_
  refine z_seti (y := 2) (by decide) ?_
  refine z_sld (j := 2) (x := x2) B hX hbl hbA (by decide) (show ¬ ((2 : Int32) < 0 ∨ 6 ≤ (2 : Int32).toNatClampNeg) by decide) h_x2 dL_law_160 ?_
  refine z_aload_n B dL_law_161 rfl 4 rfl ?_
  refine z_iload B dL_law_162 0 rfl ?_
  refine z_iconst (v := 3) B dL_law_164 (by decide) ?_
  refine z_iadd B dL_law_165 ?_
  refine z_seti (y := 3) (by decide) ?_
  refine z_sld (j := 3) (x := x3) B hX hbl hbA (by decide) (show ¬ ((3 : Int32) < 0 ∨ 6 ≤ (3 : Int32).toNatClampNeg) by decide) h_x3 dL_law_166 ?_
  refine z_aload_n B dL_law_167 rfl 4 rfl ?_
  refine z_iload B dL_law_168 0 rfl ?_
  refine z_iconst (v := 4) B dL_law_170 (by decide) ?_
  refine z_iadd B dL_law_171 ?_
  refine z_seti (y := 4) (by decide) ?_
  refine z_sld (j := 4) (x := x4) B hX hbl hbA (by decide) (show ¬ ((4 : Int32) < 0 ∨ 6 ≤ (4 : Int32).toNatClampNeg) by decide) h_x4 dL_law_172 ?_
  refine z_aload_n B dL_law_173 rfl 4 rfl ?_
  refine z_iload B dL_law_174 0 rfl ?_
  refine z_iconst (v := 5) B dL_law_176 (by decide) ?_
  refine z_iadd B dL_law_177 ?_
  refine z_seti (y := 5) (by decide) ?_
  refine z_sld (j := 5) (x := x5) B hX hbl hbA (by decide) (show ¬ ((5 : Int32) < 0 ∨ 6 ≤ (5 : Int32).toNatClampNeg) by decide) h_x5 dL_law_178 ?_
  refine z_aload_n B dL_law_179 rfl 1 rfl ?_
  refine z_cSWi (As := [.ref (b + 0), .int 0, .int x2, .int x3, .int x4, .int x5, .ref (b + 431)]) (rest := []) B cw_L_74 dL_law_180 (ci_L_set_53 l hlt (σ := (ap b σ [] [] [])) (b := b) (lyA hK) x2 x3 x4 x5 q1_x2 q2_x2 (rR_at 0 0 (fz_R hF 0 0 rfl rfl)) (rR_at 1 0 (fz_R hF 1 0 rfl rfl))) rfl (by decide) rfl (Nat.le_of_ble_eq_true rfl) (by decide) (fun r u hu => ?_)
  obtain ⟨hu1, z, hu⟩ := hu
  refine z_eqs (σ' := (ap b (wx_Z σ z) [] [] [])) (hu.trans az_ap) ?_
  show zx p l e _ s m _ below meth c g 8 _ _ _ _ 183 [(4, .int 0), (3, .ref (b + 431)), (2, .ref (b + 405)), (1, .ref (b + 0)), (0, .ref bS)] _
  refine z_seti (y := 1) hu1 ?_
  refine z_istore (lv' := [(5, .int 1), (4, .int 0), (3, .ref (b + 431)), (2, .ref (b + 405)), (1, .ref (b + 0)), (0, .ref bS)]) B dL_law_183 (by decide) rfl ?_
  refine z_aload_n B dL_law_185 rfl 3 rfl ?_
  refine z_aload_n B dL_law_186 rfl 5 rfl ?_
  refine z_iload B dL_law_187 1 rfl ?_
  refine z_iconst (v := 1) B dL_law_189 (by decide) ?_
  refine z_iadd B dL_law_190 ?_
  refine z_seti (y := 1) (by decide) ?_
  refine z_sld (j := 1) (x := 0) B hX hbl hbA (by decide) (show ¬ ((1 : Int32) < 0 ∨ 6 ≤ (1 : Int32).toNatClampNeg) by decide) h_x1 dL_law_191 ?_
  refine z_aload_n B dL_law_192 rfl 5 rfl ?_
  refine z_iload B dL_law_193 1 rfl ?_
  refine z_iconst (v := 2) B dL_law_195 (by decide) ?_
  refine z_iadd B dL_law_196 ?_
  refine z_seti (y := 2) (by decide) ?_
  refine z_sld (j := 2) (x := x2) B hX hbl hbA (by decide) (show ¬ ((2 : Int32) < 0 ∨ 6 ≤ (2 : Int32).toNatClampNeg) by decide) h_x2 dL_law_197 ?_
  refine z_aload_n B dL_law_198 rfl 5 rfl ?_
  refine z_iload B dL_law_199 1 rfl ?_
  refine z_iconst (v := 3) B dL_law_201 (by decide) ?_
  refine z_iadd B dL_law_202 ?_
  refine z_seti (y := 3) (by decide) ?_
  refine z_sld (j := 3) (x := x3) B hX hbl hbA (by decide) (show ¬ ((3 : Int32) < 0 ∨ 6 ≤ (3 : Int32).toNatClampNeg) by decide) h_x3 dL_law_203 ?_
  refine z_aload_n B dL_law_204 rfl 5 rfl ?_
  refine z_iload B dL_law_205 1 rfl ?_
  refine z_iconst (v := 4) B dL_law_207 (by decide) ?_
  refine z_iadd B dL_law_208 ?_
  refine z_seti (y := 4) (by decide) ?_
  refine z_sld (j := 4) (x := x4) B hX hbl hbA (by decide) (show ¬ ((4 : Int32) < 0 ∨ 6 ≤ (4 : Int32).toNatClampNeg) by decide) h_x4 dL_law_209 ?_
  refine z_aload_n B dL_law_210 rfl 5 rfl ?_
  refine z_iload B dL_law_211 1 rfl ?_
  refine z_iconst (v := 5) B dL_law_213 (by decide) ?_
  refine z_iadd B dL_law_214 ?_
  refine z_seti (y := 5) (by decide) ?_
  refine z_sld (j := 5) (x := x5) B hX hbl hbA (by decide) (show ¬ ((5 : Int32) < 0 ∨ 6 ≤ (5 : Int32).toNatClampNeg) by decide) h_x5 dL_law_215 ?_
  refine z_cVi (As := [.int 0, .int x2, .int x3, .int x4, .int x5]) (rest := []) B cw_L_79 cx_10 dL_law_216 (ci_X9_set_63 l (σ := (ap b (wx_Z σ z) [] [] [])) (b := b) (lyA (lyZ hK)) x2 x3 x4 x5 q1_x2 q2_x2 q1_x3 q2_x3) (lKA (lKZ (hk_K hK 405 rfl rfl))) rfl (by decide) rfl (Nat.le_of_ble_eq_true rfl) (by decide) (fun r u hu => ?_)
  refine z_eqs (σ' := (ap b (wx_Z σ z) [(405, 0, 1)] [] [])) (hu.2.trans ap_ap) ?_
  show zx p l e _ s m _ below meth c g 8 _ _ _ _ 219 [(5, .int 1), (4, .int 0), (3, .ref (b + 431)), (2, .ref (b + 405)), (1, .ref (b + 0)), (0, .ref bS)] _
  refine z_seti (y := 0) hu.1 ?_
  refine z_istore (lv' := [(6, .int 0), (5, .int 1), (4, .int 0), (3, .ref (b + 431)), (2, .ref (b + 405)), (1, .ref (b + 0)), (0, .ref bS)]) B dL_law_219 (by decide) rfl ?_
  refine z_aload_n B dL_law_221 rfl 4 rfl ?_
  refine z_cVi (As := []) (rest := []) B cw_L_80 cx_10 dL_law_222 (ci_X9_thrown_31 l (σ := (ap b (wx_Z σ z) [(405, 0, 1)] [] [])) (b := b) (lyA (lyZ hK)) (rI_at 405 0 rfl)) (lKA (lKZ (hk_K hK 405 rfl rfl))) rfl (by decide) rfl (Nat.le_of_ble_eq_true rfl) (by decide) (fun r u hu => ?_)
  refine z_eqs (σ' := (ap b (wx_Z σ z) [(405, 0, 1)] [] [])) hu.2 ?_
  show zx p l e _ s m _ below meth c g 8 _ _ _ _ 225 [(6, .int 0), (5, .int 1), (4, .int 0), (3, .ref (b + 431)), (2, .ref (b + 405)), (1, .ref (b + 0)), (0, .ref bS)] _
  refine z_seti (y := 1) hu.1 ?_
  refine z_iload B dL_law_225 1 rfl ?_
  refine z_icmp_eq (tgt := 232) B dL_law_227 (by decide) (fun _ => ?_) (fun h => absurd (by decide) h)
  refine z_iload B dL_law_232 1 rfl ?_
  refine z_if_ne (tgt := 249) B dL_law_234 (by decide) (fun _ => ?_) (fun h => absurd h (by decide))
  refine z_goto (tgt := 1395) B dL_law_249 (by decide) ?_
  exact z_widen (Nat.le_of_ble_eq_true rfl) (Nat.le_of_ble_eq_true rfl) (z_sub _ [2, 6] rfl (kk _))
set_option maxRecDepth 100000 in
set_option maxHeartbeats 4000000 in
theorem lf_0_14 {p : Program} {l : Launch} {e : Env} {s : State} {m : MethodId} {args : Array Value} {below : List Frame} {meth : Method} {c : Code} {g : gx_T} {Q : State → Prop} {σ : sx_T} {b t bS : Nat} {xs : Nat → Int32} (hlt : l.stackTraces = false) (B : zx_B p s m args meth c code RL 8 g) (hX : va_X bS 6 xs s s.heap) (hbl : bS < s.heap.size) (hbA : ¬ gx_b g ≤ bS) (hF : fz_P b t σ) (h_x1 : xs 1 = 0) {x2 : Int32} (h_x2 : xs 2 = x2) (q1_x2 : (0 : Int) ≤ x2.toInt) (q2_x2 : x2.toInt ≤ (19 : Int)) {x3 : Int32} (h_x3 : xs 3 = x3) (q1_x3 : (-2147483648 : Int) ≤ x3.toInt) (q2_x3 : x3.toInt ≤ (-1 : Int)) {x4 : Int32} (h_x4 : xs 4 = x4) (q1_x4 : (-2147483648 : Int) ≤ x4.toInt) (q2_x4 : x4.toInt ≤ (2147483647 : Int)) {x5 : Int32} (h_x5 : xs 5 = x5) (q1_x5 : (-2147483648 : Int) ≤ x5.toInt) (q2_x5 : x5.toInt ≤ (2147483647 : Int)) (kk : ∀ σ', zx p l e room_1 s m args below meth c g 8 600002 7302232 Q σ' 1395 [(4, .int 0), (0, .ref bS)] []) : zx p l e room_1 s m args below meth c g 8 500 100000 Q σ 148 [(4, .int 0), (3, .ref (b + 431)), (2, .ref (b + 405)), (1, .ref (b + 0)), (0, .ref bS)] [] := by
  have hK := fz_lay hF
  refine z_eqs (σ' := (ap b σ [] [] [])) rfl ?_
  refine z_aload_n B dL_law_148 rfl 3 rfl ?_
  refine z_aload_n B dL_law_149 rfl 4 rfl ?_
  refine z_iload B dL_law_150 0 rfl ?_
  refine z_iconst (v := 1) B dL_law_152 (by decide) ?_
  refine z_iadd B dL_law_153 ?_
  refine z_seti (y := 1) (by decide) ?_
  refine z_sld (j := 1) (x := 0) B hX hbl hbA (by decide) (show ¬ ((1 : Int32) < 0 ∨ 6 ≤ (1 : Int32).toNatClampNeg) by decide) h_x1 dL_law_154 ?_
  refine z_aload_n B dL_law_155 rfl 4 rfl ?_
  refine z_iload B dL_law_156 0 rfl ?_
  refine z_iconst (v := 2) B dL_law_158 (by decide) ?_
  refine z_iadd B dL_law_159 ?_
  refine z_seti (y := 2) (by decide) ?_
  refine z_sld (j := 2) (x := x2) B hX hbl hbA (by decide) (show ¬ ((2 : Int32) < 0 ∨ 6 ≤ (2 : Int32).toNatClampNeg) by decide) h_x2 dL_law_160 ?_
  refine z_aload_n B dL_law_161 rfl 4 rfl ?_
  refine z_iload B dL_law_162 0 rfl ?_
  refine z_iconst (v := 3) B dL_law_164 (by decide) ?_
  refine z_iadd B dL_law_165 ?_
  refine z_seti (y := 3) (by decide) ?_
  refine z_sld (j := 3) (x := x3) B hX hbl hbA (by decide) (show ¬ ((3 : Int32) < 0 ∨ 6 ≤ (3 : Int32).toNatClampNeg) by decide) h_x3 dL_law_166 ?_
  refine z_aload_n B dL_law_167 rfl 4 rfl ?_
  refine z_iload B dL_law_168 0 rfl ?_
  refine z_iconst (v := 4) B dL_law_170 (by decide) ?_
  refine z_iadd B dL_law_171 ?_
  refine z_seti (y := 4) (by decide) ?_
  refine z_sld (j := 4) (x := x4) B hX hbl hbA (by decide) (show ¬ ((4 : Int32) < 0 ∨ 6 ≤ (4 : Int32).toNatClampNeg) by decide) h_x4 dL_law_172 ?_
  refine z_aload_n B dL_law_173 rfl 4 rfl ?_
  refine z_iload B dL_law_174 0 rfl ?_
  refine z_iconst (v := 5) B dL_law_176 (by decide) ?_
  refine z_iadd B dL_law_177 ?_
  refine z_seti (y := 5) (by decide) ?_
  refine z_sld (j := 5) (x := x5) B hX hbl hbA (by decide) (show ¬ ((5 : Int32) < 0 ∨ 6 ≤ (5 : Int32).toNatClampNeg) by decide) h_x5 dL_law_178 ?_
  refine z_aload_n B dL_law_179 rfl 1 rfl ?_
  refine z_cSWi (As := [.ref (b + 0), .int 0, .int x2, .int x3, .int x4, .int x5, .ref (b + 431)]) (rest := []) B cw_L_74 dL_law_180 (ci_L_set_68 l hlt (σ := (ap b σ [] [] [])) (b := b) (lyA hK) x2 x3 x4 x5 q1_x2 q2_x2 q1_x3 q2_x3 (rR_at 0 0 (fz_R hF 0 0 rfl rfl)) (rR_at 1 0 (fz_R hF 1 0 rfl rfl))) rfl (by decide) rfl (Nat.le_of_ble_eq_true rfl) (by decide) (fun r u hu => ?_)
  obtain ⟨hu1, z, hu⟩ := hu
  refine z_eqs (σ' := (ap b (wx_Z σ z) [] [] [])) (hu.trans az_ap) ?_
  show zx p l e _ s m _ below meth c g 8 _ _ _ _ 183 [(4, .int 0), (3, .ref (b + 431)), (2, .ref (b + 405)), (1, .ref (b + 0)), (0, .ref bS)] _
  refine z_seti (y := 2) hu1 ?_
  refine z_istore (lv' := [(5, .int 2), (4, .int 0), (3, .ref (b + 431)), (2, .ref (b + 405)), (1, .ref (b + 0)), (0, .ref bS)]) B dL_law_183 (by decide) rfl ?_
  refine z_aload_n B dL_law_185 rfl 3 rfl ?_
  refine z_aload_n B dL_law_186 rfl 5 rfl ?_
  refine z_iload B dL_law_187 1 rfl ?_
  refine z_iconst (v := 1) B dL_law_189 (by decide) ?_
  refine z_iadd B dL_law_190 ?_
  refine z_seti (y := 1) (by decide) ?_
  refine z_sld (j := 1) (x := 0) B hX hbl hbA (by decide) (show ¬ ((1 : Int32) < 0 ∨ 6 ≤ (1 : Int32).toNatClampNeg) by decide) h_x1 dL_law_191 ?_
  refine z_aload_n B dL_law_192 rfl 5 rfl ?_
  refine z_iload B dL_law_193 1 rfl ?_
  refine z_iconst (v := 2) B dL_law_195 (by decide) ?_
  refine z_iadd B dL_law_196 ?_
  refine z_seti (y := 2) (by decide) ?_
  refine z_sld (j := 2) (x := x2) B hX hbl hbA (by decide) (show ¬ ((2 : Int32) < 0 ∨ 6 ≤ (2 : Int32).toNatClampNeg) by decide) h_x2 dL_law_197 ?_
  refine z_aload_n B dL_law_198 rfl 5 rfl ?_
  refine z_iload B dL_law_199 1 rfl ?_
  refine z_iconst (v := 3) B dL_law_201 (by decide) ?_
  refine z_iadd B dL_law_202 ?_
  refine z_seti (y := 3) (by decide) ?_
  refine z_sld (j := 3) (x := x3) B hX hbl hbA (by decide) (show ¬ ((3 : Int32) < 0 ∨ 6 ≤ (3 : Int32).toNatClampNeg) by decide) h_x3 dL_law_203 ?_
  refine z_aload_n B dL_law_204 rfl 5 rfl ?_
  refine z_iload B dL_law_205 1 rfl ?_
  refine z_iconst (v := 4) B dL_law_207 (by decide) ?_
  refine z_iadd B dL_law_208 ?_
  refine z_seti (y := 4) (by decide) ?_
  refine z_sld (j := 4) (x := x4) B hX hbl hbA (by decide) (show ¬ ((4 : Int32) < 0 ∨ 6 ≤ (4 : Int32).toNatClampNeg) by decide) h_x4 dL_law_209 ?_
  refine z_aload_n B dL_law_210 rfl 5 rfl ?_
  refine z_iload B dL_law_211 1 rfl ?_
  refine z_iconst (v := 5) B dL_law_213 (by decide) ?_
  refine z_iadd B dL_law_214 ?_
  refine z_seti (y := 5) (by decide) ?_
  refine z_sld (j := 5) (x := x5) B hX hbl hbA (by decide) (show ¬ ((5 : Int32) < 0 ∨ 6 ≤ (5 : Int32).toNatClampNeg) by decide) h_x5 dL_law_215 ?_
  refine z_cVi (As := [.int 0, .int x2, .int x3, .int x4, .int x5]) (rest := []) B cw_L_79 cx_10 dL_law_216 (ci_X9_set_72 l (σ := (ap b (wx_Z σ z) [] [] [])) (b := b) (lyA (lyZ hK)) x2 x3 x4 x5 q1_x2 q2_x2 q1_x3 q2_x3) (lKA (lKZ (hk_K hK 405 rfl rfl))) rfl (by decide) rfl (Nat.le_of_ble_eq_true rfl) (by decide) (fun r u hu => ?_)
  refine z_eqs (σ' := (ap b (wx_Z σ z) [(405, 0, 2)] [] [])) (hu.2.trans ap_ap) ?_
  show zx p l e _ s m _ below meth c g 8 _ _ _ _ 219 [(5, .int 2), (4, .int 0), (3, .ref (b + 431)), (2, .ref (b + 405)), (1, .ref (b + 0)), (0, .ref bS)] _
  refine z_seti (y := 0) hu.1 ?_
  refine z_istore (lv' := [(6, .int 0), (5, .int 2), (4, .int 0), (3, .ref (b + 431)), (2, .ref (b + 405)), (1, .ref (b + 0)), (0, .ref bS)]) B dL_law_219 (by decide) rfl ?_
  refine z_aload_n B dL_law_221 rfl 4 rfl ?_
  refine z_cVi (As := []) (rest := []) B cw_L_80 cx_10 dL_law_222 (ci_X9_thrown_73 l (σ := (ap b (wx_Z σ z) [(405, 0, 2)] [] [])) (b := b) (lyA (lyZ hK)) (rI_at 405 0 rfl)) (lKA (lKZ (hk_K hK 405 rfl rfl))) rfl (by decide) rfl (Nat.le_of_ble_eq_true rfl) (by decide) (fun r u hu => ?_)
  refine z_eqs (σ' := (ap b (wx_Z σ z) [(405, 0, 2)] [] [])) hu.2 ?_
  show zx p l e _ s m _ below meth c g 8 _ _ _ _ 225 [(6, .int 0), (5, .int 2), (4, .int 0), (3, .ref (b + 431)), (2, .ref (b + 405)), (1, .ref (b + 0)), (0, .ref bS)] _
  refine z_seti (y := 2) hu.1 ?_
  refine z_iload B dL_law_225 1 rfl ?_
  refine z_icmp_eq (tgt := 232) B dL_law_227 (by decide) (fun _ => ?_) (fun h => absurd (by decide) h)
  refine z_iload B dL_law_232 1 rfl ?_
  refine z_if_ne (tgt := 249) B dL_law_234 (by decide) (fun _ => ?_) (fun h => absurd h (by decide))
  refine z_goto (tgt := 1395) B dL_law_249 (by decide) ?_
  exact z_widen (Nat.le_of_ble_eq_true rfl) (Nat.le_of_ble_eq_true rfl) (z_sub _ [2, 6] rfl (kk _))
set_option maxRecDepth 100000 in
set_option maxHeartbeats 4000000 in
theorem lf_0_15 {p : Program} {l : Launch} {e : Env} {s : State} {m : MethodId} {args : Array Value} {below : List Frame} {meth : Method} {c : Code} {g : gx_T} {Q : State → Prop} {σ : sx_T} {b t bS : Nat} {xs : Nat → Int32} (hlt : l.stackTraces = false) (B : zx_B p s m args meth c code RL 8 g) (hX : va_X bS 6 xs s s.heap) (hbl : bS < s.heap.size) (hbA : ¬ gx_b g ≤ bS) (hF : fz_P b t σ) (h_x1 : xs 1 = 0) {x2 : Int32} (h_x2 : xs 2 = x2) (q1_x2 : (0 : Int) ≤ x2.toInt) (q2_x2 : x2.toInt ≤ (19 : Int)) {x3 : Int32} (h_x3 : xs 3 = x3) (q1_x3 : (0 : Int) ≤ x3.toInt) (q2_x3 : x3.toInt ≤ (17 : Int)) {x4 : Int32} (h_x4 : xs 4 = x4) (q1_x4 : (-2147483648 : Int) ≤ x4.toInt) (q2_x4 : x4.toInt ≤ (-1 : Int)) {x5 : Int32} (h_x5 : xs 5 = x5) (q1_x5 : (-2147483648 : Int) ≤ x5.toInt) (q2_x5 : x5.toInt ≤ (2147483647 : Int)) (kk : ∀ σ', zx p l e room_1 s m args below meth c g 8 600002 7302232 Q σ' 1395 [(4, .int 0), (0, .ref bS)] []) : zx p l e room_1 s m args below meth c g 8 500 100000 Q σ 148 [(4, .int 0), (3, .ref (b + 431)), (2, .ref (b + 405)), (1, .ref (b + 0)), (0, .ref bS)] [] := by
  have hK := fz_lay hF
  refine z_eqs (σ' := (ap b σ [] [] [])) rfl ?_
  refine z_aload_n B dL_law_148 rfl 3 rfl ?_
  refine z_aload_n B dL_law_149 rfl 4 rfl ?_
  refine z_iload B dL_law_150 0 rfl ?_
  refine z_iconst (v := 1) B dL_law_152 (by decide) ?_
  refine z_iadd B dL_law_153 ?_
  refine z_seti (y := 1) (by decide) ?_
  refine z_sld (j := 1) (x := 0) B hX hbl hbA (by decide) (show ¬ ((1 : Int32) < 0 ∨ 6 ≤ (1 : Int32).toNatClampNeg) by decide) h_x1 dL_law_154 ?_
  refine z_aload_n B dL_law_155 rfl 4 rfl ?_
  refine z_iload B dL_law_156 0 rfl ?_
  refine z_iconst (v := 2) B dL_law_158 (by decide) ?_
  refine z_iadd B dL_law_159 ?_
  refine z_seti (y := 2) (by decide) ?_
  refine z_sld (j := 2) (x := x2) B hX hbl hbA (by decide) (show ¬ ((2 : Int32) < 0 ∨ 6 ≤ (2 : Int32).toNatClampNeg) by decide) h_x2 dL_law_160 ?_
  refine z_aload_n B dL_law_161 rfl 4 rfl ?_
  refine z_iload B dL_law_162 0 rfl ?_
  refine z_iconst (v := 3) B dL_law_164 (by decide) ?_
  refine z_iadd B dL_law_165 ?_
  refine z_seti (y := 3) (by decide) ?_
  refine z_sld (j := 3) (x := x3) B hX hbl hbA (by decide) (show ¬ ((3 : Int32) < 0 ∨ 6 ≤ (3 : Int32).toNatClampNeg) by decide) h_x3 dL_law_166 ?_
  refine z_aload_n B dL_law_167 rfl 4 rfl ?_
  refine z_iload B dL_law_168 0 rfl ?_
  refine z_iconst (v := 4) B dL_law_170 (by decide) ?_
  refine z_iadd B dL_law_171 ?_
  refine z_seti (y := 4) (by decide) ?_
  refine z_sld (j := 4) (x := x4) B hX hbl hbA (by decide) (show ¬ ((4 : Int32) < 0 ∨ 6 ≤ (4 : Int32).toNatClampNeg) by decide) h_x4 dL_law_172 ?_
  refine z_aload_n B dL_law_173 rfl 4 rfl ?_
  refine z_iload B dL_law_174 0 rfl ?_
  refine z_iconst (v := 5) B dL_law_176 (by decide) ?_
  refine z_iadd B dL_law_177 ?_
  refine z_seti (y := 5) (by decide) ?_
  refine z_sld (j := 5) (x := x5) B hX hbl hbA (by decide) (show ¬ ((5 : Int32) < 0 ∨ 6 ≤ (5 : Int32).toNatClampNeg) by decide) h_x5 dL_law_178 ?_
  refine z_aload_n B dL_law_179 rfl 1 rfl ?_
  refine z_cSWi (As := [.ref (b + 0), .int 0, .int x2, .int x3, .int x4, .int x5, .ref (b + 431)]) (rest := []) B cw_L_74 dL_law_180 (ci_L_set_78 l hlt (σ := (ap b σ [] [] [])) (b := b) (lyA hK) x2 x3 x4 x5 q1_x2 q2_x2 q1_x3 q2_x3 q1_x4 q2_x4 (rR_at 0 0 (fz_R hF 0 0 rfl rfl)) (rR_at 1 0 (fz_R hF 1 0 rfl rfl))) rfl (by decide) rfl (Nat.le_of_ble_eq_true rfl) (by decide) (fun r u hu => ?_)
  obtain ⟨hu1, z, hu⟩ := hu
  refine z_eqs (σ' := (ap b (wx_Z σ z) [] [] [])) (hu.trans az_ap) ?_
  show zx p l e _ s m _ below meth c g 8 _ _ _ _ 183 [(4, .int 0), (3, .ref (b + 431)), (2, .ref (b + 405)), (1, .ref (b + 0)), (0, .ref bS)] _
  refine z_seti (y := 2) hu1 ?_
  refine z_istore (lv' := [(5, .int 2), (4, .int 0), (3, .ref (b + 431)), (2, .ref (b + 405)), (1, .ref (b + 0)), (0, .ref bS)]) B dL_law_183 (by decide) rfl ?_
  refine z_aload_n B dL_law_185 rfl 3 rfl ?_
  refine z_aload_n B dL_law_186 rfl 5 rfl ?_
  refine z_iload B dL_law_187 1 rfl ?_
  refine z_iconst (v := 1) B dL_law_189 (by decide) ?_
  refine z_iadd B dL_law_190 ?_
  refine z_seti (y := 1) (by decide) ?_
  refine z_sld (j := 1) (x := 0) B hX hbl hbA (by decide) (show ¬ ((1 : Int32) < 0 ∨ 6 ≤ (1 : Int32).toNatClampNeg) by decide) h_x1 dL_law_191 ?_
  refine z_aload_n B dL_law_192 rfl 5 rfl ?_
  refine z_iload B dL_law_193 1 rfl ?_
  refine z_iconst (v := 2) B dL_law_195 (by decide) ?_
  refine z_iadd B dL_law_196 ?_
  refine z_seti (y := 2) (by decide) ?_
  refine z_sld (j := 2) (x := x2) B hX hbl hbA (by decide) (show ¬ ((2 : Int32) < 0 ∨ 6 ≤ (2 : Int32).toNatClampNeg) by decide) h_x2 dL_law_197 ?_
  refine z_aload_n B dL_law_198 rfl 5 rfl ?_
  refine z_iload B dL_law_199 1 rfl ?_
  refine z_iconst (v := 3) B dL_law_201 (by decide) ?_
  refine z_iadd B dL_law_202 ?_
  refine z_seti (y := 3) (by decide) ?_
  refine z_sld (j := 3) (x := x3) B hX hbl hbA (by decide) (show ¬ ((3 : Int32) < 0 ∨ 6 ≤ (3 : Int32).toNatClampNeg) by decide) h_x3 dL_law_203 ?_
  refine z_aload_n B dL_law_204 rfl 5 rfl ?_
  refine z_iload B dL_law_205 1 rfl ?_
  refine z_iconst (v := 4) B dL_law_207 (by decide) ?_
  refine z_iadd B dL_law_208 ?_
  refine z_seti (y := 4) (by decide) ?_
  refine z_sld (j := 4) (x := x4) B hX hbl hbA (by decide) (show ¬ ((4 : Int32) < 0 ∨ 6 ≤ (4 : Int32).toNatClampNeg) by decide) h_x4 dL_law_209 ?_
  refine z_aload_n B dL_law_210 rfl 5 rfl ?_
  refine z_iload B dL_law_211 1 rfl ?_
  refine z_iconst (v := 5) B dL_law_213 (by decide) ?_
  refine z_iadd B dL_law_214 ?_
  refine z_seti (y := 5) (by decide) ?_
  refine z_sld (j := 5) (x := x5) B hX hbl hbA (by decide) (show ¬ ((5 : Int32) < 0 ∨ 6 ≤ (5 : Int32).toNatClampNeg) by decide) h_x5 dL_law_215 ?_
  refine z_cVi (As := [.int 0, .int x2, .int x3, .int x4, .int x5]) (rest := []) B cw_L_79 cx_10 dL_law_216 (ci_X9_set_79 l (σ := (ap b (wx_Z σ z) [] [] [])) (b := b) (lyA (lyZ hK)) x2 x3 x4 x5 q1_x2 q2_x2 q1_x3 q2_x3 q1_x4 q2_x4) (lKA (lKZ (hk_K hK 405 rfl rfl))) rfl (by decide) rfl (Nat.le_of_ble_eq_true rfl) (by decide) (fun r u hu => ?_)
  refine z_eqs (σ' := (ap b (wx_Z σ z) [(405, 0, 2)] [] [])) (hu.2.trans ap_ap) ?_
  show zx p l e _ s m _ below meth c g 8 _ _ _ _ 219 [(5, .int 2), (4, .int 0), (3, .ref (b + 431)), (2, .ref (b + 405)), (1, .ref (b + 0)), (0, .ref bS)] _
  refine z_seti (y := 0) hu.1 ?_
  refine z_istore (lv' := [(6, .int 0), (5, .int 2), (4, .int 0), (3, .ref (b + 431)), (2, .ref (b + 405)), (1, .ref (b + 0)), (0, .ref bS)]) B dL_law_219 (by decide) rfl ?_
  refine z_aload_n B dL_law_221 rfl 4 rfl ?_
  refine z_cVi (As := []) (rest := []) B cw_L_80 cx_10 dL_law_222 (ci_X9_thrown_73 l (σ := (ap b (wx_Z σ z) [(405, 0, 2)] [] [])) (b := b) (lyA (lyZ hK)) (rI_at 405 0 rfl)) (lKA (lKZ (hk_K hK 405 rfl rfl))) rfl (by decide) rfl (Nat.le_of_ble_eq_true rfl) (by decide) (fun r u hu => ?_)
  refine z_eqs (σ' := (ap b (wx_Z σ z) [(405, 0, 2)] [] [])) hu.2 ?_
  show zx p l e _ s m _ below meth c g 8 _ _ _ _ 225 [(6, .int 0), (5, .int 2), (4, .int 0), (3, .ref (b + 431)), (2, .ref (b + 405)), (1, .ref (b + 0)), (0, .ref bS)] _
  refine z_seti (y := 2) hu.1 ?_
  refine z_iload B dL_law_225 1 rfl ?_
  refine z_icmp_eq (tgt := 232) B dL_law_227 (by decide) (fun _ => ?_) (fun h => absurd (by decide) h)
  refine z_iload B dL_law_232 1 rfl ?_
  refine z_if_ne (tgt := 249) B dL_law_234 (by decide) (fun _ => ?_) (fun h => absurd h (by decide))
  refine z_goto (tgt := 1395) B dL_law_249 (by decide) ?_
  exact z_widen (Nat.le_of_ble_eq_true rfl) (Nat.le_of_ble_eq_true rfl) (z_sub _ [2, 6] rfl (kk _))
set_option maxRecDepth 100000 in
set_option maxHeartbeats 4000000 in
theorem lf_0_16 {p : Program} {l : Launch} {e : Env} {s : State} {m : MethodId} {args : Array Value} {below : List Frame} {meth : Method} {c : Code} {g : gx_T} {Q : State → Prop} {σ : sx_T} {b t bS : Nat} {xs : Nat → Int32} (hlt : l.stackTraces = false) (B : zx_B p s m args meth c code RL 8 g) (hX : va_X bS 6 xs s s.heap) (hbl : bS < s.heap.size) (hbA : ¬ gx_b g ≤ bS) (hF : fz_P b t σ) (h_x1 : xs 1 = 0) {x2 : Int32} (h_x2 : xs 2 = x2) (q1_x2 : (0 : Int) ≤ x2.toInt) (q2_x2 : x2.toInt ≤ (19 : Int)) {x3 : Int32} (h_x3 : xs 3 = x3) (q1_x3 : (0 : Int) ≤ x3.toInt) (q2_x3 : x3.toInt ≤ (17 : Int)) {x4 : Int32} (h_x4 : xs 4 = x4) (q1_x4 : (0 : Int) ≤ x4.toInt) (q2_x4 : x4.toInt ≤ (99 : Int)) {x5 : Int32} (h_x5 : xs 5 = x5) (q1_x5 : (-2147483648 : Int) ≤ x5.toInt) (q2_x5 : x5.toInt ≤ (-1 : Int)) (kk : ∀ σ', zx p l e room_1 s m args below meth c g 8 600002 7302232 Q σ' 1395 [(4, .int 0), (0, .ref bS)] []) : zx p l e room_1 s m args below meth c g 8 500 100000 Q σ 148 [(4, .int 0), (3, .ref (b + 431)), (2, .ref (b + 405)), (1, .ref (b + 0)), (0, .ref bS)] [] := by
  have hK := fz_lay hF
  refine z_eqs (σ' := (ap b σ [] [] [])) rfl ?_
  refine z_aload_n B dL_law_148 rfl 3 rfl ?_
  refine z_aload_n B dL_law_149 rfl 4 rfl ?_
  refine z_iload B dL_law_150 0 rfl ?_
  refine z_iconst (v := 1) B dL_law_152 (by decide) ?_
  refine z_iadd B dL_law_153 ?_
  refine z_seti (y := 1) (by decide) ?_
  refine z_sld (j := 1) (x := 0) B hX hbl hbA (by decide) (show ¬ ((1 : Int32) < 0 ∨ 6 ≤ (1 : Int32).toNatClampNeg) by decide) h_x1 dL_law_154 ?_
  refine z_aload_n B dL_law_155 rfl 4 rfl ?_
  refine z_iload B dL_law_156 0 rfl ?_
  refine z_iconst (v := 2) B dL_law_158 (by decide) ?_
  refine z_iadd B dL_law_159 ?_
  refine z_seti (y := 2) (by decide) ?_
  refine z_sld (j := 2) (x := x2) B hX hbl hbA (by decide) (show ¬ ((2 : Int32) < 0 ∨ 6 ≤ (2 : Int32).toNatClampNeg) by decide) h_x2 dL_law_160 ?_
  refine z_aload_n B dL_law_161 rfl 4 rfl ?_
  refine z_iload B dL_law_162 0 rfl ?_
  refine z_iconst (v := 3) B dL_law_164 (by decide) ?_
  refine z_iadd B dL_law_165 ?_
  refine z_seti (y := 3) (by decide) ?_
  refine z_sld (j := 3) (x := x3) B hX hbl hbA (by decide) (show ¬ ((3 : Int32) < 0 ∨ 6 ≤ (3 : Int32).toNatClampNeg) by decide) h_x3 dL_law_166 ?_
  refine z_aload_n B dL_law_167 rfl 4 rfl ?_
  refine z_iload B dL_law_168 0 rfl ?_
  refine z_iconst (v := 4) B dL_law_170 (by decide) ?_
  refine z_iadd B dL_law_171 ?_
  refine z_seti (y := 4) (by decide) ?_
  refine z_sld (j := 4) (x := x4) B hX hbl hbA (by decide) (show ¬ ((4 : Int32) < 0 ∨ 6 ≤ (4 : Int32).toNatClampNeg) by decide) h_x4 dL_law_172 ?_
  refine z_aload_n B dL_law_173 rfl 4 rfl ?_
  refine z_iload B dL_law_174 0 rfl ?_
  refine z_iconst (v := 5) B dL_law_176 (by decide) ?_
  refine z_iadd B dL_law_177 ?_
  refine z_seti (y := 5) (by decide) ?_
  refine z_sld (j := 5) (x := x5) B hX hbl hbA (by decide) (show ¬ ((5 : Int32) < 0 ∨ 6 ≤ (5 : Int32).toNatClampNeg) by decide) h_x5 dL_law_178 ?_
  refine z_aload_n B dL_law_179 rfl 1 rfl ?_
  refine z_cSWi (As := [.ref (b + 0), .int 0, .int x2, .int x3, .int x4, .int x5, .ref (b + 431)]) (rest := []) B cw_L_74 dL_law_180 (ci_L_set_83 l hlt (σ := (ap b σ [] [] [])) (b := b) (lyA hK) x2 x3 x4 x5 q1_x2 q2_x2 q1_x3 q2_x3 q1_x4 q2_x4 q1_x5 q2_x5 (rR_at 0 0 (fz_R hF 0 0 rfl rfl)) (rR_at 1 0 (fz_R hF 1 0 rfl rfl))) rfl (by decide) rfl (Nat.le_of_ble_eq_true rfl) (by decide) (fun r u hu => ?_)
  obtain ⟨hu1, z, hu⟩ := hu
  refine z_eqs (σ' := (ap b (wx_Z σ z) [] [] [])) (hu.trans az_ap) ?_
  show zx p l e _ s m _ below meth c g 8 _ _ _ _ 183 [(4, .int 0), (3, .ref (b + 431)), (2, .ref (b + 405)), (1, .ref (b + 0)), (0, .ref bS)] _
  refine z_seti (y := 2) hu1 ?_
  refine z_istore (lv' := [(5, .int 2), (4, .int 0), (3, .ref (b + 431)), (2, .ref (b + 405)), (1, .ref (b + 0)), (0, .ref bS)]) B dL_law_183 (by decide) rfl ?_
  refine z_aload_n B dL_law_185 rfl 3 rfl ?_
  refine z_aload_n B dL_law_186 rfl 5 rfl ?_
  refine z_iload B dL_law_187 1 rfl ?_
  refine z_iconst (v := 1) B dL_law_189 (by decide) ?_
  refine z_iadd B dL_law_190 ?_
  refine z_seti (y := 1) (by decide) ?_
  refine z_sld (j := 1) (x := 0) B hX hbl hbA (by decide) (show ¬ ((1 : Int32) < 0 ∨ 6 ≤ (1 : Int32).toNatClampNeg) by decide) h_x1 dL_law_191 ?_
  refine z_aload_n B dL_law_192 rfl 5 rfl ?_
  refine z_iload B dL_law_193 1 rfl ?_
  refine z_iconst (v := 2) B dL_law_195 (by decide) ?_
  refine z_iadd B dL_law_196 ?_
  refine z_seti (y := 2) (by decide) ?_
  refine z_sld (j := 2) (x := x2) B hX hbl hbA (by decide) (show ¬ ((2 : Int32) < 0 ∨ 6 ≤ (2 : Int32).toNatClampNeg) by decide) h_x2 dL_law_197 ?_
  refine z_aload_n B dL_law_198 rfl 5 rfl ?_
  refine z_iload B dL_law_199 1 rfl ?_
  refine z_iconst (v := 3) B dL_law_201 (by decide) ?_
  refine z_iadd B dL_law_202 ?_
  refine z_seti (y := 3) (by decide) ?_
  refine z_sld (j := 3) (x := x3) B hX hbl hbA (by decide) (show ¬ ((3 : Int32) < 0 ∨ 6 ≤ (3 : Int32).toNatClampNeg) by decide) h_x3 dL_law_203 ?_
  refine z_aload_n B dL_law_204 rfl 5 rfl ?_
  refine z_iload B dL_law_205 1 rfl ?_
  refine z_iconst (v := 4) B dL_law_207 (by decide) ?_
  refine z_iadd B dL_law_208 ?_
  refine z_seti (y := 4) (by decide) ?_
  refine z_sld (j := 4) (x := x4) B hX hbl hbA (by decide) (show ¬ ((4 : Int32) < 0 ∨ 6 ≤ (4 : Int32).toNatClampNeg) by decide) h_x4 dL_law_209 ?_
  refine z_aload_n B dL_law_210 rfl 5 rfl ?_
  refine z_iload B dL_law_211 1 rfl ?_
  refine z_iconst (v := 5) B dL_law_213 (by decide) ?_
  refine z_iadd B dL_law_214 ?_
  refine z_seti (y := 5) (by decide) ?_
  refine z_sld (j := 5) (x := x5) B hX hbl hbA (by decide) (show ¬ ((5 : Int32) < 0 ∨ 6 ≤ (5 : Int32).toNatClampNeg) by decide) h_x5 dL_law_215 ?_
  refine z_cVi (As := [.int 0, .int x2, .int x3, .int x4, .int x5]) (rest := []) B cw_L_79 cx_10 dL_law_216 (ci_X9_set_84 l (σ := (ap b (wx_Z σ z) [] [] [])) (b := b) (lyA (lyZ hK)) x2 x3 x4 x5 q1_x2 q2_x2 q1_x3 q2_x3 q1_x4 q2_x4 q1_x5 q2_x5) (lKA (lKZ (hk_K hK 405 rfl rfl))) rfl (by decide) rfl (Nat.le_of_ble_eq_true rfl) (by decide) (fun r u hu => ?_)
  refine z_eqs (σ' := (ap b (wx_Z σ z) [(405, 0, 2)] [] [])) (hu.2.trans ap_ap) ?_
  show zx p l e _ s m _ below meth c g 8 _ _ _ _ 219 [(5, .int 2), (4, .int 0), (3, .ref (b + 431)), (2, .ref (b + 405)), (1, .ref (b + 0)), (0, .ref bS)] _
  refine z_seti (y := 0) hu.1 ?_
  refine z_istore (lv' := [(6, .int 0), (5, .int 2), (4, .int 0), (3, .ref (b + 431)), (2, .ref (b + 405)), (1, .ref (b + 0)), (0, .ref bS)]) B dL_law_219 (by decide) rfl ?_
  refine z_aload_n B dL_law_221 rfl 4 rfl ?_
  refine z_cVi (As := []) (rest := []) B cw_L_80 cx_10 dL_law_222 (ci_X9_thrown_73 l (σ := (ap b (wx_Z σ z) [(405, 0, 2)] [] [])) (b := b) (lyA (lyZ hK)) (rI_at 405 0 rfl)) (lKA (lKZ (hk_K hK 405 rfl rfl))) rfl (by decide) rfl (Nat.le_of_ble_eq_true rfl) (by decide) (fun r u hu => ?_)
  refine z_eqs (σ' := (ap b (wx_Z σ z) [(405, 0, 2)] [] [])) hu.2 ?_
  show zx p l e _ s m _ below meth c g 8 _ _ _ _ 225 [(6, .int 0), (5, .int 2), (4, .int 0), (3, .ref (b + 431)), (2, .ref (b + 405)), (1, .ref (b + 0)), (0, .ref bS)] _
  refine z_seti (y := 2) hu.1 ?_
  refine z_iload B dL_law_225 1 rfl ?_
  refine z_icmp_eq (tgt := 232) B dL_law_227 (by decide) (fun _ => ?_) (fun h => absurd (by decide) h)
  refine z_iload B dL_law_232 1 rfl ?_
  refine z_if_ne (tgt := 249) B dL_law_234 (by decide) (fun _ => ?_) (fun h => absurd h (by decide))
  refine z_goto (tgt := 1395) B dL_law_249 (by decide) ?_
  exact z_widen (Nat.le_of_ble_eq_true rfl) (Nat.le_of_ble_eq_true rfl) (z_sub _ [2, 6] rfl (kk _))
set_option maxRecDepth 100000 in
set_option maxHeartbeats 4000000 in
theorem lf_0_17 {p : Program} {l : Launch} {e : Env} {s : State} {m : MethodId} {args : Array Value} {below : List Frame} {meth : Method} {c : Code} {g : gx_T} {Q : State → Prop} {σ : sx_T} {b t bS : Nat} {xs : Nat → Int32} (hlt : l.stackTraces = false) (B : zx_B p s m args meth c code RL 8 g) (hX : va_X bS 6 xs s s.heap) (hbl : bS < s.heap.size) (hbA : ¬ gx_b g ≤ bS) (hF : fz_P b t σ) (h_x1 : xs 1 = 0) {x2 : Int32} (h_x2 : xs 2 = x2) (q1_x2 : (0 : Int) ≤ x2.toInt) (q2_x2 : x2.toInt ≤ (19 : Int)) {x3 : Int32} (h_x3 : xs 3 = x3) (q1_x3 : (0 : Int) ≤ x3.toInt) (q2_x3 : x3.toInt ≤ (17 : Int)) {x4 : Int32} (h_x4 : xs 4 = x4) (q1_x4 : (0 : Int) ≤ x4.toInt) (q2_x4 : x4.toInt ≤ (99 : Int)) {x5 : Int32} (h_x5 : xs 5 = x5) (q1_x5 : (0 : Int) ≤ x5.toInt) (q2_x5 : x5.toInt ≤ (99 : Int)) (kk : ∀ σ', zx p l e room_1 s m args below meth c g 8 600002 7302232 Q σ' 1395 [(4, .int 0), (0, .ref bS)] []) : zx p l e room_1 s m args below meth c g 8 500 100000 Q σ 148 [(4, .int 0), (3, .ref (b + 431)), (2, .ref (b + 405)), (1, .ref (b + 0)), (0, .ref bS)] [] := by
  have hK := fz_lay hF
  refine z_eqs (σ' := (ap b σ [] [] [])) rfl ?_
  refine z_aload_n B dL_law_148 rfl 3 rfl ?_
  refine z_aload_n B dL_law_149 rfl 4 rfl ?_
  refine z_iload B dL_law_150 0 rfl ?_
  refine z_iconst (v := 1) B dL_law_152 (by decide) ?_
  refine z_iadd B dL_law_153 ?_
  refine z_seti (y := 1) (by decide) ?_
  refine z_sld (j := 1) (x := 0) B hX hbl hbA (by decide) (show ¬ ((1 : Int32) < 0 ∨ 6 ≤ (1 : Int32).toNatClampNeg) by decide) h_x1 dL_law_154 ?_
  refine z_aload_n B dL_law_155 rfl 4 rfl ?_
  refine z_iload B dL_law_156 0 rfl ?_
  refine z_iconst (v := 2) B dL_law_158 (by decide) ?_
  refine z_iadd B dL_law_159 ?_
  refine z_seti (y := 2) (by decide) ?_
  refine z_sld (j := 2) (x := x2) B hX hbl hbA (by decide) (show ¬ ((2 : Int32) < 0 ∨ 6 ≤ (2 : Int32).toNatClampNeg) by decide) h_x2 dL_law_160 ?_
  refine z_aload_n B dL_law_161 rfl 4 rfl ?_
  refine z_iload B dL_law_162 0 rfl ?_
  refine z_iconst (v := 3) B dL_law_164 (by decide) ?_
  refine z_iadd B dL_law_165 ?_
  refine z_seti (y := 3) (by decide) ?_
  refine z_sld (j := 3) (x := x3) B hX hbl hbA (by decide) (show ¬ ((3 : Int32) < 0 ∨ 6 ≤ (3 : Int32).toNatClampNeg) by decide) h_x3 dL_law_166 ?_
  refine z_aload_n B dL_law_167 rfl 4 rfl ?_
  refine z_iload B dL_law_168 0 rfl ?_
  refine z_iconst (v := 4) B dL_law_170 (by decide) ?_
  refine z_iadd B dL_law_171 ?_
  refine z_seti (y := 4) (by decide) ?_
  refine z_sld (j := 4) (x := x4) B hX hbl hbA (by decide) (show ¬ ((4 : Int32) < 0 ∨ 6 ≤ (4 : Int32).toNatClampNeg) by decide) h_x4 dL_law_172 ?_
  refine z_aload_n B dL_law_173 rfl 4 rfl ?_
  refine z_iload B dL_law_174 0 rfl ?_
  refine z_iconst (v := 5) B dL_law_176 (by decide) ?_
  refine z_iadd B dL_law_177 ?_
  refine z_seti (y := 5) (by decide) ?_
  refine z_sld (j := 5) (x := x5) B hX hbl hbA (by decide) (show ¬ ((5 : Int32) < 0 ∨ 6 ≤ (5 : Int32).toNatClampNeg) by decide) h_x5 dL_law_178 ?_
  refine z_aload_n B dL_law_179 rfl 1 rfl ?_
  refine z_cSWi (As := [.ref (b + 0), .int 0, .int x2, .int x3, .int x4, .int x5, .ref (b + 431)]) (rest := []) B cw_L_74 dL_law_180 (ci_L_set_90 l (σ := (ap b σ [] [] [])) (b := b) (lyA hK) x2 x3 x4 x5 q1_x2 q2_x2 q1_x3 q2_x3 q1_x4 q2_x4 q1_x5 q2_x5 (rI_at 0 7 (fz_I hF 0 7 rfl rfl)) (rR_at 0 0 (fz_R hF 0 0 rfl rfl)) (rR_at 1 0 (fz_R hF 1 0 rfl rfl)) (rR_at 9 1 (fz_R hF 9 1 rfl rfl)) (rR_at 9 2 (fz_R hF 9 2 rfl rfl)) (rR_at 9 3 (fz_R hF 9 3 rfl rfl))) rfl (by decide) rfl (Nat.le_of_ble_eq_true rfl) (by decide) (fun r u hu => ?_)
  refine z_eqs (σ' := (ap b (wx_I (ap b (wx_I (ap b (wx_I (ap b (ap b (ap b (ap b σ [] [] []) [] [] []) [] [] []) [] [] []) (b + 10) x2.toNatClampNeg x3) [] [] []) (b + 11) x2.toNatClampNeg x4) [] [] []) (b + 12) x2.toNatClampNeg x5) [] [(431, 0, 0)] [])) hu.2 ?_
  show zx p l e _ s m _ below meth c g 8 _ _ _ _ 183 [(4, .int 0), (3, .ref (b + 431)), (2, .ref (b + 405)), (1, .ref (b + 0)), (0, .ref bS)] _
  refine z_seti (y := 0) hu.1 ?_
  refine z_istore (lv' := [(5, .int 0), (4, .int 0), (3, .ref (b + 431)), (2, .ref (b + 405)), (1, .ref (b + 0)), (0, .ref bS)]) B dL_law_183 (by decide) rfl ?_
  refine z_aload_n B dL_law_185 rfl 3 rfl ?_
  refine z_aload_n B dL_law_186 rfl 5 rfl ?_
  refine z_iload B dL_law_187 1 rfl ?_
  refine z_iconst (v := 1) B dL_law_189 (by decide) ?_
  refine z_iadd B dL_law_190 ?_
  refine z_seti (y := 1) (by decide) ?_
  refine z_sld (j := 1) (x := 0) B hX hbl hbA (by decide) (show ¬ ((1 : Int32) < 0 ∨ 6 ≤ (1 : Int32).toNatClampNeg) by decide) h_x1 dL_law_191 ?_
  refine z_aload_n B dL_law_192 rfl 5 rfl ?_
  refine z_iload B dL_law_193 1 rfl ?_
  refine z_iconst (v := 2) B dL_law_195 (by decide) ?_
  refine z_iadd B dL_law_196 ?_
  refine z_seti (y := 2) (by decide) ?_
  refine z_sld (j := 2) (x := x2) B hX hbl hbA (by decide) (show ¬ ((2 : Int32) < 0 ∨ 6 ≤ (2 : Int32).toNatClampNeg) by decide) h_x2 dL_law_197 ?_
  refine z_aload_n B dL_law_198 rfl 5 rfl ?_
  refine z_iload B dL_law_199 1 rfl ?_
  refine z_iconst (v := 3) B dL_law_201 (by decide) ?_
  refine z_iadd B dL_law_202 ?_
  refine z_seti (y := 3) (by decide) ?_
  refine z_sld (j := 3) (x := x3) B hX hbl hbA (by decide) (show ¬ ((3 : Int32) < 0 ∨ 6 ≤ (3 : Int32).toNatClampNeg) by decide) h_x3 dL_law_203 ?_
  refine z_aload_n B dL_law_204 rfl 5 rfl ?_
  refine z_iload B dL_law_205 1 rfl ?_
  refine z_iconst (v := 4) B dL_law_207 (by decide) ?_
  refine z_iadd B dL_law_208 ?_
  refine z_seti (y := 4) (by decide) ?_
  refine z_sld (j := 4) (x := x4) B hX hbl hbA (by decide) (show ¬ ((4 : Int32) < 0 ∨ 6 ≤ (4 : Int32).toNatClampNeg) by decide) h_x4 dL_law_209 ?_
  refine z_aload_n B dL_law_210 rfl 5 rfl ?_
  refine z_iload B dL_law_211 1 rfl ?_
  refine z_iconst (v := 5) B dL_law_213 (by decide) ?_
  refine z_iadd B dL_law_214 ?_
  refine z_seti (y := 5) (by decide) ?_
  refine z_sld (j := 5) (x := x5) B hX hbl hbA (by decide) (show ¬ ((5 : Int32) < 0 ∨ 6 ≤ (5 : Int32).toNatClampNeg) by decide) h_x5 dL_law_215 ?_
  refine z_cVi (As := [.int 0, .int x2, .int x3, .int x4, .int x5]) (rest := []) B cw_L_79 cx_10 dL_law_216 (ci_X9_set_94 l (σ := (ap b (wx_I (ap b (wx_I (ap b (wx_I (ap b (ap b (ap b (ap b σ [] [] []) [] [] []) [] [] []) [] [] []) (b + 10) x2.toNatClampNeg x3) [] [] []) (b + 11) x2.toNatClampNeg x4) [] [] []) (b + 12) x2.toNatClampNeg x5) [] [(431, 0, 0)] [])) (b := b) (lyA (lyW (lyA (lyW (lyA (lyW (lyA (lyA (lyA (lyA hK)))))))))) x2 x3 x4 x5 q1_x2 q2_x2 q1_x3 q2_x3 q1_x4 q2_x4 q1_x5 q2_x5 (rI_at 405 6 ((ux_a (by omega)).trans (rI_at 405 6 ((ux_a (by omega)).trans (rI_at 405 6 ((ux_a (by omega)).trans (rI_at 405 6 (rI_at 405 6 (rI_at 405 6 (rI_at 405 6 (fz_I hF 405 6 rfl rfl))))))))))) (rR_at 405 3 (rR_w (rR_at 405 3 (rR_w (rR_at 405 3 (rR_w (rR_at 405 3 (rR_at 405 3 (rR_at 405 3 (rR_at 405 3 (fz_R hF 405 3 rfl rfl))))))))))) (rR_at 405 4 (rR_w (rR_at 405 4 (rR_w (rR_at 405 4 (rR_w (rR_at 405 4 (rR_at 405 4 (rR_at 405 4 (rR_at 405 4 (fz_R hF 405 4 rfl rfl))))))))))) (rR_at 405 5 (rR_w (rR_at 405 5 (rR_w (rR_at 405 5 (rR_w (rR_at 405 5 (rR_at 405 5 (rR_at 405 5 (rR_at 405 5 (fz_R hF 405 5 rfl rfl)))))))))))) (lKA (lKW (lKA (lKW (lKA (lKW (lKA (lKA (lKA (lKA (hk_K hK 405 rfl rfl))))))))))) rfl (by decide) rfl (Nat.le_of_ble_eq_true rfl) (by decide) (fun r u hu => ?_)
  refine z_eqs (σ' := (ap b (wx_I (ap b (wx_I (ap b (wx_I (ap b (ap b (ap b (wx_I (ap b (wx_I (ap b (wx_I (ap b (ap b (ap b (ap b σ [] [] []) [] [] []) [] [] []) [] [] []) (b + 10) x2.toNatClampNeg x3) [] [] []) (b + 11) x2.toNatClampNeg x4) [] [] []) (b + 12) x2.toNatClampNeg x5) [] [(431, 0, 0)] []) [(405, 0, 0)] [] []) [] [] []) (b + 406) (0 + x2).toNatClampNeg x3) [] [] []) (b + 407) (0 + x2).toNatClampNeg x4) [] [] []) (b + 408) (0 + x2).toNatClampNeg x5) [] [] [])) hu.2 ?_
  show zx p l e _ s m _ below meth c g 8 _ _ _ _ 219 [(5, .int 0), (4, .int 0), (3, .ref (b + 431)), (2, .ref (b + 405)), (1, .ref (b + 0)), (0, .ref bS)] _
  refine z_seti (y := 0) hu.1 ?_
  refine z_istore (lv' := [(6, .int 0), (5, .int 0), (4, .int 0), (3, .ref (b + 431)), (2, .ref (b + 405)), (1, .ref (b + 0)), (0, .ref bS)]) B dL_law_219 (by decide) rfl ?_
  refine z_aload_n B dL_law_221 rfl 4 rfl ?_
  refine z_cVi (As := []) (rest := []) B cw_L_80 cx_10 dL_law_222 (ci_X9_thrown_95 l (σ := (ap b (wx_I (ap b (wx_I (ap b (wx_I (ap b (ap b (ap b (wx_I (ap b (wx_I (ap b (wx_I (ap b (ap b (ap b (ap b σ [] [] []) [] [] []) [] [] []) [] [] []) (b + 10) x2.toNatClampNeg x3) [] [] []) (b + 11) x2.toNatClampNeg x4) [] [] []) (b + 12) x2.toNatClampNeg x5) [] [(431, 0, 0)] []) [(405, 0, 0)] [] []) [] [] []) (b + 406) (0 + x2).toNatClampNeg x3) [] [] []) (b + 407) (0 + x2).toNatClampNeg x4) [] [] []) (b + 408) (0 + x2).toNatClampNeg x5) [] [] [])) (b := b) (lyA (lyW (lyA (lyW (lyA (lyW (lyA (lyA (lyA (lyW (lyA (lyW (lyA (lyW (lyA (lyA (lyA (lyA hK)))))))))))))))))) (rI_at 405 0 ((ux_a (by omega)).trans (rI_at 405 0 ((ux_a (by omega)).trans (rI_at 405 0 ((ux_a (by omega)).trans (rI_at 405 0 (rI_at 405 0 rfl))))))))) (lKA (lKW (lKA (lKW (lKA (lKW (lKA (lKA (lKA (lKW (lKA (lKW (lKA (lKW (lKA (lKA (lKA (lKA (hk_K hK 405 rfl rfl))))))))))))))))))) rfl (by decide) rfl (Nat.le_of_ble_eq_true rfl) (by decide) (fun r u hu => ?_)
  refine z_eqs (σ' := (ap b (wx_I (ap b (wx_I (ap b (wx_I (ap b (ap b (ap b (wx_I (ap b (wx_I (ap b (wx_I (ap b (ap b (ap b (ap b σ [] [] []) [] [] []) [] [] []) [] [] []) (b + 10) x2.toNatClampNeg x3) [] [] []) (b + 11) x2.toNatClampNeg x4) [] [] []) (b + 12) x2.toNatClampNeg x5) [] [(431, 0, 0)] []) [(405, 0, 0)] [] []) [] [] []) (b + 406) (0 + x2).toNatClampNeg x3) [] [] []) (b + 407) (0 + x2).toNatClampNeg x4) [] [] []) (b + 408) (0 + x2).toNatClampNeg x5) [] [] [])) hu.2 ?_
  show zx p l e _ s m _ below meth c g 8 _ _ _ _ 225 [(6, .int 0), (5, .int 0), (4, .int 0), (3, .ref (b + 431)), (2, .ref (b + 405)), (1, .ref (b + 0)), (0, .ref bS)] _
  refine z_seti (y := 0) hu.1 ?_
  refine z_iload B dL_law_225 1 rfl ?_
  refine z_icmp_eq (tgt := 232) B dL_law_227 (by decide) (fun _ => ?_) (fun h => absurd (by decide) h)
  refine z_iload B dL_law_232 1 rfl ?_
  refine z_if_ne (tgt := 249) B dL_law_234 (by decide) (fun h => absurd (by decide) h) (fun _ => ?_)
  refine z_aload_n B dL_law_237 rfl 3 rfl ?_
  refine z_iconst (v := 0) B dL_law_238 (by decide) ?_
  refine z_lald (j := 0) (x := 0) B (lKA (lKW (lKA (lKW (lKA (lKW (lKA (lKA (lKA (lKW (lKA (lKW (lKA (lKW (lKA (lKA (lKA (lKA (hk_K hK 431 rfl rfl))))))))))))))))))) (by decide) (in_of (lNA (lNW (lNA (lNW (lNA (lNW (lNA (lNA (lNA (lNW (lNA (lNW (lNA (lNW (lNA (lNA (lNA (lNA (hk_N hK 431 rfl rfl))))))))))))))))))) (show ¬ ((0 : Int32) < 0 ∨ 1 ≤ (0 : Int32).toNatClampNeg) by decide)) (rJ_at 431 0 (rJ_w (rJ_at 431 0 (rJ_w (rJ_at 431 0 (rJ_w (rJ_at 431 0 (rJ_at 431 0 (rJ_at 431 0 rfl))))))))) dL_law_239 ?_
  refine z_iload B dL_law_240 0 rfl ?_
  refine z_i2l (v := 0) B dL_law_242 (by decide) ?_
  refine z_lcmp (v := 0) B dL_law_243 (by decide) ?_
  refine z_if_eq (tgt := 249) B dL_law_244 (by decide) (fun _ => ?_) (fun h => absurd (by decide) h)
  refine z_goto (tgt := 1395) B dL_law_249 (by decide) ?_
  exact z_widen (Nat.le_of_ble_eq_true rfl) (Nat.le_of_ble_eq_true rfl) (z_sub _ [2, 6] rfl (kk _))
set_option maxRecDepth 100000 in
set_option maxHeartbeats 4000000 in
theorem lf_0_18 {p : Program} {l : Launch} {e : Env} {s : State} {m : MethodId} {args : Array Value} {below : List Frame} {meth : Method} {c : Code} {g : gx_T} {Q : State → Prop} {σ : sx_T} {b t bS : Nat} {xs : Nat → Int32} (hlt : l.stackTraces = false) (B : zx_B p s m args meth c code RL 8 g) (hX : va_X bS 6 xs s s.heap) (hbl : bS < s.heap.size) (hbA : ¬ gx_b g ≤ bS) (hF : fz_P b t σ) (h_x1 : xs 1 = 0) {x2 : Int32} (h_x2 : xs 2 = x2) (q1_x2 : (0 : Int) ≤ x2.toInt) (q2_x2 : x2.toInt ≤ (19 : Int)) {x3 : Int32} (h_x3 : xs 3 = x3) (q1_x3 : (0 : Int) ≤ x3.toInt) (q2_x3 : x3.toInt ≤ (17 : Int)) {x4 : Int32} (h_x4 : xs 4 = x4) (q1_x4 : (0 : Int) ≤ x4.toInt) (q2_x4 : x4.toInt ≤ (99 : Int)) {x5 : Int32} (h_x5 : xs 5 = x5) (q1_x5 : (100 : Int) ≤ x5.toInt) (q2_x5 : x5.toInt ≤ (2147483647 : Int)) (kk : ∀ σ', zx p l e room_1 s m args below meth c g 8 600002 7302232 Q σ' 1395 [(4, .int 0), (0, .ref bS)] []) : zx p l e room_1 s m args below meth c g 8 500 100000 Q σ 148 [(4, .int 0), (3, .ref (b + 431)), (2, .ref (b + 405)), (1, .ref (b + 0)), (0, .ref bS)] [] := by
  have hK := fz_lay hF
  refine z_eqs (σ' := (ap b σ [] [] [])) rfl ?_
  refine z_aload_n B dL_law_148 rfl 3 rfl ?_
  refine z_aload_n B dL_law_149 rfl 4 rfl ?_
  refine z_iload B dL_law_150 0 rfl ?_
  refine z_iconst (v := 1) B dL_law_152 (by decide) ?_
  refine z_iadd B dL_law_153 ?_
  refine z_seti (y := 1) (by decide) ?_
  refine z_sld (j := 1) (x := 0) B hX hbl hbA (by decide) (show ¬ ((1 : Int32) < 0 ∨ 6 ≤ (1 : Int32).toNatClampNeg) by decide) h_x1 dL_law_154 ?_
  refine z_aload_n B dL_law_155 rfl 4 rfl ?_
  refine z_iload B dL_law_156 0 rfl ?_
  refine z_iconst (v := 2) B dL_law_158 (by decide) ?_
  refine z_iadd B dL_law_159 ?_
  refine z_seti (y := 2) (by decide) ?_
  refine z_sld (j := 2) (x := x2) B hX hbl hbA (by decide) (show ¬ ((2 : Int32) < 0 ∨ 6 ≤ (2 : Int32).toNatClampNeg) by decide) h_x2 dL_law_160 ?_
  refine z_aload_n B dL_law_161 rfl 4 rfl ?_
  refine z_iload B dL_law_162 0 rfl ?_
  refine z_iconst (v := 3) B dL_law_164 (by decide) ?_
  refine z_iadd B dL_law_165 ?_
  refine z_seti (y := 3) (by decide) ?_
  refine z_sld (j := 3) (x := x3) B hX hbl hbA (by decide) (show ¬ ((3 : Int32) < 0 ∨ 6 ≤ (3 : Int32).toNatClampNeg) by decide) h_x3 dL_law_166 ?_
  refine z_aload_n B dL_law_167 rfl 4 rfl ?_
  refine z_iload B dL_law_168 0 rfl ?_
  refine z_iconst (v := 4) B dL_law_170 (by decide) ?_
  refine z_iadd B dL_law_171 ?_
  refine z_seti (y := 4) (by decide) ?_
  refine z_sld (j := 4) (x := x4) B hX hbl hbA (by decide) (show ¬ ((4 : Int32) < 0 ∨ 6 ≤ (4 : Int32).toNatClampNeg) by decide) h_x4 dL_law_172 ?_
  refine z_aload_n B dL_law_173 rfl 4 rfl ?_
  refine z_iload B dL_law_174 0 rfl ?_
  refine z_iconst (v := 5) B dL_law_176 (by decide) ?_
  refine z_iadd B dL_law_177 ?_
  refine z_seti (y := 5) (by decide) ?_
  refine z_sld (j := 5) (x := x5) B hX hbl hbA (by decide) (show ¬ ((5 : Int32) < 0 ∨ 6 ≤ (5 : Int32).toNatClampNeg) by decide) h_x5 dL_law_178 ?_
  refine z_aload_n B dL_law_179 rfl 1 rfl ?_
  refine z_cSWi (As := [.ref (b + 0), .int 0, .int x2, .int x3, .int x4, .int x5, .ref (b + 431)]) (rest := []) B cw_L_74 dL_law_180 (ci_L_set_99 l hlt (σ := (ap b σ [] [] [])) (b := b) (lyA hK) x2 x3 x4 x5 q1_x2 q2_x2 q1_x3 q2_x3 q1_x4 q2_x4 q1_x5 q2_x5 (rR_at 0 0 (fz_R hF 0 0 rfl rfl)) (rR_at 1 0 (fz_R hF 1 0 rfl rfl))) rfl (by decide) rfl (Nat.le_of_ble_eq_true rfl) (by decide) (fun r u hu => ?_)
  obtain ⟨hu1, z, hu⟩ := hu
  refine z_eqs (σ' := (ap b (wx_Z σ z) [] [] [])) (hu.trans az_ap) ?_
  show zx p l e _ s m _ below meth c g 8 _ _ _ _ 183 [(4, .int 0), (3, .ref (b + 431)), (2, .ref (b + 405)), (1, .ref (b + 0)), (0, .ref bS)] _
  refine z_seti (y := 2) hu1 ?_
  refine z_istore (lv' := [(5, .int 2), (4, .int 0), (3, .ref (b + 431)), (2, .ref (b + 405)), (1, .ref (b + 0)), (0, .ref bS)]) B dL_law_183 (by decide) rfl ?_
  refine z_aload_n B dL_law_185 rfl 3 rfl ?_
  refine z_aload_n B dL_law_186 rfl 5 rfl ?_
  refine z_iload B dL_law_187 1 rfl ?_
  refine z_iconst (v := 1) B dL_law_189 (by decide) ?_
  refine z_iadd B dL_law_190 ?_
  refine z_seti (y := 1) (by decide) ?_
  refine z_sld (j := 1) (x := 0) B hX hbl hbA (by decide) (show ¬ ((1 : Int32) < 0 ∨ 6 ≤ (1 : Int32).toNatClampNeg) by decide) h_x1 dL_law_191 ?_
  refine z_aload_n B dL_law_192 rfl 5 rfl ?_
  refine z_iload B dL_law_193 1 rfl ?_
  refine z_iconst (v := 2) B dL_law_195 (by decide) ?_
  refine z_iadd B dL_law_196 ?_
  refine z_seti (y := 2) (by decide) ?_
  refine z_sld (j := 2) (x := x2) B hX hbl hbA (by decide) (show ¬ ((2 : Int32) < 0 ∨ 6 ≤ (2 : Int32).toNatClampNeg) by decide) h_x2 dL_law_197 ?_
  refine z_aload_n B dL_law_198 rfl 5 rfl ?_
  refine z_iload B dL_law_199 1 rfl ?_
  refine z_iconst (v := 3) B dL_law_201 (by decide) ?_
  refine z_iadd B dL_law_202 ?_
  refine z_seti (y := 3) (by decide) ?_
  refine z_sld (j := 3) (x := x3) B hX hbl hbA (by decide) (show ¬ ((3 : Int32) < 0 ∨ 6 ≤ (3 : Int32).toNatClampNeg) by decide) h_x3 dL_law_203 ?_
  refine z_aload_n B dL_law_204 rfl 5 rfl ?_
  refine z_iload B dL_law_205 1 rfl ?_
  refine z_iconst (v := 4) B dL_law_207 (by decide) ?_
  refine z_iadd B dL_law_208 ?_
  refine z_seti (y := 4) (by decide) ?_
  refine z_sld (j := 4) (x := x4) B hX hbl hbA (by decide) (show ¬ ((4 : Int32) < 0 ∨ 6 ≤ (4 : Int32).toNatClampNeg) by decide) h_x4 dL_law_209 ?_
  refine z_aload_n B dL_law_210 rfl 5 rfl ?_
  refine z_iload B dL_law_211 1 rfl ?_
  refine z_iconst (v := 5) B dL_law_213 (by decide) ?_
  refine z_iadd B dL_law_214 ?_
  refine z_seti (y := 5) (by decide) ?_
  refine z_sld (j := 5) (x := x5) B hX hbl hbA (by decide) (show ¬ ((5 : Int32) < 0 ∨ 6 ≤ (5 : Int32).toNatClampNeg) by decide) h_x5 dL_law_215 ?_
  refine z_cVi (As := [.int 0, .int x2, .int x3, .int x4, .int x5]) (rest := []) B cw_L_79 cx_10 dL_law_216 (ci_X9_set_100 l (σ := (ap b (wx_Z σ z) [] [] [])) (b := b) (lyA (lyZ hK)) x2 x3 x4 x5 q1_x2 q2_x2 q1_x3 q2_x3 q1_x4 q2_x4 q1_x5 q2_x5) (lKA (lKZ (hk_K hK 405 rfl rfl))) rfl (by decide) rfl (Nat.le_of_ble_eq_true rfl) (by decide) (fun r u hu => ?_)
  refine z_eqs (σ' := (ap b (wx_Z σ z) [(405, 0, 2)] [] [])) (hu.2.trans ap_ap) ?_
  show zx p l e _ s m _ below meth c g 8 _ _ _ _ 219 [(5, .int 2), (4, .int 0), (3, .ref (b + 431)), (2, .ref (b + 405)), (1, .ref (b + 0)), (0, .ref bS)] _
  refine z_seti (y := 0) hu.1 ?_
  refine z_istore (lv' := [(6, .int 0), (5, .int 2), (4, .int 0), (3, .ref (b + 431)), (2, .ref (b + 405)), (1, .ref (b + 0)), (0, .ref bS)]) B dL_law_219 (by decide) rfl ?_
  refine z_aload_n B dL_law_221 rfl 4 rfl ?_
  refine z_cVi (As := []) (rest := []) B cw_L_80 cx_10 dL_law_222 (ci_X9_thrown_73 l (σ := (ap b (wx_Z σ z) [(405, 0, 2)] [] [])) (b := b) (lyA (lyZ hK)) (rI_at 405 0 rfl)) (lKA (lKZ (hk_K hK 405 rfl rfl))) rfl (by decide) rfl (Nat.le_of_ble_eq_true rfl) (by decide) (fun r u hu => ?_)
  refine z_eqs (σ' := (ap b (wx_Z σ z) [(405, 0, 2)] [] [])) hu.2 ?_
  show zx p l e _ s m _ below meth c g 8 _ _ _ _ 225 [(6, .int 0), (5, .int 2), (4, .int 0), (3, .ref (b + 431)), (2, .ref (b + 405)), (1, .ref (b + 0)), (0, .ref bS)] _
  refine z_seti (y := 2) hu.1 ?_
  refine z_iload B dL_law_225 1 rfl ?_
  refine z_icmp_eq (tgt := 232) B dL_law_227 (by decide) (fun _ => ?_) (fun h => absurd (by decide) h)
  refine z_iload B dL_law_232 1 rfl ?_
  refine z_if_ne (tgt := 249) B dL_law_234 (by decide) (fun _ => ?_) (fun h => absurd h (by decide))
  refine z_goto (tgt := 1395) B dL_law_249 (by decide) ?_
  exact z_widen (Nat.le_of_ble_eq_true rfl) (Nat.le_of_ble_eq_true rfl) (z_sub _ [2, 6] rfl (kk _))
set_option maxRecDepth 100000 in
set_option maxHeartbeats 4000000 in
theorem lf_0_19 {p : Program} {l : Launch} {e : Env} {s : State} {m : MethodId} {args : Array Value} {below : List Frame} {meth : Method} {c : Code} {g : gx_T} {Q : State → Prop} {σ : sx_T} {b t bS : Nat} {xs : Nat → Int32} (hlt : l.stackTraces = false) (B : zx_B p s m args meth c code RL 8 g) (hX : va_X bS 6 xs s s.heap) (hbl : bS < s.heap.size) (hbA : ¬ gx_b g ≤ bS) (hF : fz_P b t σ) (h_x1 : xs 1 = 0) {x2 : Int32} (h_x2 : xs 2 = x2) (q1_x2 : (0 : Int) ≤ x2.toInt) (q2_x2 : x2.toInt ≤ (19 : Int)) {x3 : Int32} (h_x3 : xs 3 = x3) (q1_x3 : (0 : Int) ≤ x3.toInt) (q2_x3 : x3.toInt ≤ (17 : Int)) {x4 : Int32} (h_x4 : xs 4 = x4) (q1_x4 : (100 : Int) ≤ x4.toInt) (q2_x4 : x4.toInt ≤ (2147483647 : Int)) {x5 : Int32} (h_x5 : xs 5 = x5) (q1_x5 : (-2147483648 : Int) ≤ x5.toInt) (q2_x5 : x5.toInt ≤ (2147483647 : Int)) (kk : ∀ σ', zx p l e room_1 s m args below meth c g 8 600002 7302232 Q σ' 1395 [(4, .int 0), (0, .ref bS)] []) : zx p l e room_1 s m args below meth c g 8 500 100000 Q σ 148 [(4, .int 0), (3, .ref (b + 431)), (2, .ref (b + 405)), (1, .ref (b + 0)), (0, .ref bS)] [] := by
  have hK := fz_lay hF
  refine z_eqs (σ' := (ap b σ [] [] [])) rfl ?_
  refine z_aload_n B dL_law_148 rfl 3 rfl ?_
  refine z_aload_n B dL_law_149 rfl 4 rfl ?_
  refine z_iload B dL_law_150 0 rfl ?_
  refine z_iconst (v := 1) B dL_law_152 (by decide) ?_
  refine z_iadd B dL_law_153 ?_
  refine z_seti (y := 1) (by decide) ?_
  refine z_sld (j := 1) (x := 0) B hX hbl hbA (by decide) (show ¬ ((1 : Int32) < 0 ∨ 6 ≤ (1 : Int32).toNatClampNeg) by decide) h_x1 dL_law_154 ?_
  refine z_aload_n B dL_law_155 rfl 4 rfl ?_
  refine z_iload B dL_law_156 0 rfl ?_
  refine z_iconst (v := 2) B dL_law_158 (by decide) ?_
  refine z_iadd B dL_law_159 ?_
  refine z_seti (y := 2) (by decide) ?_
  refine z_sld (j := 2) (x := x2) B hX hbl hbA (by decide) (show ¬ ((2 : Int32) < 0 ∨ 6 ≤ (2 : Int32).toNatClampNeg) by decide) h_x2 dL_law_160 ?_
  refine z_aload_n B dL_law_161 rfl 4 rfl ?_
  refine z_iload B dL_law_162 0 rfl ?_
  refine z_iconst (v := 3) B dL_law_164 (by decide) ?_
  refine z_iadd B dL_law_165 ?_
  refine z_seti (y := 3) (by decide) ?_
  refine z_sld (j := 3) (x := x3) B hX hbl hbA (by decide) (show ¬ ((3 : Int32) < 0 ∨ 6 ≤ (3 : Int32).toNatClampNeg) by decide) h_x3 dL_law_166 ?_
  refine z_aload_n B dL_law_167 rfl 4 rfl ?_
  refine z_iload B dL_law_168 0 rfl ?_
  refine z_iconst (v := 4) B dL_law_170 (by decide) ?_
  refine z_iadd B dL_law_171 ?_
  refine z_seti (y := 4) (by decide) ?_
  refine z_sld (j := 4) (x := x4) B hX hbl hbA (by decide) (show ¬ ((4 : Int32) < 0 ∨ 6 ≤ (4 : Int32).toNatClampNeg) by decide) h_x4 dL_law_172 ?_
  refine z_aload_n B dL_law_173 rfl 4 rfl ?_
  refine z_iload B dL_law_174 0 rfl ?_
  refine z_iconst (v := 5) B dL_law_176 (by decide) ?_
  refine z_iadd B dL_law_177 ?_
  refine z_seti (y := 5) (by decide) ?_
  refine z_sld (j := 5) (x := x5) B hX hbl hbA (by decide) (show ¬ ((5 : Int32) < 0 ∨ 6 ≤ (5 : Int32).toNatClampNeg) by decide) h_x5 dL_law_178 ?_
  refine z_aload_n B dL_law_179 rfl 1 rfl ?_
  refine z_cSWi (As := [.ref (b + 0), .int 0, .int x2, .int x3, .int x4, .int x5, .ref (b + 431)]) (rest := []) B cw_L_74 dL_law_180 (ci_L_set_103 l hlt (σ := (ap b σ [] [] [])) (b := b) (lyA hK) x2 x3 x4 x5 q1_x2 q2_x2 q1_x3 q2_x3 q1_x4 q2_x4 (rR_at 0 0 (fz_R hF 0 0 rfl rfl)) (rR_at 1 0 (fz_R hF 1 0 rfl rfl))) rfl (by decide) rfl (Nat.le_of_ble_eq_true rfl) (by decide) (fun r u hu => ?_)
  obtain ⟨hu1, z, hu⟩ := hu
  refine z_eqs (σ' := (ap b (wx_Z σ z) [] [] [])) (hu.trans az_ap) ?_
  show zx p l e _ s m _ below meth c g 8 _ _ _ _ 183 [(4, .int 0), (3, .ref (b + 431)), (2, .ref (b + 405)), (1, .ref (b + 0)), (0, .ref bS)] _
  refine z_seti (y := 2) hu1 ?_
  refine z_istore (lv' := [(5, .int 2), (4, .int 0), (3, .ref (b + 431)), (2, .ref (b + 405)), (1, .ref (b + 0)), (0, .ref bS)]) B dL_law_183 (by decide) rfl ?_
  refine z_aload_n B dL_law_185 rfl 3 rfl ?_
  refine z_aload_n B dL_law_186 rfl 5 rfl ?_
  refine z_iload B dL_law_187 1 rfl ?_
  refine z_iconst (v := 1) B dL_law_189 (by decide) ?_
  refine z_iadd B dL_law_190 ?_
  refine z_seti (y := 1) (by decide) ?_
  refine z_sld (j := 1) (x := 0) B hX hbl hbA (by decide) (show ¬ ((1 : Int32) < 0 ∨ 6 ≤ (1 : Int32).toNatClampNeg) by decide) h_x1 dL_law_191 ?_
  refine z_aload_n B dL_law_192 rfl 5 rfl ?_
  refine z_iload B dL_law_193 1 rfl ?_
  refine z_iconst (v := 2) B dL_law_195 (by decide) ?_
  refine z_iadd B dL_law_196 ?_
  refine z_seti (y := 2) (by decide) ?_
  refine z_sld (j := 2) (x := x2) B hX hbl hbA (by decide) (show ¬ ((2 : Int32) < 0 ∨ 6 ≤ (2 : Int32).toNatClampNeg) by decide) h_x2 dL_law_197 ?_
  refine z_aload_n B dL_law_198 rfl 5 rfl ?_
  refine z_iload B dL_law_199 1 rfl ?_
  refine z_iconst (v := 3) B dL_law_201 (by decide) ?_
  refine z_iadd B dL_law_202 ?_
  refine z_seti (y := 3) (by decide) ?_
  refine z_sld (j := 3) (x := x3) B hX hbl hbA (by decide) (show ¬ ((3 : Int32) < 0 ∨ 6 ≤ (3 : Int32).toNatClampNeg) by decide) h_x3 dL_law_203 ?_
  refine z_aload_n B dL_law_204 rfl 5 rfl ?_
  refine z_iload B dL_law_205 1 rfl ?_
  refine z_iconst (v := 4) B dL_law_207 (by decide) ?_
  refine z_iadd B dL_law_208 ?_
  refine z_seti (y := 4) (by decide) ?_
  refine z_sld (j := 4) (x := x4) B hX hbl hbA (by decide) (show ¬ ((4 : Int32) < 0 ∨ 6 ≤ (4 : Int32).toNatClampNeg) by decide) h_x4 dL_law_209 ?_
  refine z_aload_n B dL_law_210 rfl 5 rfl ?_
  refine z_iload B dL_law_211 1 rfl ?_
  refine z_iconst (v := 5) B dL_law_213 (by decide) ?_
  refine z_iadd B dL_law_214 ?_
  refine z_seti (y := 5) (by decide) ?_
  refine z_sld (j := 5) (x := x5) B hX hbl hbA (by decide) (show ¬ ((5 : Int32) < 0 ∨ 6 ≤ (5 : Int32).toNatClampNeg) by decide) h_x5 dL_law_215 ?_
  refine z_cVi (As := [.int 0, .int x2, .int x3, .int x4, .int x5]) (rest := []) B cw_L_79 cx_10 dL_law_216 (ci_X9_set_104 l (σ := (ap b (wx_Z σ z) [] [] [])) (b := b) (lyA (lyZ hK)) x2 x3 x4 x5 q1_x2 q2_x2 q1_x3 q2_x3 q1_x4 q2_x4) (lKA (lKZ (hk_K hK 405 rfl rfl))) rfl (by decide) rfl (Nat.le_of_ble_eq_true rfl) (by decide) (fun r u hu => ?_)
  refine z_eqs (σ' := (ap b (wx_Z σ z) [(405, 0, 2)] [] [])) (hu.2.trans ap_ap) ?_
  show zx p l e _ s m _ below meth c g 8 _ _ _ _ 219 [(5, .int 2), (4, .int 0), (3, .ref (b + 431)), (2, .ref (b + 405)), (1, .ref (b + 0)), (0, .ref bS)] _
  refine z_seti (y := 0) hu.1 ?_
  refine z_istore (lv' := [(6, .int 0), (5, .int 2), (4, .int 0), (3, .ref (b + 431)), (2, .ref (b + 405)), (1, .ref (b + 0)), (0, .ref bS)]) B dL_law_219 (by decide) rfl ?_
  refine z_aload_n B dL_law_221 rfl 4 rfl ?_
  refine z_cVi (As := []) (rest := []) B cw_L_80 cx_10 dL_law_222 (ci_X9_thrown_73 l (σ := (ap b (wx_Z σ z) [(405, 0, 2)] [] [])) (b := b) (lyA (lyZ hK)) (rI_at 405 0 rfl)) (lKA (lKZ (hk_K hK 405 rfl rfl))) rfl (by decide) rfl (Nat.le_of_ble_eq_true rfl) (by decide) (fun r u hu => ?_)
  refine z_eqs (σ' := (ap b (wx_Z σ z) [(405, 0, 2)] [] [])) hu.2 ?_
  show zx p l e _ s m _ below meth c g 8 _ _ _ _ 225 [(6, .int 0), (5, .int 2), (4, .int 0), (3, .ref (b + 431)), (2, .ref (b + 405)), (1, .ref (b + 0)), (0, .ref bS)] _
  refine z_seti (y := 2) hu.1 ?_
  refine z_iload B dL_law_225 1 rfl ?_
  refine z_icmp_eq (tgt := 232) B dL_law_227 (by decide) (fun _ => ?_) (fun h => absurd (by decide) h)
  refine z_iload B dL_law_232 1 rfl ?_
  refine z_if_ne (tgt := 249) B dL_law_234 (by decide) (fun _ => ?_) (fun h => absurd h (by decide))
  refine z_goto (tgt := 1395) B dL_law_249 (by decide) ?_
  exact z_widen (Nat.le_of_ble_eq_true rfl) (Nat.le_of_ble_eq_true rfl) (z_sub _ [2, 6] rfl (kk _))
set_option maxRecDepth 100000 in
set_option maxHeartbeats 4000000 in
theorem lf_0_20 {p : Program} {l : Launch} {e : Env} {s : State} {m : MethodId} {args : Array Value} {below : List Frame} {meth : Method} {c : Code} {g : gx_T} {Q : State → Prop} {σ : sx_T} {b t bS : Nat} {xs : Nat → Int32} (hlt : l.stackTraces = false) (B : zx_B p s m args meth c code RL 8 g) (hX : va_X bS 6 xs s s.heap) (hbl : bS < s.heap.size) (hbA : ¬ gx_b g ≤ bS) (hF : fz_P b t σ) (h_x1 : xs 1 = 0) {x2 : Int32} (h_x2 : xs 2 = x2) (q1_x2 : (0 : Int) ≤ x2.toInt) (q2_x2 : x2.toInt ≤ (19 : Int)) {x3 : Int32} (h_x3 : xs 3 = x3) (q1_x3 : (18 : Int) ≤ x3.toInt) (q2_x3 : x3.toInt ≤ (2147483647 : Int)) {x4 : Int32} (h_x4 : xs 4 = x4) (q1_x4 : (-2147483648 : Int) ≤ x4.toInt) (q2_x4 : x4.toInt ≤ (2147483647 : Int)) {x5 : Int32} (h_x5 : xs 5 = x5) (q1_x5 : (-2147483648 : Int) ≤ x5.toInt) (q2_x5 : x5.toInt ≤ (2147483647 : Int)) (kk : ∀ σ', zx p l e room_1 s m args below meth c g 8 600002 7302232 Q σ' 1395 [(4, .int 0), (0, .ref bS)] []) : zx p l e room_1 s m args below meth c g 8 500 100000 Q σ 148 [(4, .int 0), (3, .ref (b + 431)), (2, .ref (b + 405)), (1, .ref (b + 0)), (0, .ref bS)] [] := by
  have hK := fz_lay hF
  refine z_eqs (σ' := (ap b σ [] [] [])) rfl ?_
  refine z_aload_n B dL_law_148 rfl 3 rfl ?_
  refine z_aload_n B dL_law_149 rfl 4 rfl ?_
  refine z_iload B dL_law_150 0 rfl ?_
  refine z_iconst (v := 1) B dL_law_152 (by decide) ?_
  refine z_iadd B dL_law_153 ?_
  refine z_seti (y := 1) (by decide) ?_
  refine z_sld (j := 1) (x := 0) B hX hbl hbA (by decide) (show ¬ ((1 : Int32) < 0 ∨ 6 ≤ (1 : Int32).toNatClampNeg) by decide) h_x1 dL_law_154 ?_
  refine z_aload_n B dL_law_155 rfl 4 rfl ?_
  refine z_iload B dL_law_156 0 rfl ?_
  refine z_iconst (v := 2) B dL_law_158 (by decide) ?_
  refine z_iadd B dL_law_159 ?_
  refine z_seti (y := 2) (by decide) ?_
  refine z_sld (j := 2) (x := x2) B hX hbl hbA (by decide) (show ¬ ((2 : Int32) < 0 ∨ 6 ≤ (2 : Int32).toNatClampNeg) by decide) h_x2 dL_law_160 ?_
  refine z_aload_n B dL_law_161 rfl 4 rfl ?_
  refine z_iload B dL_law_162 0 rfl ?_
  refine z_iconst (v := 3) B dL_law_164 (by decide) ?_
  refine z_iadd B dL_law_165 ?_
  refine z_seti (y := 3) (by decide) ?_
  refine z_sld (j := 3) (x := x3) B hX hbl hbA (by decide) (show ¬ ((3 : Int32) < 0 ∨ 6 ≤ (3 : Int32).toNatClampNeg) by decide) h_x3 dL_law_166 ?_
  refine z_aload_n B dL_law_167 rfl 4 rfl ?_
  refine z_iload B dL_law_168 0 rfl ?_
  refine z_iconst (v := 4) B dL_law_170 (by decide) ?_
  refine z_iadd B dL_law_171 ?_
  refine z_seti (y := 4) (by decide) ?_
  refine z_sld (j := 4) (x := x4) B hX hbl hbA (by decide) (show ¬ ((4 : Int32) < 0 ∨ 6 ≤ (4 : Int32).toNatClampNeg) by decide) h_x4 dL_law_172 ?_
  refine z_aload_n B dL_law_173 rfl 4 rfl ?_
  refine z_iload B dL_law_174 0 rfl ?_
  refine z_iconst (v := 5) B dL_law_176 (by decide) ?_
  refine z_iadd B dL_law_177 ?_
  refine z_seti (y := 5) (by decide) ?_
  refine z_sld (j := 5) (x := x5) B hX hbl hbA (by decide) (show ¬ ((5 : Int32) < 0 ∨ 6 ≤ (5 : Int32).toNatClampNeg) by decide) h_x5 dL_law_178 ?_
  refine z_aload_n B dL_law_179 rfl 1 rfl ?_
  refine z_cSWi (As := [.ref (b + 0), .int 0, .int x2, .int x3, .int x4, .int x5, .ref (b + 431)]) (rest := []) B cw_L_74 dL_law_180 (ci_L_set_108 l hlt (σ := (ap b σ [] [] [])) (b := b) (lyA hK) x2 x3 x4 x5 q1_x2 q2_x2 q1_x3 q2_x3 (rR_at 0 0 (fz_R hF 0 0 rfl rfl)) (rR_at 1 0 (fz_R hF 1 0 rfl rfl))) rfl (by decide) rfl (Nat.le_of_ble_eq_true rfl) (by decide) (fun r u hu => ?_)
  obtain ⟨hu1, z, hu⟩ := hu
  refine z_eqs (σ' := (ap b (wx_Z σ z) [] [] [])) (hu.trans az_ap) ?_
  show zx p l e _ s m _ below meth c g 8 _ _ _ _ 183 [(4, .int 0), (3, .ref (b + 431)), (2, .ref (b + 405)), (1, .ref (b + 0)), (0, .ref bS)] _
  refine z_seti (y := 2) hu1 ?_
  refine z_istore (lv' := [(5, .int 2), (4, .int 0), (3, .ref (b + 431)), (2, .ref (b + 405)), (1, .ref (b + 0)), (0, .ref bS)]) B dL_law_183 (by decide) rfl ?_
  refine z_aload_n B dL_law_185 rfl 3 rfl ?_
  refine z_aload_n B dL_law_186 rfl 5 rfl ?_
  refine z_iload B dL_law_187 1 rfl ?_
  refine z_iconst (v := 1) B dL_law_189 (by decide) ?_
  refine z_iadd B dL_law_190 ?_
  refine z_seti (y := 1) (by decide) ?_
  refine z_sld (j := 1) (x := 0) B hX hbl hbA (by decide) (show ¬ ((1 : Int32) < 0 ∨ 6 ≤ (1 : Int32).toNatClampNeg) by decide) h_x1 dL_law_191 ?_
  refine z_aload_n B dL_law_192 rfl 5 rfl ?_
  refine z_iload B dL_law_193 1 rfl ?_
  refine z_iconst (v := 2) B dL_law_195 (by decide) ?_
  refine z_iadd B dL_law_196 ?_
  refine z_seti (y := 2) (by decide) ?_
  refine z_sld (j := 2) (x := x2) B hX hbl hbA (by decide) (show ¬ ((2 : Int32) < 0 ∨ 6 ≤ (2 : Int32).toNatClampNeg) by decide) h_x2 dL_law_197 ?_
  refine z_aload_n B dL_law_198 rfl 5 rfl ?_
  refine z_iload B dL_law_199 1 rfl ?_
  refine z_iconst (v := 3) B dL_law_201 (by decide) ?_
  refine z_iadd B dL_law_202 ?_
  refine z_seti (y := 3) (by decide) ?_
  refine z_sld (j := 3) (x := x3) B hX hbl hbA (by decide) (show ¬ ((3 : Int32) < 0 ∨ 6 ≤ (3 : Int32).toNatClampNeg) by decide) h_x3 dL_law_203 ?_
  refine z_aload_n B dL_law_204 rfl 5 rfl ?_
  refine z_iload B dL_law_205 1 rfl ?_
  refine z_iconst (v := 4) B dL_law_207 (by decide) ?_
  refine z_iadd B dL_law_208 ?_
  refine z_seti (y := 4) (by decide) ?_
  refine z_sld (j := 4) (x := x4) B hX hbl hbA (by decide) (show ¬ ((4 : Int32) < 0 ∨ 6 ≤ (4 : Int32).toNatClampNeg) by decide) h_x4 dL_law_209 ?_
  refine z_aload_n B dL_law_210 rfl 5 rfl ?_
  refine z_iload B dL_law_211 1 rfl ?_
  refine z_iconst (v := 5) B dL_law_213 (by decide) ?_
  refine z_iadd B dL_law_214 ?_
  refine z_seti (y := 5) (by decide) ?_
  refine z_sld (j := 5) (x := x5) B hX hbl hbA (by decide) (show ¬ ((5 : Int32) < 0 ∨ 6 ≤ (5 : Int32).toNatClampNeg) by decide) h_x5 dL_law_215 ?_
  refine z_cVi (As := [.int 0, .int x2, .int x3, .int x4, .int x5]) (rest := []) B cw_L_79 cx_10 dL_law_216 (ci_X9_set_109 l (σ := (ap b (wx_Z σ z) [] [] [])) (b := b) (lyA (lyZ hK)) x2 x3 x4 x5 q1_x2 q2_x2 q1_x3 q2_x3) (lKA (lKZ (hk_K hK 405 rfl rfl))) rfl (by decide) rfl (Nat.le_of_ble_eq_true rfl) (by decide) (fun r u hu => ?_)
  refine z_eqs (σ' := (ap b (wx_Z σ z) [(405, 0, 2)] [] [])) (hu.2.trans ap_ap) ?_
  show zx p l e _ s m _ below meth c g 8 _ _ _ _ 219 [(5, .int 2), (4, .int 0), (3, .ref (b + 431)), (2, .ref (b + 405)), (1, .ref (b + 0)), (0, .ref bS)] _
  refine z_seti (y := 0) hu.1 ?_
  refine z_istore (lv' := [(6, .int 0), (5, .int 2), (4, .int 0), (3, .ref (b + 431)), (2, .ref (b + 405)), (1, .ref (b + 0)), (0, .ref bS)]) B dL_law_219 (by decide) rfl ?_
  refine z_aload_n B dL_law_221 rfl 4 rfl ?_
  refine z_cVi (As := []) (rest := []) B cw_L_80 cx_10 dL_law_222 (ci_X9_thrown_73 l (σ := (ap b (wx_Z σ z) [(405, 0, 2)] [] [])) (b := b) (lyA (lyZ hK)) (rI_at 405 0 rfl)) (lKA (lKZ (hk_K hK 405 rfl rfl))) rfl (by decide) rfl (Nat.le_of_ble_eq_true rfl) (by decide) (fun r u hu => ?_)
  refine z_eqs (σ' := (ap b (wx_Z σ z) [(405, 0, 2)] [] [])) hu.2 ?_
  show zx p l e _ s m _ below meth c g 8 _ _ _ _ 225 [(6, .int 0), (5, .int 2), (4, .int 0), (3, .ref (b + 431)), (2, .ref (b + 405)), (1, .ref (b + 0)), (0, .ref bS)] _
  refine z_seti (y := 2) hu.1 ?_
  refine z_iload B dL_law_225 1 rfl ?_
  refine z_icmp_eq (tgt := 232) B dL_law_227 (by decide) (fun _ => ?_) (fun h => absurd (by decide) h)
  refine z_iload B dL_law_232 1 rfl ?_
  refine z_if_ne (tgt := 249) B dL_law_234 (by decide) (fun _ => ?_) (fun h => absurd h (by decide))
  refine z_goto (tgt := 1395) B dL_law_249 (by decide) ?_
  exact z_widen (Nat.le_of_ble_eq_true rfl) (Nat.le_of_ble_eq_true rfl) (z_sub _ [2, 6] rfl (kk _))
set_option maxRecDepth 100000 in
set_option maxHeartbeats 4000000 in
theorem lf_0_21 {p : Program} {l : Launch} {e : Env} {s : State} {m : MethodId} {args : Array Value} {below : List Frame} {meth : Method} {c : Code} {g : gx_T} {Q : State → Prop} {σ : sx_T} {b t bS : Nat} {xs : Nat → Int32} (hlt : l.stackTraces = false) (B : zx_B p s m args meth c code RL 8 g) (hX : va_X bS 6 xs s s.heap) (hbl : bS < s.heap.size) (hbA : ¬ gx_b g ≤ bS) (hF : fz_P b t σ) (h_x1 : xs 1 = 0) {x2 : Int32} (h_x2 : xs 2 = x2) (q1_x2 : (20 : Int) ≤ x2.toInt) (q2_x2 : x2.toInt ≤ (2147483647 : Int)) {x3 : Int32} (h_x3 : xs 3 = x3) (q1_x3 : (-2147483648 : Int) ≤ x3.toInt) (q2_x3 : x3.toInt ≤ (-1 : Int)) {x4 : Int32} (h_x4 : xs 4 = x4) (q1_x4 : (-2147483648 : Int) ≤ x4.toInt) (q2_x4 : x4.toInt ≤ (2147483647 : Int)) {x5 : Int32} (h_x5 : xs 5 = x5) (q1_x5 : (-2147483648 : Int) ≤ x5.toInt) (q2_x5 : x5.toInt ≤ (2147483647 : Int)) (kk : ∀ σ', zx p l e room_1 s m args below meth c g 8 600002 7302232 Q σ' 1395 [(4, .int 0), (0, .ref bS)] []) : zx p l e room_1 s m args below meth c g 8 500 100000 Q σ 148 [(4, .int 0), (3, .ref (b + 431)), (2, .ref (b + 405)), (1, .ref (b + 0)), (0, .ref bS)] [] := by
  have hK := fz_lay hF
  refine z_eqs (σ' := (ap b σ [] [] [])) rfl ?_
  refine z_aload_n B dL_law_148 rfl 3 rfl ?_
  refine z_aload_n B dL_law_149 rfl 4 rfl ?_
  refine z_iload B dL_law_150 0 rfl ?_
  refine z_iconst (v := 1) B dL_law_152 (by decide) ?_
  refine z_iadd B dL_law_153 ?_
  refine z_seti (y := 1) (by decide) ?_
  refine z_sld (j := 1) (x := 0) B hX hbl hbA (by decide) (show ¬ ((1 : Int32) < 0 ∨ 6 ≤ (1 : Int32).toNatClampNeg) by decide) h_x1 dL_law_154 ?_
  refine z_aload_n B dL_law_155 rfl 4 rfl ?_
  refine z_iload B dL_law_156 0 rfl ?_
  refine z_iconst (v := 2) B dL_law_158 (by decide) ?_
  refine z_iadd B dL_law_159 ?_
  refine z_seti (y := 2) (by decide) ?_
  refine z_sld (j := 2) (x := x2) B hX hbl hbA (by decide) (show ¬ ((2 : Int32) < 0 ∨ 6 ≤ (2 : Int32).toNatClampNeg) by decide) h_x2 dL_law_160 ?_
  refine z_aload_n B dL_law_161 rfl 4 rfl ?_
  refine z_iload B dL_law_162 0 rfl ?_
  refine z_iconst (v := 3) B dL_law_164 (by decide) ?_
  refine z_iadd B dL_law_165 ?_
  refine z_seti (y := 3) (by decide) ?_
  refine z_sld (j := 3) (x := x3) B hX hbl hbA (by decide) (show ¬ ((3 : Int32) < 0 ∨ 6 ≤ (3 : Int32).toNatClampNeg) by decide) h_x3 dL_law_166 ?_
  refine z_aload_n B dL_law_167 rfl 4 rfl ?_
  refine z_iload B dL_law_168 0 rfl ?_
  refine z_iconst (v := 4) B dL_law_170 (by decide) ?_
  refine z_iadd B dL_law_171 ?_
  refine z_seti (y := 4) (by decide) ?_
  refine z_sld (j := 4) (x := x4) B hX hbl hbA (by decide) (show ¬ ((4 : Int32) < 0 ∨ 6 ≤ (4 : Int32).toNatClampNeg) by decide) h_x4 dL_law_172 ?_
  refine z_aload_n B dL_law_173 rfl 4 rfl ?_
  refine z_iload B dL_law_174 0 rfl ?_
  refine z_iconst (v := 5) B dL_law_176 (by decide) ?_
  refine z_iadd B dL_law_177 ?_
  refine z_seti (y := 5) (by decide) ?_
  refine z_sld (j := 5) (x := x5) B hX hbl hbA (by decide) (show ¬ ((5 : Int32) < 0 ∨ 6 ≤ (5 : Int32).toNatClampNeg) by decide) h_x5 dL_law_178 ?_
  refine z_aload_n B dL_law_179 rfl 1 rfl ?_
  refine z_cSWi (As := [.ref (b + 0), .int 0, .int x2, .int x3, .int x4, .int x5, .ref (b + 431)]) (rest := []) B cw_L_74 dL_law_180 (ci_L_set_112 l hlt (σ := (ap b σ [] [] [])) (b := b) (lyA hK) x2 x3 x4 x5 q1_x2 q2_x2 (rR_at 0 0 (fz_R hF 0 0 rfl rfl)) (rR_at 1 0 (fz_R hF 1 0 rfl rfl))) rfl (by decide) rfl (Nat.le_of_ble_eq_true rfl) (by decide) (fun r u hu => ?_)
  obtain ⟨hu1, z, hu⟩ := hu
  refine z_eqs (σ' := (ap b (wx_Z σ z) [] [] [])) (hu.trans az_ap) ?_
  show zx p l e _ s m _ below meth c g 8 _ _ _ _ 183 [(4, .int 0), (3, .ref (b + 431)), (2, .ref (b + 405)), (1, .ref (b + 0)), (0, .ref bS)] _
  refine z_seti (y := 1) hu1 ?_
  refine z_istore (lv' := [(5, .int 1), (4, .int 0), (3, .ref (b + 431)), (2, .ref (b + 405)), (1, .ref (b + 0)), (0, .ref bS)]) B dL_law_183 (by decide) rfl ?_
  refine z_aload_n B dL_law_185 rfl 3 rfl ?_
  refine z_aload_n B dL_law_186 rfl 5 rfl ?_
  refine z_iload B dL_law_187 1 rfl ?_
  refine z_iconst (v := 1) B dL_law_189 (by decide) ?_
  refine z_iadd B dL_law_190 ?_
  refine z_seti (y := 1) (by decide) ?_
  refine z_sld (j := 1) (x := 0) B hX hbl hbA (by decide) (show ¬ ((1 : Int32) < 0 ∨ 6 ≤ (1 : Int32).toNatClampNeg) by decide) h_x1 dL_law_191 ?_
  refine z_aload_n B dL_law_192 rfl 5 rfl ?_
  refine z_iload B dL_law_193 1 rfl ?_
  refine z_iconst (v := 2) B dL_law_195 (by decide) ?_
  refine z_iadd B dL_law_196 ?_
  refine z_seti (y := 2) (by decide) ?_
  refine z_sld (j := 2) (x := x2) B hX hbl hbA (by decide) (show ¬ ((2 : Int32) < 0 ∨ 6 ≤ (2 : Int32).toNatClampNeg) by decide) h_x2 dL_law_197 ?_
  refine z_aload_n B dL_law_198 rfl 5 rfl ?_
  refine z_iload B dL_law_199 1 rfl ?_
  refine z_iconst (v := 3) B dL_law_201 (by decide) ?_
  refine z_iadd B dL_law_202 ?_
  refine z_seti (y := 3) (by decide) ?_
  refine z_sld (j := 3) (x := x3) B hX hbl hbA (by decide) (show ¬ ((3 : Int32) < 0 ∨ 6 ≤ (3 : Int32).toNatClampNeg) by decide) h_x3 dL_law_203 ?_
  refine z_aload_n B dL_law_204 rfl 5 rfl ?_
  refine z_iload B dL_law_205 1 rfl ?_
  refine z_iconst (v := 4) B dL_law_207 (by decide) ?_
  refine z_iadd B dL_law_208 ?_
  refine z_seti (y := 4) (by decide) ?_
  refine z_sld (j := 4) (x := x4) B hX hbl hbA (by decide) (show ¬ ((4 : Int32) < 0 ∨ 6 ≤ (4 : Int32).toNatClampNeg) by decide) h_x4 dL_law_209 ?_
  refine z_aload_n B dL_law_210 rfl 5 rfl ?_
  refine z_iload B dL_law_211 1 rfl ?_
  refine z_iconst (v := 5) B dL_law_213 (by decide) ?_
  refine z_iadd B dL_law_214 ?_
  refine z_seti (y := 5) (by decide) ?_
  refine z_sld (j := 5) (x := x5) B hX hbl hbA (by decide) (show ¬ ((5 : Int32) < 0 ∨ 6 ≤ (5 : Int32).toNatClampNeg) by decide) h_x5 dL_law_215 ?_
  refine z_cVi (As := [.int 0, .int x2, .int x3, .int x4, .int x5]) (rest := []) B cw_L_79 cx_10 dL_law_216 (ci_X9_set_115 l (σ := (ap b (wx_Z σ z) [] [] [])) (b := b) (lyA (lyZ hK)) x2 x3 x4 x5 q1_x2 q2_x2 q1_x3 q2_x3) (lKA (lKZ (hk_K hK 405 rfl rfl))) rfl (by decide) rfl (Nat.le_of_ble_eq_true rfl) (by decide) (fun r u hu => ?_)
  refine z_eqs (σ' := (ap b (wx_Z σ z) [(405, 0, 1)] [] [])) (hu.2.trans ap_ap) ?_
  show zx p l e _ s m _ below meth c g 8 _ _ _ _ 219 [(5, .int 1), (4, .int 0), (3, .ref (b + 431)), (2, .ref (b + 405)), (1, .ref (b + 0)), (0, .ref bS)] _
  refine z_seti (y := 0) hu.1 ?_
  refine z_istore (lv' := [(6, .int 0), (5, .int 1), (4, .int 0), (3, .ref (b + 431)), (2, .ref (b + 405)), (1, .ref (b + 0)), (0, .ref bS)]) B dL_law_219 (by decide) rfl ?_
  refine z_aload_n B dL_law_221 rfl 4 rfl ?_
  refine z_cVi (As := []) (rest := []) B cw_L_80 cx_10 dL_law_222 (ci_X9_thrown_31 l (σ := (ap b (wx_Z σ z) [(405, 0, 1)] [] [])) (b := b) (lyA (lyZ hK)) (rI_at 405 0 rfl)) (lKA (lKZ (hk_K hK 405 rfl rfl))) rfl (by decide) rfl (Nat.le_of_ble_eq_true rfl) (by decide) (fun r u hu => ?_)
  refine z_eqs (σ' := (ap b (wx_Z σ z) [(405, 0, 1)] [] [])) hu.2 ?_
  show zx p l e _ s m _ below meth c g 8 _ _ _ _ 225 [(6, .int 0), (5, .int 1), (4, .int 0), (3, .ref (b + 431)), (2, .ref (b + 405)), (1, .ref (b + 0)), (0, .ref bS)] _
  refine z_seti (y := 1) hu.1 ?_
  refine z_iload B dL_law_225 1 rfl ?_
  refine z_icmp_eq (tgt := 232) B dL_law_227 (by decide) (fun _ => ?_) (fun h => absurd (by decide) h)
  refine z_iload B dL_law_232 1 rfl ?_
  refine z_if_ne (tgt := 249) B dL_law_234 (by decide) (fun _ => ?_) (fun h => absurd h (by decide))
  refine z_goto (tgt := 1395) B dL_law_249 (by decide) ?_
  exact z_widen (Nat.le_of_ble_eq_true rfl) (Nat.le_of_ble_eq_true rfl) (z_sub _ [2, 6] rfl (kk _))
set_option maxRecDepth 100000 in
set_option maxHeartbeats 4000000 in
theorem lf_0_22 {p : Program} {l : Launch} {e : Env} {s : State} {m : MethodId} {args : Array Value} {below : List Frame} {meth : Method} {c : Code} {g : gx_T} {Q : State → Prop} {σ : sx_T} {b t bS : Nat} {xs : Nat → Int32} (hlt : l.stackTraces = false) (B : zx_B p s m args meth c code RL 8 g) (hX : va_X bS 6 xs s s.heap) (hbl : bS < s.heap.size) (hbA : ¬ gx_b g ≤ bS) (hF : fz_P b t σ) (h_x1 : xs 1 = 0) {x2 : Int32} (h_x2 : xs 2 = x2) (q1_x2 : (20 : Int) ≤ x2.toInt) (q2_x2 : x2.toInt ≤ (2147483647 : Int)) {x3 : Int32} (h_x3 : xs 3 = x3) (q1_x3 : (0 : Int) ≤ x3.toInt) (q2_x3 : x3.toInt ≤ (17 : Int)) {x4 : Int32} (h_x4 : xs 4 = x4) (q1_x4 : (-2147483648 : Int) ≤ x4.toInt) (q2_x4 : x4.toInt ≤ (-1 : Int)) {x5 : Int32} (h_x5 : xs 5 = x5) (q1_x5 : (-2147483648 : Int) ≤ x5.toInt) (q2_x5 : x5.toInt ≤ (2147483647 : Int)) (kk : ∀ σ', zx p l e room_1 s m args below meth c g 8 600002 7302232 Q σ' 1395 [(4, .int 0), (0, .ref bS)] []) : zx p l e room_1 s m args below meth c g 8 500 100000 Q σ 148 [(4, .int 0), (3, .ref (b + 431)), (2, .ref (b + 405)), (1, .ref (b + 0)), (0, .ref bS)] [] := by
  have hK := fz_lay hF
  refine z_eqs (σ' := (ap b σ [] [] [])) rfl ?_
  refine z_aload_n B dL_law_148 rfl 3 rfl ?_
  refine z_aload_n B dL_law_149 rfl 4 rfl ?_
  refine z_iload B dL_law_150 0 rfl ?_
  refine z_iconst (v := 1) B dL_law_152 (by decide) ?_
  refine z_iadd B dL_law_153 ?_
  refine z_seti (y := 1) (by decide) ?_
  refine z_sld (j := 1) (x := 0) B hX hbl hbA (by decide) (show ¬ ((1 : Int32) < 0 ∨ 6 ≤ (1 : Int32).toNatClampNeg) by decide) h_x1 dL_law_154 ?_
  refine z_aload_n B dL_law_155 rfl 4 rfl ?_
  refine z_iload B dL_law_156 0 rfl ?_
  refine z_iconst (v := 2) B dL_law_158 (by decide) ?_
  refine z_iadd B dL_law_159 ?_
  refine z_seti (y := 2) (by decide) ?_
  refine z_sld (j := 2) (x := x2) B hX hbl hbA (by decide) (show ¬ ((2 : Int32) < 0 ∨ 6 ≤ (2 : Int32).toNatClampNeg) by decide) h_x2 dL_law_160 ?_
  refine z_aload_n B dL_law_161 rfl 4 rfl ?_
  refine z_iload B dL_law_162 0 rfl ?_
  refine z_iconst (v := 3) B dL_law_164 (by decide) ?_
  refine z_iadd B dL_law_165 ?_
  refine z_seti (y := 3) (by decide) ?_
  refine z_sld (j := 3) (x := x3) B hX hbl hbA (by decide) (show ¬ ((3 : Int32) < 0 ∨ 6 ≤ (3 : Int32).toNatClampNeg) by decide) h_x3 dL_law_166 ?_
  refine z_aload_n B dL_law_167 rfl 4 rfl ?_
  refine z_iload B dL_law_168 0 rfl ?_
  refine z_iconst (v := 4) B dL_law_170 (by decide) ?_
  refine z_iadd B dL_law_171 ?_
  refine z_seti (y := 4) (by decide) ?_
  refine z_sld (j := 4) (x := x4) B hX hbl hbA (by decide) (show ¬ ((4 : Int32) < 0 ∨ 6 ≤ (4 : Int32).toNatClampNeg) by decide) h_x4 dL_law_172 ?_
  refine z_aload_n B dL_law_173 rfl 4 rfl ?_
  refine z_iload B dL_law_174 0 rfl ?_
  refine z_iconst (v := 5) B dL_law_176 (by decide) ?_
  refine z_iadd B dL_law_177 ?_
  refine z_seti (y := 5) (by decide) ?_
  refine z_sld (j := 5) (x := x5) B hX hbl hbA (by decide) (show ¬ ((5 : Int32) < 0 ∨ 6 ≤ (5 : Int32).toNatClampNeg) by decide) h_x5 dL_law_178 ?_
  refine z_aload_n B dL_law_179 rfl 1 rfl ?_
  refine z_cSWi (As := [.ref (b + 0), .int 0, .int x2, .int x3, .int x4, .int x5, .ref (b + 431)]) (rest := []) B cw_L_74 dL_law_180 (ci_L_set_112 l hlt (σ := (ap b σ [] [] [])) (b := b) (lyA hK) x2 x3 x4 x5 q1_x2 q2_x2 (rR_at 0 0 (fz_R hF 0 0 rfl rfl)) (rR_at 1 0 (fz_R hF 1 0 rfl rfl))) rfl (by decide) rfl (Nat.le_of_ble_eq_true rfl) (by decide) (fun r u hu => ?_)
  obtain ⟨hu1, z, hu⟩ := hu
  refine z_eqs (σ' := (ap b (wx_Z σ z) [] [] [])) (hu.trans az_ap) ?_
  show zx p l e _ s m _ below meth c g 8 _ _ _ _ 183 [(4, .int 0), (3, .ref (b + 431)), (2, .ref (b + 405)), (1, .ref (b + 0)), (0, .ref bS)] _
  refine z_seti (y := 1) hu1 ?_
  refine z_istore (lv' := [(5, .int 1), (4, .int 0), (3, .ref (b + 431)), (2, .ref (b + 405)), (1, .ref (b + 0)), (0, .ref bS)]) B dL_law_183 (by decide) rfl ?_
  refine z_aload_n B dL_law_185 rfl 3 rfl ?_
  refine z_aload_n B dL_law_186 rfl 5 rfl ?_
  refine z_iload B dL_law_187 1 rfl ?_
  refine z_iconst (v := 1) B dL_law_189 (by decide) ?_
  refine z_iadd B dL_law_190 ?_
  refine z_seti (y := 1) (by decide) ?_
  refine z_sld (j := 1) (x := 0) B hX hbl hbA (by decide) (show ¬ ((1 : Int32) < 0 ∨ 6 ≤ (1 : Int32).toNatClampNeg) by decide) h_x1 dL_law_191 ?_
  refine z_aload_n B dL_law_192 rfl 5 rfl ?_
  refine z_iload B dL_law_193 1 rfl ?_
  refine z_iconst (v := 2) B dL_law_195 (by decide) ?_
  refine z_iadd B dL_law_196 ?_
  refine z_seti (y := 2) (by decide) ?_
  refine z_sld (j := 2) (x := x2) B hX hbl hbA (by decide) (show ¬ ((2 : Int32) < 0 ∨ 6 ≤ (2 : Int32).toNatClampNeg) by decide) h_x2 dL_law_197 ?_
  refine z_aload_n B dL_law_198 rfl 5 rfl ?_
  refine z_iload B dL_law_199 1 rfl ?_
  refine z_iconst (v := 3) B dL_law_201 (by decide) ?_
  refine z_iadd B dL_law_202 ?_
  refine z_seti (y := 3) (by decide) ?_
  refine z_sld (j := 3) (x := x3) B hX hbl hbA (by decide) (show ¬ ((3 : Int32) < 0 ∨ 6 ≤ (3 : Int32).toNatClampNeg) by decide) h_x3 dL_law_203 ?_
  refine z_aload_n B dL_law_204 rfl 5 rfl ?_
  refine z_iload B dL_law_205 1 rfl ?_
  refine z_iconst (v := 4) B dL_law_207 (by decide) ?_
  refine z_iadd B dL_law_208 ?_
  refine z_seti (y := 4) (by decide) ?_
  refine z_sld (j := 4) (x := x4) B hX hbl hbA (by decide) (show ¬ ((4 : Int32) < 0 ∨ 6 ≤ (4 : Int32).toNatClampNeg) by decide) h_x4 dL_law_209 ?_
  refine z_aload_n B dL_law_210 rfl 5 rfl ?_
  refine z_iload B dL_law_211 1 rfl ?_
  refine z_iconst (v := 5) B dL_law_213 (by decide) ?_
  refine z_iadd B dL_law_214 ?_
  refine z_seti (y := 5) (by decide) ?_
  refine z_sld (j := 5) (x := x5) B hX hbl hbA (by decide) (show ¬ ((5 : Int32) < 0 ∨ 6 ≤ (5 : Int32).toNatClampNeg) by decide) h_x5 dL_law_215 ?_
  refine z_cVi (As := [.int 0, .int x2, .int x3, .int x4, .int x5]) (rest := []) B cw_L_79 cx_10 dL_law_216 (ci_X9_set_116 l (σ := (ap b (wx_Z σ z) [] [] [])) (b := b) (lyA (lyZ hK)) x2 x3 x4 x5 q1_x2 q2_x2 q1_x3 q2_x3 q1_x4 q2_x4) (lKA (lKZ (hk_K hK 405 rfl rfl))) rfl (by decide) rfl (Nat.le_of_ble_eq_true rfl) (by decide) (fun r u hu => ?_)
  refine z_eqs (σ' := (ap b (wx_Z σ z) [(405, 0, 1)] [] [])) (hu.2.trans ap_ap) ?_
  show zx p l e _ s m _ below meth c g 8 _ _ _ _ 219 [(5, .int 1), (4, .int 0), (3, .ref (b + 431)), (2, .ref (b + 405)), (1, .ref (b + 0)), (0, .ref bS)] _
  refine z_seti (y := 0) hu.1 ?_
  refine z_istore (lv' := [(6, .int 0), (5, .int 1), (4, .int 0), (3, .ref (b + 431)), (2, .ref (b + 405)), (1, .ref (b + 0)), (0, .ref bS)]) B dL_law_219 (by decide) rfl ?_
  refine z_aload_n B dL_law_221 rfl 4 rfl ?_
  refine z_cVi (As := []) (rest := []) B cw_L_80 cx_10 dL_law_222 (ci_X9_thrown_31 l (σ := (ap b (wx_Z σ z) [(405, 0, 1)] [] [])) (b := b) (lyA (lyZ hK)) (rI_at 405 0 rfl)) (lKA (lKZ (hk_K hK 405 rfl rfl))) rfl (by decide) rfl (Nat.le_of_ble_eq_true rfl) (by decide) (fun r u hu => ?_)
  refine z_eqs (σ' := (ap b (wx_Z σ z) [(405, 0, 1)] [] [])) hu.2 ?_
  show zx p l e _ s m _ below meth c g 8 _ _ _ _ 225 [(6, .int 0), (5, .int 1), (4, .int 0), (3, .ref (b + 431)), (2, .ref (b + 405)), (1, .ref (b + 0)), (0, .ref bS)] _
  refine z_seti (y := 1) hu.1 ?_
  refine z_iload B dL_law_225 1 rfl ?_
  refine z_icmp_eq (tgt := 232) B dL_law_227 (by decide) (fun _ => ?_) (fun h => absurd (by decide) h)
  refine z_iload B dL_law_232 1 rfl ?_
  refine z_if_ne (tgt := 249) B dL_law_234 (by decide) (fun _ => ?_) (fun h => absurd h (by decide))
  refine z_goto (tgt := 1395) B dL_law_249 (by decide) ?_
  exact z_widen (Nat.le_of_ble_eq_true rfl) (Nat.le_of_ble_eq_true rfl) (z_sub _ [2, 6] rfl (kk _))
set_option maxRecDepth 100000 in
set_option maxHeartbeats 4000000 in
theorem lf_0_23 {p : Program} {l : Launch} {e : Env} {s : State} {m : MethodId} {args : Array Value} {below : List Frame} {meth : Method} {c : Code} {g : gx_T} {Q : State → Prop} {σ : sx_T} {b t bS : Nat} {xs : Nat → Int32} (hlt : l.stackTraces = false) (B : zx_B p s m args meth c code RL 8 g) (hX : va_X bS 6 xs s s.heap) (hbl : bS < s.heap.size) (hbA : ¬ gx_b g ≤ bS) (hF : fz_P b t σ) (h_x1 : xs 1 = 0) {x2 : Int32} (h_x2 : xs 2 = x2) (q1_x2 : (20 : Int) ≤ x2.toInt) (q2_x2 : x2.toInt ≤ (2147483647 : Int)) {x3 : Int32} (h_x3 : xs 3 = x3) (q1_x3 : (0 : Int) ≤ x3.toInt) (q2_x3 : x3.toInt ≤ (17 : Int)) {x4 : Int32} (h_x4 : xs 4 = x4) (q1_x4 : (0 : Int) ≤ x4.toInt) (q2_x4 : x4.toInt ≤ (99 : Int)) {x5 : Int32} (h_x5 : xs 5 = x5) (q1_x5 : (-2147483648 : Int) ≤ x5.toInt) (q2_x5 : x5.toInt ≤ (-1 : Int)) (kk : ∀ σ', zx p l e room_1 s m args below meth c g 8 600002 7302232 Q σ' 1395 [(4, .int 0), (0, .ref bS)] []) : zx p l e room_1 s m args below meth c g 8 500 100000 Q σ 148 [(4, .int 0), (3, .ref (b + 431)), (2, .ref (b + 405)), (1, .ref (b + 0)), (0, .ref bS)] [] := by
  have hK := fz_lay hF
  refine z_eqs (σ' := (ap b σ [] [] [])) rfl ?_
  refine z_aload_n B dL_law_148 rfl 3 rfl ?_
  refine z_aload_n B dL_law_149 rfl 4 rfl ?_
  refine z_iload B dL_law_150 0 rfl ?_
  refine z_iconst (v := 1) B dL_law_152 (by decide) ?_
  refine z_iadd B dL_law_153 ?_
  refine z_seti (y := 1) (by decide) ?_
  refine z_sld (j := 1) (x := 0) B hX hbl hbA (by decide) (show ¬ ((1 : Int32) < 0 ∨ 6 ≤ (1 : Int32).toNatClampNeg) by decide) h_x1 dL_law_154 ?_
  refine z_aload_n B dL_law_155 rfl 4 rfl ?_
  refine z_iload B dL_law_156 0 rfl ?_
  refine z_iconst (v := 2) B dL_law_158 (by decide) ?_
  refine z_iadd B dL_law_159 ?_
  refine z_seti (y := 2) (by decide) ?_
  refine z_sld (j := 2) (x := x2) B hX hbl hbA (by decide) (show ¬ ((2 : Int32) < 0 ∨ 6 ≤ (2 : Int32).toNatClampNeg) by decide) h_x2 dL_law_160 ?_
  refine z_aload_n B dL_law_161 rfl 4 rfl ?_
  refine z_iload B dL_law_162 0 rfl ?_
  refine z_iconst (v := 3) B dL_law_164 (by decide) ?_
  refine z_iadd B dL_law_165 ?_
  refine z_seti (y := 3) (by decide) ?_
  refine z_sld (j := 3) (x := x3) B hX hbl hbA (by decide) (show ¬ ((3 : Int32) < 0 ∨ 6 ≤ (3 : Int32).toNatClampNeg) by decide) h_x3 dL_law_166 ?_
  refine z_aload_n B dL_law_167 rfl 4 rfl ?_
  refine z_iload B dL_law_168 0 rfl ?_
  refine z_iconst (v := 4) B dL_law_170 (by decide) ?_
  refine z_iadd B dL_law_171 ?_
  refine z_seti (y := 4) (by decide) ?_
  refine z_sld (j := 4) (x := x4) B hX hbl hbA (by decide) (show ¬ ((4 : Int32) < 0 ∨ 6 ≤ (4 : Int32).toNatClampNeg) by decide) h_x4 dL_law_172 ?_
  refine z_aload_n B dL_law_173 rfl 4 rfl ?_
  refine z_iload B dL_law_174 0 rfl ?_
  refine z_iconst (v := 5) B dL_law_176 (by decide) ?_
  refine z_iadd B dL_law_177 ?_
  refine z_seti (y := 5) (by decide) ?_
  refine z_sld (j := 5) (x := x5) B hX hbl hbA (by decide) (show ¬ ((5 : Int32) < 0 ∨ 6 ≤ (5 : Int32).toNatClampNeg) by decide) h_x5 dL_law_178 ?_
  refine z_aload_n B dL_law_179 rfl 1 rfl ?_
  refine z_cSWi (As := [.ref (b + 0), .int 0, .int x2, .int x3, .int x4, .int x5, .ref (b + 431)]) (rest := []) B cw_L_74 dL_law_180 (ci_L_set_112 l hlt (σ := (ap b σ [] [] [])) (b := b) (lyA hK) x2 x3 x4 x5 q1_x2 q2_x2 (rR_at 0 0 (fz_R hF 0 0 rfl rfl)) (rR_at 1 0 (fz_R hF 1 0 rfl rfl))) rfl (by decide) rfl (Nat.le_of_ble_eq_true rfl) (by decide) (fun r u hu => ?_)
  obtain ⟨hu1, z, hu⟩ := hu
  refine z_eqs (σ' := (ap b (wx_Z σ z) [] [] [])) (hu.trans az_ap) ?_
  show zx p l e _ s m _ below meth c g 8 _ _ _ _ 183 [(4, .int 0), (3, .ref (b + 431)), (2, .ref (b + 405)), (1, .ref (b + 0)), (0, .ref bS)] _
  refine z_seti (y := 1) hu1 ?_
  refine z_istore (lv' := [(5, .int 1), (4, .int 0), (3, .ref (b + 431)), (2, .ref (b + 405)), (1, .ref (b + 0)), (0, .ref bS)]) B dL_law_183 (by decide) rfl ?_
  refine z_aload_n B dL_law_185 rfl 3 rfl ?_
  refine z_aload_n B dL_law_186 rfl 5 rfl ?_
  refine z_iload B dL_law_187 1 rfl ?_
  refine z_iconst (v := 1) B dL_law_189 (by decide) ?_
  refine z_iadd B dL_law_190 ?_
  refine z_seti (y := 1) (by decide) ?_
  refine z_sld (j := 1) (x := 0) B hX hbl hbA (by decide) (show ¬ ((1 : Int32) < 0 ∨ 6 ≤ (1 : Int32).toNatClampNeg) by decide) h_x1 dL_law_191 ?_
  refine z_aload_n B dL_law_192 rfl 5 rfl ?_
  refine z_iload B dL_law_193 1 rfl ?_
  refine z_iconst (v := 2) B dL_law_195 (by decide) ?_
  refine z_iadd B dL_law_196 ?_
  refine z_seti (y := 2) (by decide) ?_
  refine z_sld (j := 2) (x := x2) B hX hbl hbA (by decide) (show ¬ ((2 : Int32) < 0 ∨ 6 ≤ (2 : Int32).toNatClampNeg) by decide) h_x2 dL_law_197 ?_
  refine z_aload_n B dL_law_198 rfl 5 rfl ?_
  refine z_iload B dL_law_199 1 rfl ?_
  refine z_iconst (v := 3) B dL_law_201 (by decide) ?_
  refine z_iadd B dL_law_202 ?_
  refine z_seti (y := 3) (by decide) ?_
  refine z_sld (j := 3) (x := x3) B hX hbl hbA (by decide) (show ¬ ((3 : Int32) < 0 ∨ 6 ≤ (3 : Int32).toNatClampNeg) by decide) h_x3 dL_law_203 ?_
  refine z_aload_n B dL_law_204 rfl 5 rfl ?_
  refine z_iload B dL_law_205 1 rfl ?_
  refine z_iconst (v := 4) B dL_law_207 (by decide) ?_
  refine z_iadd B dL_law_208 ?_
  refine z_seti (y := 4) (by decide) ?_
  refine z_sld (j := 4) (x := x4) B hX hbl hbA (by decide) (show ¬ ((4 : Int32) < 0 ∨ 6 ≤ (4 : Int32).toNatClampNeg) by decide) h_x4 dL_law_209 ?_
  refine z_aload_n B dL_law_210 rfl 5 rfl ?_
  refine z_iload B dL_law_211 1 rfl ?_
  refine z_iconst (v := 5) B dL_law_213 (by decide) ?_
  refine z_iadd B dL_law_214 ?_
  refine z_seti (y := 5) (by decide) ?_
  refine z_sld (j := 5) (x := x5) B hX hbl hbA (by decide) (show ¬ ((5 : Int32) < 0 ∨ 6 ≤ (5 : Int32).toNatClampNeg) by decide) h_x5 dL_law_215 ?_
  refine z_cVi (As := [.int 0, .int x2, .int x3, .int x4, .int x5]) (rest := []) B cw_L_79 cx_10 dL_law_216 (ci_X9_set_117 l (σ := (ap b (wx_Z σ z) [] [] [])) (b := b) (lyA (lyZ hK)) x2 x3 x4 x5 q1_x2 q2_x2 q1_x3 q2_x3 q1_x4 q2_x4 q1_x5 q2_x5) (lKA (lKZ (hk_K hK 405 rfl rfl))) rfl (by decide) rfl (Nat.le_of_ble_eq_true rfl) (by decide) (fun r u hu => ?_)
  refine z_eqs (σ' := (ap b (wx_Z σ z) [(405, 0, 1)] [] [])) (hu.2.trans ap_ap) ?_
  show zx p l e _ s m _ below meth c g 8 _ _ _ _ 219 [(5, .int 1), (4, .int 0), (3, .ref (b + 431)), (2, .ref (b + 405)), (1, .ref (b + 0)), (0, .ref bS)] _
  refine z_seti (y := 0) hu.1 ?_
  refine z_istore (lv' := [(6, .int 0), (5, .int 1), (4, .int 0), (3, .ref (b + 431)), (2, .ref (b + 405)), (1, .ref (b + 0)), (0, .ref bS)]) B dL_law_219 (by decide) rfl ?_
  refine z_aload_n B dL_law_221 rfl 4 rfl ?_
  refine z_cVi (As := []) (rest := []) B cw_L_80 cx_10 dL_law_222 (ci_X9_thrown_31 l (σ := (ap b (wx_Z σ z) [(405, 0, 1)] [] [])) (b := b) (lyA (lyZ hK)) (rI_at 405 0 rfl)) (lKA (lKZ (hk_K hK 405 rfl rfl))) rfl (by decide) rfl (Nat.le_of_ble_eq_true rfl) (by decide) (fun r u hu => ?_)
  refine z_eqs (σ' := (ap b (wx_Z σ z) [(405, 0, 1)] [] [])) hu.2 ?_
  show zx p l e _ s m _ below meth c g 8 _ _ _ _ 225 [(6, .int 0), (5, .int 1), (4, .int 0), (3, .ref (b + 431)), (2, .ref (b + 405)), (1, .ref (b + 0)), (0, .ref bS)] _
  refine z_seti (y := 1) hu.1 ?_
  refine z_iload B dL_law_225 1 rfl ?_
  refine z_icmp_eq (tgt := 232) B dL_law_227 (by decide) (fun _ => ?_) (fun h => absurd (by decide) h)
  refine z_iload B dL_law_232 1 rfl ?_
  refine z_if_ne (tgt := 249) B dL_law_234 (by decide) (fun _ => ?_) (fun h => absurd h (by decide))
  refine z_goto (tgt := 1395) B dL_law_249 (by decide) ?_
  exact z_widen (Nat.le_of_ble_eq_true rfl) (Nat.le_of_ble_eq_true rfl) (z_sub _ [2, 6] rfl (kk _))
set_option maxRecDepth 100000 in
set_option maxHeartbeats 4000000 in
theorem lf_0_24 {p : Program} {l : Launch} {e : Env} {s : State} {m : MethodId} {args : Array Value} {below : List Frame} {meth : Method} {c : Code} {g : gx_T} {Q : State → Prop} {σ : sx_T} {b t bS : Nat} {xs : Nat → Int32} (hlt : l.stackTraces = false) (B : zx_B p s m args meth c code RL 8 g) (hX : va_X bS 6 xs s s.heap) (hbl : bS < s.heap.size) (hbA : ¬ gx_b g ≤ bS) (hF : fz_P b t σ) (h_x1 : xs 1 = 0) {x2 : Int32} (h_x2 : xs 2 = x2) (q1_x2 : (20 : Int) ≤ x2.toInt) (q2_x2 : x2.toInt ≤ (2147483647 : Int)) {x3 : Int32} (h_x3 : xs 3 = x3) (q1_x3 : (0 : Int) ≤ x3.toInt) (q2_x3 : x3.toInt ≤ (17 : Int)) {x4 : Int32} (h_x4 : xs 4 = x4) (q1_x4 : (0 : Int) ≤ x4.toInt) (q2_x4 : x4.toInt ≤ (99 : Int)) {x5 : Int32} (h_x5 : xs 5 = x5) (q1_x5 : (0 : Int) ≤ x5.toInt) (q2_x5 : x5.toInt ≤ (99 : Int)) (kk : ∀ σ', zx p l e room_1 s m args below meth c g 8 600002 7302232 Q σ' 1395 [(4, .int 0), (0, .ref bS)] []) : zx p l e room_1 s m args below meth c g 8 500 100000 Q σ 148 [(4, .int 0), (3, .ref (b + 431)), (2, .ref (b + 405)), (1, .ref (b + 0)), (0, .ref bS)] [] := by
  have hK := fz_lay hF
  refine z_eqs (σ' := (ap b σ [] [] [])) rfl ?_
  refine z_aload_n B dL_law_148 rfl 3 rfl ?_
  refine z_aload_n B dL_law_149 rfl 4 rfl ?_
  refine z_iload B dL_law_150 0 rfl ?_
  refine z_iconst (v := 1) B dL_law_152 (by decide) ?_
  refine z_iadd B dL_law_153 ?_
  refine z_seti (y := 1) (by decide) ?_
  refine z_sld (j := 1) (x := 0) B hX hbl hbA (by decide) (show ¬ ((1 : Int32) < 0 ∨ 6 ≤ (1 : Int32).toNatClampNeg) by decide) h_x1 dL_law_154 ?_
  refine z_aload_n B dL_law_155 rfl 4 rfl ?_
  refine z_iload B dL_law_156 0 rfl ?_
  refine z_iconst (v := 2) B dL_law_158 (by decide) ?_
  refine z_iadd B dL_law_159 ?_
  refine z_seti (y := 2) (by decide) ?_
  refine z_sld (j := 2) (x := x2) B hX hbl hbA (by decide) (show ¬ ((2 : Int32) < 0 ∨ 6 ≤ (2 : Int32).toNatClampNeg) by decide) h_x2 dL_law_160 ?_
  refine z_aload_n B dL_law_161 rfl 4 rfl ?_
  refine z_iload B dL_law_162 0 rfl ?_
  refine z_iconst (v := 3) B dL_law_164 (by decide) ?_
  refine z_iadd B dL_law_165 ?_
  refine z_seti (y := 3) (by decide) ?_
  refine z_sld (j := 3) (x := x3) B hX hbl hbA (by decide) (show ¬ ((3 : Int32) < 0 ∨ 6 ≤ (3 : Int32).toNatClampNeg) by decide) h_x3 dL_law_166 ?_
  refine z_aload_n B dL_law_167 rfl 4 rfl ?_
  refine z_iload B dL_law_168 0 rfl ?_
  refine z_iconst (v := 4) B dL_law_170 (by decide) ?_
  refine z_iadd B dL_law_171 ?_
  refine z_seti (y := 4) (by decide) ?_
  refine z_sld (j := 4) (x := x4) B hX hbl hbA (by decide) (show ¬ ((4 : Int32) < 0 ∨ 6 ≤ (4 : Int32).toNatClampNeg) by decide) h_x4 dL_law_172 ?_
  refine z_aload_n B dL_law_173 rfl 4 rfl ?_
  refine z_iload B dL_law_174 0 rfl ?_
  refine z_iconst (v := 5) B dL_law_176 (by decide) ?_
  refine z_iadd B dL_law_177 ?_
  refine z_seti (y := 5) (by decide) ?_
  refine z_sld (j := 5) (x := x5) B hX hbl hbA (by decide) (show ¬ ((5 : Int32) < 0 ∨ 6 ≤ (5 : Int32).toNatClampNeg) by decide) h_x5 dL_law_178 ?_
  refine z_aload_n B dL_law_179 rfl 1 rfl ?_
  refine z_cSWi (As := [.ref (b + 0), .int 0, .int x2, .int x3, .int x4, .int x5, .ref (b + 431)]) (rest := []) B cw_L_74 dL_law_180 (ci_L_set_112 l hlt (σ := (ap b σ [] [] [])) (b := b) (lyA hK) x2 x3 x4 x5 q1_x2 q2_x2 (rR_at 0 0 (fz_R hF 0 0 rfl rfl)) (rR_at 1 0 (fz_R hF 1 0 rfl rfl))) rfl (by decide) rfl (Nat.le_of_ble_eq_true rfl) (by decide) (fun r u hu => ?_)
  obtain ⟨hu1, z, hu⟩ := hu
  refine z_eqs (σ' := (ap b (wx_Z σ z) [] [] [])) (hu.trans az_ap) ?_
  show zx p l e _ s m _ below meth c g 8 _ _ _ _ 183 [(4, .int 0), (3, .ref (b + 431)), (2, .ref (b + 405)), (1, .ref (b + 0)), (0, .ref bS)] _
  refine z_seti (y := 1) hu1 ?_
  refine z_istore (lv' := [(5, .int 1), (4, .int 0), (3, .ref (b + 431)), (2, .ref (b + 405)), (1, .ref (b + 0)), (0, .ref bS)]) B dL_law_183 (by decide) rfl ?_
  refine z_aload_n B dL_law_185 rfl 3 rfl ?_
  refine z_aload_n B dL_law_186 rfl 5 rfl ?_
  refine z_iload B dL_law_187 1 rfl ?_
  refine z_iconst (v := 1) B dL_law_189 (by decide) ?_
  refine z_iadd B dL_law_190 ?_
  refine z_seti (y := 1) (by decide) ?_
  refine z_sld (j := 1) (x := 0) B hX hbl hbA (by decide) (show ¬ ((1 : Int32) < 0 ∨ 6 ≤ (1 : Int32).toNatClampNeg) by decide) h_x1 dL_law_191 ?_
  refine z_aload_n B dL_law_192 rfl 5 rfl ?_
  refine z_iload B dL_law_193 1 rfl ?_
  refine z_iconst (v := 2) B dL_law_195 (by decide) ?_
  refine z_iadd B dL_law_196 ?_
  refine z_seti (y := 2) (by decide) ?_
  refine z_sld (j := 2) (x := x2) B hX hbl hbA (by decide) (show ¬ ((2 : Int32) < 0 ∨ 6 ≤ (2 : Int32).toNatClampNeg) by decide) h_x2 dL_law_197 ?_
  refine z_aload_n B dL_law_198 rfl 5 rfl ?_
  refine z_iload B dL_law_199 1 rfl ?_
  refine z_iconst (v := 3) B dL_law_201 (by decide) ?_
  refine z_iadd B dL_law_202 ?_
  refine z_seti (y := 3) (by decide) ?_
  refine z_sld (j := 3) (x := x3) B hX hbl hbA (by decide) (show ¬ ((3 : Int32) < 0 ∨ 6 ≤ (3 : Int32).toNatClampNeg) by decide) h_x3 dL_law_203 ?_
  refine z_aload_n B dL_law_204 rfl 5 rfl ?_
  refine z_iload B dL_law_205 1 rfl ?_
  refine z_iconst (v := 4) B dL_law_207 (by decide) ?_
  refine z_iadd B dL_law_208 ?_
  refine z_seti (y := 4) (by decide) ?_
  refine z_sld (j := 4) (x := x4) B hX hbl hbA (by decide) (show ¬ ((4 : Int32) < 0 ∨ 6 ≤ (4 : Int32).toNatClampNeg) by decide) h_x4 dL_law_209 ?_
  refine z_aload_n B dL_law_210 rfl 5 rfl ?_
  refine z_iload B dL_law_211 1 rfl ?_
  refine z_iconst (v := 5) B dL_law_213 (by decide) ?_
  refine z_iadd B dL_law_214 ?_
  refine z_seti (y := 5) (by decide) ?_
  refine z_sld (j := 5) (x := x5) B hX hbl hbA (by decide) (show ¬ ((5 : Int32) < 0 ∨ 6 ≤ (5 : Int32).toNatClampNeg) by decide) h_x5 dL_law_215 ?_
  refine z_cVi (As := [.int 0, .int x2, .int x3, .int x4, .int x5]) (rest := []) B cw_L_79 cx_10 dL_law_216 (ci_X9_set_118 l (σ := (ap b (wx_Z σ z) [] [] [])) (b := b) (lyA (lyZ hK)) x2 x3 x4 x5 q1_x2 q2_x2 q1_x3 q2_x3 q1_x4 q2_x4 q1_x5 q2_x5) (lKA (lKZ (hk_K hK 405 rfl rfl))) rfl (by decide) rfl (Nat.le_of_ble_eq_true rfl) (by decide) (fun r u hu => ?_)
  refine z_eqs (σ' := (ap b (wx_Z σ z) [(405, 0, 1)] [] [])) (hu.2.trans ap_ap) ?_
  show zx p l e _ s m _ below meth c g 8 _ _ _ _ 219 [(5, .int 1), (4, .int 0), (3, .ref (b + 431)), (2, .ref (b + 405)), (1, .ref (b + 0)), (0, .ref bS)] _
  refine z_seti (y := 0) hu.1 ?_
  refine z_istore (lv' := [(6, .int 0), (5, .int 1), (4, .int 0), (3, .ref (b + 431)), (2, .ref (b + 405)), (1, .ref (b + 0)), (0, .ref bS)]) B dL_law_219 (by decide) rfl ?_
  refine z_aload_n B dL_law_221 rfl 4 rfl ?_
  refine z_cVi (As := []) (rest := []) B cw_L_80 cx_10 dL_law_222 (ci_X9_thrown_31 l (σ := (ap b (wx_Z σ z) [(405, 0, 1)] [] [])) (b := b) (lyA (lyZ hK)) (rI_at 405 0 rfl)) (lKA (lKZ (hk_K hK 405 rfl rfl))) rfl (by decide) rfl (Nat.le_of_ble_eq_true rfl) (by decide) (fun r u hu => ?_)
  refine z_eqs (σ' := (ap b (wx_Z σ z) [(405, 0, 1)] [] [])) hu.2 ?_
  show zx p l e _ s m _ below meth c g 8 _ _ _ _ 225 [(6, .int 0), (5, .int 1), (4, .int 0), (3, .ref (b + 431)), (2, .ref (b + 405)), (1, .ref (b + 0)), (0, .ref bS)] _
  refine z_seti (y := 1) hu.1 ?_
  refine z_iload B dL_law_225 1 rfl ?_
  refine z_icmp_eq (tgt := 232) B dL_law_227 (by decide) (fun _ => ?_) (fun h => absurd (by decide) h)
  refine z_iload B dL_law_232 1 rfl ?_
  refine z_if_ne (tgt := 249) B dL_law_234 (by decide) (fun _ => ?_) (fun h => absurd h (by decide))
  refine z_goto (tgt := 1395) B dL_law_249 (by decide) ?_
  exact z_widen (Nat.le_of_ble_eq_true rfl) (Nat.le_of_ble_eq_true rfl) (z_sub _ [2, 6] rfl (kk _))
set_option maxRecDepth 100000 in
set_option maxHeartbeats 4000000 in
theorem lf_0_25 {p : Program} {l : Launch} {e : Env} {s : State} {m : MethodId} {args : Array Value} {below : List Frame} {meth : Method} {c : Code} {g : gx_T} {Q : State → Prop} {σ : sx_T} {b t bS : Nat} {xs : Nat → Int32} (hlt : l.stackTraces = false) (B : zx_B p s m args meth c code RL 8 g) (hX : va_X bS 6 xs s s.heap) (hbl : bS < s.heap.size) (hbA : ¬ gx_b g ≤ bS) (hF : fz_P b t σ) (h_x1 : xs 1 = 0) {x2 : Int32} (h_x2 : xs 2 = x2) (q1_x2 : (20 : Int) ≤ x2.toInt) (q2_x2 : x2.toInt ≤ (2147483647 : Int)) {x3 : Int32} (h_x3 : xs 3 = x3) (q1_x3 : (0 : Int) ≤ x3.toInt) (q2_x3 : x3.toInt ≤ (17 : Int)) {x4 : Int32} (h_x4 : xs 4 = x4) (q1_x4 : (0 : Int) ≤ x4.toInt) (q2_x4 : x4.toInt ≤ (99 : Int)) {x5 : Int32} (h_x5 : xs 5 = x5) (q1_x5 : (100 : Int) ≤ x5.toInt) (q2_x5 : x5.toInt ≤ (2147483647 : Int)) (kk : ∀ σ', zx p l e room_1 s m args below meth c g 8 600002 7302232 Q σ' 1395 [(4, .int 0), (0, .ref bS)] []) : zx p l e room_1 s m args below meth c g 8 500 100000 Q σ 148 [(4, .int 0), (3, .ref (b + 431)), (2, .ref (b + 405)), (1, .ref (b + 0)), (0, .ref bS)] [] := by
  have hK := fz_lay hF
  refine z_eqs (σ' := (ap b σ [] [] [])) rfl ?_
  refine z_aload_n B dL_law_148 rfl 3 rfl ?_
  refine z_aload_n B dL_law_149 rfl 4 rfl ?_
  refine z_iload B dL_law_150 0 rfl ?_
  refine z_iconst (v := 1) B dL_law_152 (by decide) ?_
  refine z_iadd B dL_law_153 ?_
  refine z_seti (y := 1) (by decide) ?_
  refine z_sld (j := 1) (x := 0) B hX hbl hbA (by decide) (show ¬ ((1 : Int32) < 0 ∨ 6 ≤ (1 : Int32).toNatClampNeg) by decide) h_x1 dL_law_154 ?_
  refine z_aload_n B dL_law_155 rfl 4 rfl ?_
  refine z_iload B dL_law_156 0 rfl ?_
  refine z_iconst (v := 2) B dL_law_158 (by decide) ?_
  refine z_iadd B dL_law_159 ?_
  refine z_seti (y := 2) (by decide) ?_
  refine z_sld (j := 2) (x := x2) B hX hbl hbA (by decide) (show ¬ ((2 : Int32) < 0 ∨ 6 ≤ (2 : Int32).toNatClampNeg) by decide) h_x2 dL_law_160 ?_
  refine z_aload_n B dL_law_161 rfl 4 rfl ?_
  refine z_iload B dL_law_162 0 rfl ?_
  refine z_iconst (v := 3) B dL_law_164 (by decide) ?_
  refine z_iadd B dL_law_165 ?_
  refine z_seti (y := 3) (by decide) ?_
  refine z_sld (j := 3) (x := x3) B hX hbl hbA (by decide) (show ¬ ((3 : Int32) < 0 ∨ 6 ≤ (3 : Int32).toNatClampNeg) by decide) h_x3 dL_law_166 ?_
  refine z_aload_n B dL_law_167 rfl 4 rfl ?_
  refine z_iload B dL_law_168 0 rfl ?_
  refine z_iconst (v := 4) B dL_law_170 (by decide) ?_
  refine z_iadd B dL_law_171 ?_
  refine z_seti (y := 4) (by decide) ?_
  refine z_sld (j := 4) (x := x4) B hX hbl hbA (by decide) (show ¬ ((4 : Int32) < 0 ∨ 6 ≤ (4 : Int32).toNatClampNeg) by decide) h_x4 dL_law_172 ?_
  refine z_aload_n B dL_law_173 rfl 4 rfl ?_
  refine z_iload B dL_law_174 0 rfl ?_
  refine z_iconst (v := 5) B dL_law_176 (by decide) ?_
  refine z_iadd B dL_law_177 ?_
  refine z_seti (y := 5) (by decide) ?_
  refine z_sld (j := 5) (x := x5) B hX hbl hbA (by decide) (show ¬ ((5 : Int32) < 0 ∨ 6 ≤ (5 : Int32).toNatClampNeg) by decide) h_x5 dL_law_178 ?_
  refine z_aload_n B dL_law_179 rfl 1 rfl ?_
  refine z_cSWi (As := [.ref (b + 0), .int 0, .int x2, .int x3, .int x4, .int x5, .ref (b + 431)]) (rest := []) B cw_L_74 dL_law_180 (ci_L_set_112 l hlt (σ := (ap b σ [] [] [])) (b := b) (lyA hK) x2 x3 x4 x5 q1_x2 q2_x2 (rR_at 0 0 (fz_R hF 0 0 rfl rfl)) (rR_at 1 0 (fz_R hF 1 0 rfl rfl))) rfl (by decide) rfl (Nat.le_of_ble_eq_true rfl) (by decide) (fun r u hu => ?_)
  obtain ⟨hu1, z, hu⟩ := hu
  refine z_eqs (σ' := (ap b (wx_Z σ z) [] [] [])) (hu.trans az_ap) ?_
  show zx p l e _ s m _ below meth c g 8 _ _ _ _ 183 [(4, .int 0), (3, .ref (b + 431)), (2, .ref (b + 405)), (1, .ref (b + 0)), (0, .ref bS)] _
  refine z_seti (y := 1) hu1 ?_
  refine z_istore (lv' := [(5, .int 1), (4, .int 0), (3, .ref (b + 431)), (2, .ref (b + 405)), (1, .ref (b + 0)), (0, .ref bS)]) B dL_law_183 (by decide) rfl ?_
  refine z_aload_n B dL_law_185 rfl 3 rfl ?_
  refine z_aload_n B dL_law_186 rfl 5 rfl ?_
  refine z_iload B dL_law_187 1 rfl ?_
  refine z_iconst (v := 1) B dL_law_189 (by decide) ?_
  refine z_iadd B dL_law_190 ?_
  refine z_seti (y := 1) (by decide) ?_
  refine z_sld (j := 1) (x := 0) B hX hbl hbA (by decide) (show ¬ ((1 : Int32) < 0 ∨ 6 ≤ (1 : Int32).toNatClampNeg) by decide) h_x1 dL_law_191 ?_
  refine z_aload_n B dL_law_192 rfl 5 rfl ?_
  refine z_iload B dL_law_193 1 rfl ?_
  refine z_iconst (v := 2) B dL_law_195 (by decide) ?_
  refine z_iadd B dL_law_196 ?_
  refine z_seti (y := 2) (by decide) ?_
  refine z_sld (j := 2) (x := x2) B hX hbl hbA (by decide) (show ¬ ((2 : Int32) < 0 ∨ 6 ≤ (2 : Int32).toNatClampNeg) by decide) h_x2 dL_law_197 ?_
  refine z_aload_n B dL_law_198 rfl 5 rfl ?_
  refine z_iload B dL_law_199 1 rfl ?_
  refine z_iconst (v := 3) B dL_law_201 (by decide) ?_
  refine z_iadd B dL_law_202 ?_
  refine z_seti (y := 3) (by decide) ?_
  refine z_sld (j := 3) (x := x3) B hX hbl hbA (by decide) (show ¬ ((3 : Int32) < 0 ∨ 6 ≤ (3 : Int32).toNatClampNeg) by decide) h_x3 dL_law_203 ?_
  refine z_aload_n B dL_law_204 rfl 5 rfl ?_
  refine z_iload B dL_law_205 1 rfl ?_
  refine z_iconst (v := 4) B dL_law_207 (by decide) ?_
  refine z_iadd B dL_law_208 ?_
  refine z_seti (y := 4) (by decide) ?_
  refine z_sld (j := 4) (x := x4) B hX hbl hbA (by decide) (show ¬ ((4 : Int32) < 0 ∨ 6 ≤ (4 : Int32).toNatClampNeg) by decide) h_x4 dL_law_209 ?_
  refine z_aload_n B dL_law_210 rfl 5 rfl ?_
  refine z_iload B dL_law_211 1 rfl ?_
  refine z_iconst (v := 5) B dL_law_213 (by decide) ?_
  refine z_iadd B dL_law_214 ?_
  refine z_seti (y := 5) (by decide) ?_
  refine z_sld (j := 5) (x := x5) B hX hbl hbA (by decide) (show ¬ ((5 : Int32) < 0 ∨ 6 ≤ (5 : Int32).toNatClampNeg) by decide) h_x5 dL_law_215 ?_
  refine z_cVi (As := [.int 0, .int x2, .int x3, .int x4, .int x5]) (rest := []) B cw_L_79 cx_10 dL_law_216 (ci_X9_set_119 l (σ := (ap b (wx_Z σ z) [] [] [])) (b := b) (lyA (lyZ hK)) x2 x3 x4 x5 q1_x2 q2_x2 q1_x3 q2_x3 q1_x4 q2_x4 q1_x5 q2_x5) (lKA (lKZ (hk_K hK 405 rfl rfl))) rfl (by decide) rfl (Nat.le_of_ble_eq_true rfl) (by decide) (fun r u hu => ?_)
  refine z_eqs (σ' := (ap b (wx_Z σ z) [(405, 0, 1)] [] [])) (hu.2.trans ap_ap) ?_
  show zx p l e _ s m _ below meth c g 8 _ _ _ _ 219 [(5, .int 1), (4, .int 0), (3, .ref (b + 431)), (2, .ref (b + 405)), (1, .ref (b + 0)), (0, .ref bS)] _
  refine z_seti (y := 0) hu.1 ?_
  refine z_istore (lv' := [(6, .int 0), (5, .int 1), (4, .int 0), (3, .ref (b + 431)), (2, .ref (b + 405)), (1, .ref (b + 0)), (0, .ref bS)]) B dL_law_219 (by decide) rfl ?_
  refine z_aload_n B dL_law_221 rfl 4 rfl ?_
  refine z_cVi (As := []) (rest := []) B cw_L_80 cx_10 dL_law_222 (ci_X9_thrown_31 l (σ := (ap b (wx_Z σ z) [(405, 0, 1)] [] [])) (b := b) (lyA (lyZ hK)) (rI_at 405 0 rfl)) (lKA (lKZ (hk_K hK 405 rfl rfl))) rfl (by decide) rfl (Nat.le_of_ble_eq_true rfl) (by decide) (fun r u hu => ?_)
  refine z_eqs (σ' := (ap b (wx_Z σ z) [(405, 0, 1)] [] [])) hu.2 ?_
  show zx p l e _ s m _ below meth c g 8 _ _ _ _ 225 [(6, .int 0), (5, .int 1), (4, .int 0), (3, .ref (b + 431)), (2, .ref (b + 405)), (1, .ref (b + 0)), (0, .ref bS)] _
  refine z_seti (y := 1) hu.1 ?_
  refine z_iload B dL_law_225 1 rfl ?_
  refine z_icmp_eq (tgt := 232) B dL_law_227 (by decide) (fun _ => ?_) (fun h => absurd (by decide) h)
  refine z_iload B dL_law_232 1 rfl ?_
  refine z_if_ne (tgt := 249) B dL_law_234 (by decide) (fun _ => ?_) (fun h => absurd h (by decide))
  refine z_goto (tgt := 1395) B dL_law_249 (by decide) ?_
  exact z_widen (Nat.le_of_ble_eq_true rfl) (Nat.le_of_ble_eq_true rfl) (z_sub _ [2, 6] rfl (kk _))
set_option maxRecDepth 100000 in
set_option maxHeartbeats 4000000 in
theorem lf_0_26 {p : Program} {l : Launch} {e : Env} {s : State} {m : MethodId} {args : Array Value} {below : List Frame} {meth : Method} {c : Code} {g : gx_T} {Q : State → Prop} {σ : sx_T} {b t bS : Nat} {xs : Nat → Int32} (hlt : l.stackTraces = false) (B : zx_B p s m args meth c code RL 8 g) (hX : va_X bS 6 xs s s.heap) (hbl : bS < s.heap.size) (hbA : ¬ gx_b g ≤ bS) (hF : fz_P b t σ) (h_x1 : xs 1 = 0) {x2 : Int32} (h_x2 : xs 2 = x2) (q1_x2 : (20 : Int) ≤ x2.toInt) (q2_x2 : x2.toInt ≤ (2147483647 : Int)) {x3 : Int32} (h_x3 : xs 3 = x3) (q1_x3 : (0 : Int) ≤ x3.toInt) (q2_x3 : x3.toInt ≤ (17 : Int)) {x4 : Int32} (h_x4 : xs 4 = x4) (q1_x4 : (100 : Int) ≤ x4.toInt) (q2_x4 : x4.toInt ≤ (2147483647 : Int)) {x5 : Int32} (h_x5 : xs 5 = x5) (q1_x5 : (-2147483648 : Int) ≤ x5.toInt) (q2_x5 : x5.toInt ≤ (2147483647 : Int)) (kk : ∀ σ', zx p l e room_1 s m args below meth c g 8 600002 7302232 Q σ' 1395 [(4, .int 0), (0, .ref bS)] []) : zx p l e room_1 s m args below meth c g 8 500 100000 Q σ 148 [(4, .int 0), (3, .ref (b + 431)), (2, .ref (b + 405)), (1, .ref (b + 0)), (0, .ref bS)] [] := by
  have hK := fz_lay hF
  refine z_eqs (σ' := (ap b σ [] [] [])) rfl ?_
  refine z_aload_n B dL_law_148 rfl 3 rfl ?_
  refine z_aload_n B dL_law_149 rfl 4 rfl ?_
  refine z_iload B dL_law_150 0 rfl ?_
  refine z_iconst (v := 1) B dL_law_152 (by decide) ?_
  refine z_iadd B dL_law_153 ?_
  refine z_seti (y := 1) (by decide) ?_
  refine z_sld (j := 1) (x := 0) B hX hbl hbA (by decide) (show ¬ ((1 : Int32) < 0 ∨ 6 ≤ (1 : Int32).toNatClampNeg) by decide) h_x1 dL_law_154 ?_
  refine z_aload_n B dL_law_155 rfl 4 rfl ?_
  refine z_iload B dL_law_156 0 rfl ?_
  refine z_iconst (v := 2) B dL_law_158 (by decide) ?_
  refine z_iadd B dL_law_159 ?_
  refine z_seti (y := 2) (by decide) ?_
  refine z_sld (j := 2) (x := x2) B hX hbl hbA (by decide) (show ¬ ((2 : Int32) < 0 ∨ 6 ≤ (2 : Int32).toNatClampNeg) by decide) h_x2 dL_law_160 ?_
  refine z_aload_n B dL_law_161 rfl 4 rfl ?_
  refine z_iload B dL_law_162 0 rfl ?_
  refine z_iconst (v := 3) B dL_law_164 (by decide) ?_
  refine z_iadd B dL_law_165 ?_
  refine z_seti (y := 3) (by decide) ?_
  refine z_sld (j := 3) (x := x3) B hX hbl hbA (by decide) (show ¬ ((3 : Int32) < 0 ∨ 6 ≤ (3 : Int32).toNatClampNeg) by decide) h_x3 dL_law_166 ?_
  refine z_aload_n B dL_law_167 rfl 4 rfl ?_
  refine z_iload B dL_law_168 0 rfl ?_
  refine z_iconst (v := 4) B dL_law_170 (by decide) ?_
  refine z_iadd B dL_law_171 ?_
  refine z_seti (y := 4) (by decide) ?_
  refine z_sld (j := 4) (x := x4) B hX hbl hbA (by decide) (show ¬ ((4 : Int32) < 0 ∨ 6 ≤ (4 : Int32).toNatClampNeg) by decide) h_x4 dL_law_172 ?_
  refine z_aload_n B dL_law_173 rfl 4 rfl ?_
  refine z_iload B dL_law_174 0 rfl ?_
  refine z_iconst (v := 5) B dL_law_176 (by decide) ?_
  refine z_iadd B dL_law_177 ?_
  refine z_seti (y := 5) (by decide) ?_
  refine z_sld (j := 5) (x := x5) B hX hbl hbA (by decide) (show ¬ ((5 : Int32) < 0 ∨ 6 ≤ (5 : Int32).toNatClampNeg) by decide) h_x5 dL_law_178 ?_
  refine z_aload_n B dL_law_179 rfl 1 rfl ?_
  refine z_cSWi (As := [.ref (b + 0), .int 0, .int x2, .int x3, .int x4, .int x5, .ref (b + 431)]) (rest := []) B cw_L_74 dL_law_180 (ci_L_set_112 l hlt (σ := (ap b σ [] [] [])) (b := b) (lyA hK) x2 x3 x4 x5 q1_x2 q2_x2 (rR_at 0 0 (fz_R hF 0 0 rfl rfl)) (rR_at 1 0 (fz_R hF 1 0 rfl rfl))) rfl (by decide) rfl (Nat.le_of_ble_eq_true rfl) (by decide) (fun r u hu => ?_)
  obtain ⟨hu1, z, hu⟩ := hu
  refine z_eqs (σ' := (ap b (wx_Z σ z) [] [] [])) (hu.trans az_ap) ?_
  show zx p l e _ s m _ below meth c g 8 _ _ _ _ 183 [(4, .int 0), (3, .ref (b + 431)), (2, .ref (b + 405)), (1, .ref (b + 0)), (0, .ref bS)] _
  refine z_seti (y := 1) hu1 ?_
  refine z_istore (lv' := [(5, .int 1), (4, .int 0), (3, .ref (b + 431)), (2, .ref (b + 405)), (1, .ref (b + 0)), (0, .ref bS)]) B dL_law_183 (by decide) rfl ?_
  refine z_aload_n B dL_law_185 rfl 3 rfl ?_
  refine z_aload_n B dL_law_186 rfl 5 rfl ?_
  refine z_iload B dL_law_187 1 rfl ?_
  refine z_iconst (v := 1) B dL_law_189 (by decide) ?_
  refine z_iadd B dL_law_190 ?_
  refine z_seti (y := 1) (by decide) ?_
  refine z_sld (j := 1) (x := 0) B hX hbl hbA (by decide) (show ¬ ((1 : Int32) < 0 ∨ 6 ≤ (1 : Int32).toNatClampNeg) by decide) h_x1 dL_law_191 ?_
  refine z_aload_n B dL_law_192 rfl 5 rfl ?_
  refine z_iload B dL_law_193 1 rfl ?_
  refine z_iconst (v := 2) B dL_law_195 (by decide) ?_
  refine z_iadd B dL_law_196 ?_
  refine z_seti (y := 2) (by decide) ?_
  refine z_sld (j := 2) (x := x2) B hX hbl hbA (by decide) (show ¬ ((2 : Int32) < 0 ∨ 6 ≤ (2 : Int32).toNatClampNeg) by decide) h_x2 dL_law_197 ?_
  refine z_aload_n B dL_law_198 rfl 5 rfl ?_
  refine z_iload B dL_law_199 1 rfl ?_
  refine z_iconst (v := 3) B dL_law_201 (by decide) ?_
  refine z_iadd B dL_law_202 ?_
  refine z_seti (y := 3) (by decide) ?_
  refine z_sld (j := 3) (x := x3) B hX hbl hbA (by decide) (show ¬ ((3 : Int32) < 0 ∨ 6 ≤ (3 : Int32).toNatClampNeg) by decide) h_x3 dL_law_203 ?_
  refine z_aload_n B dL_law_204 rfl 5 rfl ?_
  refine z_iload B dL_law_205 1 rfl ?_
  refine z_iconst (v := 4) B dL_law_207 (by decide) ?_
  refine z_iadd B dL_law_208 ?_
  refine z_seti (y := 4) (by decide) ?_
  refine z_sld (j := 4) (x := x4) B hX hbl hbA (by decide) (show ¬ ((4 : Int32) < 0 ∨ 6 ≤ (4 : Int32).toNatClampNeg) by decide) h_x4 dL_law_209 ?_
  refine z_aload_n B dL_law_210 rfl 5 rfl ?_
  refine z_iload B dL_law_211 1 rfl ?_
  refine z_iconst (v := 5) B dL_law_213 (by decide) ?_
  refine z_iadd B dL_law_214 ?_
  refine z_seti (y := 5) (by decide) ?_
  refine z_sld (j := 5) (x := x5) B hX hbl hbA (by decide) (show ¬ ((5 : Int32) < 0 ∨ 6 ≤ (5 : Int32).toNatClampNeg) by decide) h_x5 dL_law_215 ?_
  refine z_cVi (As := [.int 0, .int x2, .int x3, .int x4, .int x5]) (rest := []) B cw_L_79 cx_10 dL_law_216 (ci_X9_set_120 l (σ := (ap b (wx_Z σ z) [] [] [])) (b := b) (lyA (lyZ hK)) x2 x3 x4 x5 q1_x2 q2_x2 q1_x3 q2_x3 q1_x4 q2_x4) (lKA (lKZ (hk_K hK 405 rfl rfl))) rfl (by decide) rfl (Nat.le_of_ble_eq_true rfl) (by decide) (fun r u hu => ?_)
  refine z_eqs (σ' := (ap b (wx_Z σ z) [(405, 0, 1)] [] [])) (hu.2.trans ap_ap) ?_
  show zx p l e _ s m _ below meth c g 8 _ _ _ _ 219 [(5, .int 1), (4, .int 0), (3, .ref (b + 431)), (2, .ref (b + 405)), (1, .ref (b + 0)), (0, .ref bS)] _
  refine z_seti (y := 0) hu.1 ?_
  refine z_istore (lv' := [(6, .int 0), (5, .int 1), (4, .int 0), (3, .ref (b + 431)), (2, .ref (b + 405)), (1, .ref (b + 0)), (0, .ref bS)]) B dL_law_219 (by decide) rfl ?_
  refine z_aload_n B dL_law_221 rfl 4 rfl ?_
  refine z_cVi (As := []) (rest := []) B cw_L_80 cx_10 dL_law_222 (ci_X9_thrown_31 l (σ := (ap b (wx_Z σ z) [(405, 0, 1)] [] [])) (b := b) (lyA (lyZ hK)) (rI_at 405 0 rfl)) (lKA (lKZ (hk_K hK 405 rfl rfl))) rfl (by decide) rfl (Nat.le_of_ble_eq_true rfl) (by decide) (fun r u hu => ?_)
  refine z_eqs (σ' := (ap b (wx_Z σ z) [(405, 0, 1)] [] [])) hu.2 ?_
  show zx p l e _ s m _ below meth c g 8 _ _ _ _ 225 [(6, .int 0), (5, .int 1), (4, .int 0), (3, .ref (b + 431)), (2, .ref (b + 405)), (1, .ref (b + 0)), (0, .ref bS)] _
  refine z_seti (y := 1) hu.1 ?_
  refine z_iload B dL_law_225 1 rfl ?_
  refine z_icmp_eq (tgt := 232) B dL_law_227 (by decide) (fun _ => ?_) (fun h => absurd (by decide) h)
  refine z_iload B dL_law_232 1 rfl ?_
  refine z_if_ne (tgt := 249) B dL_law_234 (by decide) (fun _ => ?_) (fun h => absurd h (by decide))
  refine z_goto (tgt := 1395) B dL_law_249 (by decide) ?_
  exact z_widen (Nat.le_of_ble_eq_true rfl) (Nat.le_of_ble_eq_true rfl) (z_sub _ [2, 6] rfl (kk _))
set_option maxRecDepth 100000 in
set_option maxHeartbeats 4000000 in
theorem lf_0_27 {p : Program} {l : Launch} {e : Env} {s : State} {m : MethodId} {args : Array Value} {below : List Frame} {meth : Method} {c : Code} {g : gx_T} {Q : State → Prop} {σ : sx_T} {b t bS : Nat} {xs : Nat → Int32} (hlt : l.stackTraces = false) (B : zx_B p s m args meth c code RL 8 g) (hX : va_X bS 6 xs s s.heap) (hbl : bS < s.heap.size) (hbA : ¬ gx_b g ≤ bS) (hF : fz_P b t σ) (h_x1 : xs 1 = 0) {x2 : Int32} (h_x2 : xs 2 = x2) (q1_x2 : (20 : Int) ≤ x2.toInt) (q2_x2 : x2.toInt ≤ (2147483647 : Int)) {x3 : Int32} (h_x3 : xs 3 = x3) (q1_x3 : (18 : Int) ≤ x3.toInt) (q2_x3 : x3.toInt ≤ (2147483647 : Int)) {x4 : Int32} (h_x4 : xs 4 = x4) (q1_x4 : (-2147483648 : Int) ≤ x4.toInt) (q2_x4 : x4.toInt ≤ (2147483647 : Int)) {x5 : Int32} (h_x5 : xs 5 = x5) (q1_x5 : (-2147483648 : Int) ≤ x5.toInt) (q2_x5 : x5.toInt ≤ (2147483647 : Int)) (kk : ∀ σ', zx p l e room_1 s m args below meth c g 8 600002 7302232 Q σ' 1395 [(4, .int 0), (0, .ref bS)] []) : zx p l e room_1 s m args below meth c g 8 500 100000 Q σ 148 [(4, .int 0), (3, .ref (b + 431)), (2, .ref (b + 405)), (1, .ref (b + 0)), (0, .ref bS)] [] := by
  have hK := fz_lay hF
  refine z_eqs (σ' := (ap b σ [] [] [])) rfl ?_
  refine z_aload_n B dL_law_148 rfl 3 rfl ?_
  refine z_aload_n B dL_law_149 rfl 4 rfl ?_
  refine z_iload B dL_law_150 0 rfl ?_
  refine z_iconst (v := 1) B dL_law_152 (by decide) ?_
  refine z_iadd B dL_law_153 ?_
  refine z_seti (y := 1) (by decide) ?_
  refine z_sld (j := 1) (x := 0) B hX hbl hbA (by decide) (show ¬ ((1 : Int32) < 0 ∨ 6 ≤ (1 : Int32).toNatClampNeg) by decide) h_x1 dL_law_154 ?_
  refine z_aload_n B dL_law_155 rfl 4 rfl ?_
  refine z_iload B dL_law_156 0 rfl ?_
  refine z_iconst (v := 2) B dL_law_158 (by decide) ?_
  refine z_iadd B dL_law_159 ?_
  refine z_seti (y := 2) (by decide) ?_
  refine z_sld (j := 2) (x := x2) B hX hbl hbA (by decide) (show ¬ ((2 : Int32) < 0 ∨ 6 ≤ (2 : Int32).toNatClampNeg) by decide) h_x2 dL_law_160 ?_
  refine z_aload_n B dL_law_161 rfl 4 rfl ?_
  refine z_iload B dL_law_162 0 rfl ?_
  refine z_iconst (v := 3) B dL_law_164 (by decide) ?_
  refine z_iadd B dL_law_165 ?_
  refine z_seti (y := 3) (by decide) ?_
  refine z_sld (j := 3) (x := x3) B hX hbl hbA (by decide) (show ¬ ((3 : Int32) < 0 ∨ 6 ≤ (3 : Int32).toNatClampNeg) by decide) h_x3 dL_law_166 ?_
  refine z_aload_n B dL_law_167 rfl 4 rfl ?_
  refine z_iload B dL_law_168 0 rfl ?_
  refine z_iconst (v := 4) B dL_law_170 (by decide) ?_
  refine z_iadd B dL_law_171 ?_
  refine z_seti (y := 4) (by decide) ?_
  refine z_sld (j := 4) (x := x4) B hX hbl hbA (by decide) (show ¬ ((4 : Int32) < 0 ∨ 6 ≤ (4 : Int32).toNatClampNeg) by decide) h_x4 dL_law_172 ?_
  refine z_aload_n B dL_law_173 rfl 4 rfl ?_
  refine z_iload B dL_law_174 0 rfl ?_
  refine z_iconst (v := 5) B dL_law_176 (by decide) ?_
  refine z_iadd B dL_law_177 ?_
  refine z_seti (y := 5) (by decide) ?_
  refine z_sld (j := 5) (x := x5) B hX hbl hbA (by decide) (show ¬ ((5 : Int32) < 0 ∨ 6 ≤ (5 : Int32).toNatClampNeg) by decide) h_x5 dL_law_178 ?_
  refine z_aload_n B dL_law_179 rfl 1 rfl ?_
  refine z_cSWi (As := [.ref (b + 0), .int 0, .int x2, .int x3, .int x4, .int x5, .ref (b + 431)]) (rest := []) B cw_L_74 dL_law_180 (ci_L_set_112 l hlt (σ := (ap b σ [] [] [])) (b := b) (lyA hK) x2 x3 x4 x5 q1_x2 q2_x2 (rR_at 0 0 (fz_R hF 0 0 rfl rfl)) (rR_at 1 0 (fz_R hF 1 0 rfl rfl))) rfl (by decide) rfl (Nat.le_of_ble_eq_true rfl) (by decide) (fun r u hu => ?_)
  obtain ⟨hu1, z, hu⟩ := hu
  refine z_eqs (σ' := (ap b (wx_Z σ z) [] [] [])) (hu.trans az_ap) ?_
  show zx p l e _ s m _ below meth c g 8 _ _ _ _ 183 [(4, .int 0), (3, .ref (b + 431)), (2, .ref (b + 405)), (1, .ref (b + 0)), (0, .ref bS)] _
  refine z_seti (y := 1) hu1 ?_
  refine z_istore (lv' := [(5, .int 1), (4, .int 0), (3, .ref (b + 431)), (2, .ref (b + 405)), (1, .ref (b + 0)), (0, .ref bS)]) B dL_law_183 (by decide) rfl ?_
  refine z_aload_n B dL_law_185 rfl 3 rfl ?_
  refine z_aload_n B dL_law_186 rfl 5 rfl ?_
  refine z_iload B dL_law_187 1 rfl ?_
  refine z_iconst (v := 1) B dL_law_189 (by decide) ?_
  refine z_iadd B dL_law_190 ?_
  refine z_seti (y := 1) (by decide) ?_
  refine z_sld (j := 1) (x := 0) B hX hbl hbA (by decide) (show ¬ ((1 : Int32) < 0 ∨ 6 ≤ (1 : Int32).toNatClampNeg) by decide) h_x1 dL_law_191 ?_
  refine z_aload_n B dL_law_192 rfl 5 rfl ?_
  refine z_iload B dL_law_193 1 rfl ?_
  refine z_iconst (v := 2) B dL_law_195 (by decide) ?_
  refine z_iadd B dL_law_196 ?_
  refine z_seti (y := 2) (by decide) ?_
  refine z_sld (j := 2) (x := x2) B hX hbl hbA (by decide) (show ¬ ((2 : Int32) < 0 ∨ 6 ≤ (2 : Int32).toNatClampNeg) by decide) h_x2 dL_law_197 ?_
  refine z_aload_n B dL_law_198 rfl 5 rfl ?_
  refine z_iload B dL_law_199 1 rfl ?_
  refine z_iconst (v := 3) B dL_law_201 (by decide) ?_
  refine z_iadd B dL_law_202 ?_
  refine z_seti (y := 3) (by decide) ?_
  refine z_sld (j := 3) (x := x3) B hX hbl hbA (by decide) (show ¬ ((3 : Int32) < 0 ∨ 6 ≤ (3 : Int32).toNatClampNeg) by decide) h_x3 dL_law_203 ?_
  refine z_aload_n B dL_law_204 rfl 5 rfl ?_
  refine z_iload B dL_law_205 1 rfl ?_
  refine z_iconst (v := 4) B dL_law_207 (by decide) ?_
  refine z_iadd B dL_law_208 ?_
  refine z_seti (y := 4) (by decide) ?_
  refine z_sld (j := 4) (x := x4) B hX hbl hbA (by decide) (show ¬ ((4 : Int32) < 0 ∨ 6 ≤ (4 : Int32).toNatClampNeg) by decide) h_x4 dL_law_209 ?_
  refine z_aload_n B dL_law_210 rfl 5 rfl ?_
  refine z_iload B dL_law_211 1 rfl ?_
  refine z_iconst (v := 5) B dL_law_213 (by decide) ?_
  refine z_iadd B dL_law_214 ?_
  refine z_seti (y := 5) (by decide) ?_
  refine z_sld (j := 5) (x := x5) B hX hbl hbA (by decide) (show ¬ ((5 : Int32) < 0 ∨ 6 ≤ (5 : Int32).toNatClampNeg) by decide) h_x5 dL_law_215 ?_
  refine z_cVi (As := [.int 0, .int x2, .int x3, .int x4, .int x5]) (rest := []) B cw_L_79 cx_10 dL_law_216 (ci_X9_set_121 l (σ := (ap b (wx_Z σ z) [] [] [])) (b := b) (lyA (lyZ hK)) x2 x3 x4 x5 q1_x2 q2_x2 q1_x3 q2_x3) (lKA (lKZ (hk_K hK 405 rfl rfl))) rfl (by decide) rfl (Nat.le_of_ble_eq_true rfl) (by decide) (fun r u hu => ?_)
  refine z_eqs (σ' := (ap b (wx_Z σ z) [(405, 0, 1)] [] [])) (hu.2.trans ap_ap) ?_
  show zx p l e _ s m _ below meth c g 8 _ _ _ _ 219 [(5, .int 1), (4, .int 0), (3, .ref (b + 431)), (2, .ref (b + 405)), (1, .ref (b + 0)), (0, .ref bS)] _
  refine z_seti (y := 0) hu.1 ?_
  refine z_istore (lv' := [(6, .int 0), (5, .int 1), (4, .int 0), (3, .ref (b + 431)), (2, .ref (b + 405)), (1, .ref (b + 0)), (0, .ref bS)]) B dL_law_219 (by decide) rfl ?_
  refine z_aload_n B dL_law_221 rfl 4 rfl ?_
  refine z_cVi (As := []) (rest := []) B cw_L_80 cx_10 dL_law_222 (ci_X9_thrown_31 l (σ := (ap b (wx_Z σ z) [(405, 0, 1)] [] [])) (b := b) (lyA (lyZ hK)) (rI_at 405 0 rfl)) (lKA (lKZ (hk_K hK 405 rfl rfl))) rfl (by decide) rfl (Nat.le_of_ble_eq_true rfl) (by decide) (fun r u hu => ?_)
  refine z_eqs (σ' := (ap b (wx_Z σ z) [(405, 0, 1)] [] [])) hu.2 ?_
  show zx p l e _ s m _ below meth c g 8 _ _ _ _ 225 [(6, .int 0), (5, .int 1), (4, .int 0), (3, .ref (b + 431)), (2, .ref (b + 405)), (1, .ref (b + 0)), (0, .ref bS)] _
  refine z_seti (y := 1) hu.1 ?_
  refine z_iload B dL_law_225 1 rfl ?_
  refine z_icmp_eq (tgt := 232) B dL_law_227 (by decide) (fun _ => ?_) (fun h => absurd (by decide) h)
  refine z_iload B dL_law_232 1 rfl ?_
  refine z_if_ne (tgt := 249) B dL_law_234 (by decide) (fun _ => ?_) (fun h => absurd h (by decide))
  refine z_goto (tgt := 1395) B dL_law_249 (by decide) ?_
  exact z_widen (Nat.le_of_ble_eq_true rfl) (Nat.le_of_ble_eq_true rfl) (z_sub _ [2, 6] rfl (kk _))
set_option maxRecDepth 100000 in
set_option maxHeartbeats 4000000 in
theorem lf_0_28 {p : Program} {l : Launch} {e : Env} {s : State} {m : MethodId} {args : Array Value} {below : List Frame} {meth : Method} {c : Code} {g : gx_T} {Q : State → Prop} {σ : sx_T} {b t bS : Nat} {xs : Nat → Int32} (hlt : l.stackTraces = false) (B : zx_B p s m args meth c code RL 8 g) (hX : va_X bS 6 xs s s.heap) (hbl : bS < s.heap.size) (hbA : ¬ gx_b g ≤ bS) (hF : fz_P b t σ) (h_x1 : xs 1 = 1) {x2 : Int32} (h_x2 : xs 2 = x2) (q1_x2 : (-2147483648 : Int) ≤ x2.toInt) (q2_x2 : x2.toInt ≤ (-1 : Int)) {x3 : Int32} (h_x3 : xs 3 = x3) (q1_x3 : (-2147483648 : Int) ≤ x3.toInt) (q2_x3 : x3.toInt ≤ (-1 : Int)) {x4 : Int32} (h_x4 : xs 4 = x4) (q1_x4 : (-2147483648 : Int) ≤ x4.toInt) (q2_x4 : x4.toInt ≤ (2147483647 : Int)) {x5 : Int32} (h_x5 : xs 5 = x5) (q1_x5 : (-2147483648 : Int) ≤ x5.toInt) (q2_x5 : x5.toInt ≤ (2147483647 : Int)) (kk : ∀ σ', zx p l e room_1 s m args below meth c g 8 600002 7302232 Q σ' 1395 [(4, .int 0), (0, .ref bS)] []) : zx p l e room_1 s m args below meth c g 8 500 100000 Q σ 148 [(4, .int 0), (3, .ref (b + 431)), (2, .ref (b + 405)), (1, .ref (b + 0)), (0, .ref bS)] [] := by
  have hK := fz_lay hF
  refine z_eqs (σ' := (ap b σ [] [] [])) rfl ?_
  refine z_aload_n B dL_law_148 rfl 3 rfl ?_
  refine z_aload_n B dL_law_149 rfl 4 rfl ?_
  refine z_iload B dL_law_150 0 rfl ?_
  refine z_iconst (v := 1) B dL_law_152 (by decide) ?_
  refine z_iadd B dL_law_153 ?_
  refine z_seti (y := 1) (by decide) ?_
  refine z_sld (j := 1) (x := 1) B hX hbl hbA (by decide) (show ¬ ((1 : Int32) < 0 ∨ 6 ≤ (1 : Int32).toNatClampNeg) by decide) h_x1 dL_law_154 ?_
  refine z_aload_n B dL_law_155 rfl 4 rfl ?_
  refine z_iload B dL_law_156 0 rfl ?_
  refine z_iconst (v := 2) B dL_law_158 (by decide) ?_
  refine z_iadd B dL_law_159 ?_
  refine z_seti (y := 2) (by decide) ?_
  refine z_sld (j := 2) (x := x2) B hX hbl hbA (by decide) (show ¬ ((2 : Int32) < 0 ∨ 6 ≤ (2 : Int32).toNatClampNeg) by decide) h_x2 dL_law_160 ?_
  refine z_aload_n B dL_law_161 rfl 4 rfl ?_
  refine z_iload B dL_law_162 0 rfl ?_
  refine z_iconst (v := 3) B dL_law_164 (by decide) ?_
  refine z_iadd B dL_law_165 ?_
  refine z_seti (y := 3) (by decide) ?_
  refine z_sld (j := 3) (x := x3) B hX hbl hbA (by decide) (show ¬ ((3 : Int32) < 0 ∨ 6 ≤ (3 : Int32).toNatClampNeg) by decide) h_x3 dL_law_166 ?_
  refine z_aload_n B dL_law_167 rfl 4 rfl ?_
  refine z_iload B dL_law_168 0 rfl ?_
  refine z_iconst (v := 4) B dL_law_170 (by decide) ?_
  refine z_iadd B dL_law_171 ?_
  refine z_seti (y := 4) (by decide) ?_
  refine z_sld (j := 4) (x := x4) B hX hbl hbA (by decide) (show ¬ ((4 : Int32) < 0 ∨ 6 ≤ (4 : Int32).toNatClampNeg) by decide) h_x4 dL_law_172 ?_
  refine z_aload_n B dL_law_173 rfl 4 rfl ?_
  refine z_iload B dL_law_174 0 rfl ?_
  refine z_iconst (v := 5) B dL_law_176 (by decide) ?_
  refine z_iadd B dL_law_177 ?_
  refine z_seti (y := 5) (by decide) ?_
  refine z_sld (j := 5) (x := x5) B hX hbl hbA (by decide) (show ¬ ((5 : Int32) < 0 ∨ 6 ≤ (5 : Int32).toNatClampNeg) by decide) h_x5 dL_law_178 ?_
  refine z_aload_n B dL_law_179 rfl 1 rfl ?_
  refine z_cSWi (As := [.ref (b + 0), .int 1, .int x2, .int x3, .int x4, .int x5, .ref (b + 431)]) (rest := []) B cw_L_74 dL_law_180 (ci_L_set_124 l hlt (σ := (ap b σ [] [] [])) (b := b) (lyA hK) x2 x3 x4 x5 q1_x2 q2_x2 (rR_at 0 0 (fz_R hF 0 0 rfl rfl)) (rR_at 1 1 (fz_R hF 1 1 rfl rfl))) rfl (by decide) rfl (Nat.le_of_ble_eq_true rfl) (by decide) (fun r u hu => ?_)
  obtain ⟨hu1, z, hu⟩ := hu
  refine z_eqs (σ' := (ap b (wx_Z σ z) [] [] [])) (hu.trans az_ap) ?_
  show zx p l e _ s m _ below meth c g 8 _ _ _ _ 183 [(4, .int 0), (3, .ref (b + 431)), (2, .ref (b + 405)), (1, .ref (b + 0)), (0, .ref bS)] _
  refine z_seti (y := 1) hu1 ?_
  refine z_istore (lv' := [(5, .int 1), (4, .int 0), (3, .ref (b + 431)), (2, .ref (b + 405)), (1, .ref (b + 0)), (0, .ref bS)]) B dL_law_183 (by decide) rfl ?_
  refine z_aload_n B dL_law_185 rfl 3 rfl ?_
  refine z_aload_n B dL_law_186 rfl 5 rfl ?_
  refine z_iload B dL_law_187 1 rfl ?_
  refine z_iconst (v := 1) B dL_law_189 (by decide) ?_
  refine z_iadd B dL_law_190 ?_
  refine z_seti (y := 1) (by decide) ?_
  refine z_sld (j := 1) (x := 1) B hX hbl hbA (by decide) (show ¬ ((1 : Int32) < 0 ∨ 6 ≤ (1 : Int32).toNatClampNeg) by decide) h_x1 dL_law_191 ?_
  refine z_aload_n B dL_law_192 rfl 5 rfl ?_
  refine z_iload B dL_law_193 1 rfl ?_
  refine z_iconst (v := 2) B dL_law_195 (by decide) ?_
  refine z_iadd B dL_law_196 ?_
  refine z_seti (y := 2) (by decide) ?_
  refine z_sld (j := 2) (x := x2) B hX hbl hbA (by decide) (show ¬ ((2 : Int32) < 0 ∨ 6 ≤ (2 : Int32).toNatClampNeg) by decide) h_x2 dL_law_197 ?_
  refine z_aload_n B dL_law_198 rfl 5 rfl ?_
  refine z_iload B dL_law_199 1 rfl ?_
  refine z_iconst (v := 3) B dL_law_201 (by decide) ?_
  refine z_iadd B dL_law_202 ?_
  refine z_seti (y := 3) (by decide) ?_
  refine z_sld (j := 3) (x := x3) B hX hbl hbA (by decide) (show ¬ ((3 : Int32) < 0 ∨ 6 ≤ (3 : Int32).toNatClampNeg) by decide) h_x3 dL_law_203 ?_
  refine z_aload_n B dL_law_204 rfl 5 rfl ?_
  refine z_iload B dL_law_205 1 rfl ?_
  refine z_iconst (v := 4) B dL_law_207 (by decide) ?_
  refine z_iadd B dL_law_208 ?_
  refine z_seti (y := 4) (by decide) ?_
  refine z_sld (j := 4) (x := x4) B hX hbl hbA (by decide) (show ¬ ((4 : Int32) < 0 ∨ 6 ≤ (4 : Int32).toNatClampNeg) by decide) h_x4 dL_law_209 ?_
  refine z_aload_n B dL_law_210 rfl 5 rfl ?_
  refine z_iload B dL_law_211 1 rfl ?_
  refine z_iconst (v := 5) B dL_law_213 (by decide) ?_
  refine z_iadd B dL_law_214 ?_
  refine z_seti (y := 5) (by decide) ?_
  refine z_sld (j := 5) (x := x5) B hX hbl hbA (by decide) (show ¬ ((5 : Int32) < 0 ∨ 6 ≤ (5 : Int32).toNatClampNeg) by decide) h_x5 dL_law_215 ?_
  refine z_cVi (As := [.int 1, .int x2, .int x3, .int x4, .int x5]) (rest := []) B cw_L_79 cx_10 dL_law_216 (ci_X9_set_127 l (σ := (ap b (wx_Z σ z) [] [] [])) (b := b) (lyA (lyZ hK)) x2 x3 x4 x5 q1_x2 q2_x2 q1_x3 q2_x3) (lKA (lKZ (hk_K hK 405 rfl rfl))) rfl (by decide) rfl (Nat.le_of_ble_eq_true rfl) (by decide) (fun r u hu => ?_)
  refine z_eqs (σ' := (ap b (wx_Z σ z) [(405, 0, 1)] [] [])) (hu.2.trans ap_ap) ?_
  show zx p l e _ s m _ below meth c g 8 _ _ _ _ 219 [(5, .int 1), (4, .int 0), (3, .ref (b + 431)), (2, .ref (b + 405)), (1, .ref (b + 0)), (0, .ref bS)] _
  refine z_seti (y := 0) hu.1 ?_
  refine z_istore (lv' := [(6, .int 0), (5, .int 1), (4, .int 0), (3, .ref (b + 431)), (2, .ref (b + 405)), (1, .ref (b + 0)), (0, .ref bS)]) B dL_law_219 (by decide) rfl ?_
  refine z_aload_n B dL_law_221 rfl 4 rfl ?_
  refine z_cVi (As := []) (rest := []) B cw_L_80 cx_10 dL_law_222 (ci_X9_thrown_31 l (σ := (ap b (wx_Z σ z) [(405, 0, 1)] [] [])) (b := b) (lyA (lyZ hK)) (rI_at 405 0 rfl)) (lKA (lKZ (hk_K hK 405 rfl rfl))) rfl (by decide) rfl (Nat.le_of_ble_eq_true rfl) (by decide) (fun r u hu => ?_)
  refine z_eqs (σ' := (ap b (wx_Z σ z) [(405, 0, 1)] [] [])) hu.2 ?_
  show zx p l e _ s m _ below meth c g 8 _ _ _ _ 225 [(6, .int 0), (5, .int 1), (4, .int 0), (3, .ref (b + 431)), (2, .ref (b + 405)), (1, .ref (b + 0)), (0, .ref bS)] _
  refine z_seti (y := 1) hu.1 ?_
  refine z_iload B dL_law_225 1 rfl ?_
  refine z_icmp_eq (tgt := 232) B dL_law_227 (by decide) (fun _ => ?_) (fun h => absurd (by decide) h)
  refine z_iload B dL_law_232 1 rfl ?_
  refine z_if_ne (tgt := 249) B dL_law_234 (by decide) (fun _ => ?_) (fun h => absurd h (by decide))
  refine z_goto (tgt := 1395) B dL_law_249 (by decide) ?_
  exact z_widen (Nat.le_of_ble_eq_true rfl) (Nat.le_of_ble_eq_true rfl) (z_sub _ [2, 6] rfl (kk _))
set_option maxRecDepth 100000 in
set_option maxHeartbeats 4000000 in
theorem lf_0_29 {p : Program} {l : Launch} {e : Env} {s : State} {m : MethodId} {args : Array Value} {below : List Frame} {meth : Method} {c : Code} {g : gx_T} {Q : State → Prop} {σ : sx_T} {b t bS : Nat} {xs : Nat → Int32} (hlt : l.stackTraces = false) (B : zx_B p s m args meth c code RL 8 g) (hX : va_X bS 6 xs s s.heap) (hbl : bS < s.heap.size) (hbA : ¬ gx_b g ≤ bS) (hF : fz_P b t σ) (h_x1 : xs 1 = 1) {x2 : Int32} (h_x2 : xs 2 = x2) (q1_x2 : (-2147483648 : Int) ≤ x2.toInt) (q2_x2 : x2.toInt ≤ (-1 : Int)) {x3 : Int32} (h_x3 : xs 3 = x3) (q1_x3 : (0 : Int) ≤ x3.toInt) (q2_x3 : x3.toInt ≤ (17 : Int)) {x4 : Int32} (h_x4 : xs 4 = x4) (q1_x4 : (-2147483648 : Int) ≤ x4.toInt) (q2_x4 : x4.toInt ≤ (-1 : Int)) {x5 : Int32} (h_x5 : xs 5 = x5) (q1_x5 : (-2147483648 : Int) ≤ x5.toInt) (q2_x5 : x5.toInt ≤ (2147483647 : Int)) (kk : ∀ σ', zx p l e room_1 s m args below meth c g 8 600002 7302232 Q σ' 1395 [(4, .int 0), (0, .ref bS)] []) : zx p l e room_1 s m args below meth c g 8 500 100000 Q σ 148 [(4, .int 0), (3, .ref (b + 431)), (2, .ref (b + 405)), (1, .ref (b + 0)), (0, .ref bS)] [] := by
  have hK := fz_lay hF
  refine z_eqs (σ' := (ap b σ [] [] [])) rfl ?_
  refine z_aload_n B dL_law_148 rfl 3 rfl ?_
  refine z_aload_n B dL_law_149 rfl 4 rfl ?_
  refine z_iload B dL_law_150 0 rfl ?_
  refine z_iconst (v := 1) B dL_law_152 (by decide) ?_
  refine z_iadd B dL_law_153 ?_
  refine z_seti (y := 1) (by decide) ?_
  refine z_sld (j := 1) (x := 1) B hX hbl hbA (by decide) (show ¬ ((1 : Int32) < 0 ∨ 6 ≤ (1 : Int32).toNatClampNeg) by decide) h_x1 dL_law_154 ?_
  refine z_aload_n B dL_law_155 rfl 4 rfl ?_
  refine z_iload B dL_law_156 0 rfl ?_
  refine z_iconst (v := 2) B dL_law_158 (by decide) ?_
  refine z_iadd B dL_law_159 ?_
  refine z_seti (y := 2) (by decide) ?_
  refine z_sld (j := 2) (x := x2) B hX hbl hbA (by decide) (show ¬ ((2 : Int32) < 0 ∨ 6 ≤ (2 : Int32).toNatClampNeg) by decide) h_x2 dL_law_160 ?_
  refine z_aload_n B dL_law_161 rfl 4 rfl ?_
  refine z_iload B dL_law_162 0 rfl ?_
  refine z_iconst (v := 3) B dL_law_164 (by decide) ?_
  refine z_iadd B dL_law_165 ?_
  refine z_seti (y := 3) (by decide) ?_
  refine z_sld (j := 3) (x := x3) B hX hbl hbA (by decide) (show ¬ ((3 : Int32) < 0 ∨ 6 ≤ (3 : Int32).toNatClampNeg) by decide) h_x3 dL_law_166 ?_
  refine z_aload_n B dL_law_167 rfl 4 rfl ?_
  refine z_iload B dL_law_168 0 rfl ?_
  refine z_iconst (v := 4) B dL_law_170 (by decide) ?_
  refine z_iadd B dL_law_171 ?_
  refine z_seti (y := 4) (by decide) ?_
  refine z_sld (j := 4) (x := x4) B hX hbl hbA (by decide) (show ¬ ((4 : Int32) < 0 ∨ 6 ≤ (4 : Int32).toNatClampNeg) by decide) h_x4 dL_law_172 ?_
  refine z_aload_n B dL_law_173 rfl 4 rfl ?_
  refine z_iload B dL_law_174 0 rfl ?_
  refine z_iconst (v := 5) B dL_law_176 (by decide) ?_
  refine z_iadd B dL_law_177 ?_
  refine z_seti (y := 5) (by decide) ?_
  refine z_sld (j := 5) (x := x5) B hX hbl hbA (by decide) (show ¬ ((5 : Int32) < 0 ∨ 6 ≤ (5 : Int32).toNatClampNeg) by decide) h_x5 dL_law_178 ?_
  refine z_aload_n B dL_law_179 rfl 1 rfl ?_
  refine z_cSWi (As := [.ref (b + 0), .int 1, .int x2, .int x3, .int x4, .int x5, .ref (b + 431)]) (rest := []) B cw_L_74 dL_law_180 (ci_L_set_124 l hlt (σ := (ap b σ [] [] [])) (b := b) (lyA hK) x2 x3 x4 x5 q1_x2 q2_x2 (rR_at 0 0 (fz_R hF 0 0 rfl rfl)) (rR_at 1 1 (fz_R hF 1 1 rfl rfl))) rfl (by decide) rfl (Nat.le_of_ble_eq_true rfl) (by decide) (fun r u hu => ?_)
  obtain ⟨hu1, z, hu⟩ := hu
  refine z_eqs (σ' := (ap b (wx_Z σ z) [] [] [])) (hu.trans az_ap) ?_
  show zx p l e _ s m _ below meth c g 8 _ _ _ _ 183 [(4, .int 0), (3, .ref (b + 431)), (2, .ref (b + 405)), (1, .ref (b + 0)), (0, .ref bS)] _
  refine z_seti (y := 1) hu1 ?_
  refine z_istore (lv' := [(5, .int 1), (4, .int 0), (3, .ref (b + 431)), (2, .ref (b + 405)), (1, .ref (b + 0)), (0, .ref bS)]) B dL_law_183 (by decide) rfl ?_
  refine z_aload_n B dL_law_185 rfl 3 rfl ?_
  refine z_aload_n B dL_law_186 rfl 5 rfl ?_
  refine z_iload B dL_law_187 1 rfl ?_
  refine z_iconst (v := 1) B dL_law_189 (by decide) ?_
  refine z_iadd B dL_law_190 ?_
  refine z_seti (y := 1) (by decide) ?_
  refine z_sld (j := 1) (x := 1) B hX hbl hbA (by decide) (show ¬ ((1 : Int32) < 0 ∨ 6 ≤ (1 : Int32).toNatClampNeg) by decide) h_x1 dL_law_191 ?_
  refine z_aload_n B dL_law_192 rfl 5 rfl ?_
  refine z_iload B dL_law_193 1 rfl ?_
  refine z_iconst (v := 2) B dL_law_195 (by decide) ?_
  refine z_iadd B dL_law_196 ?_
  refine z_seti (y := 2) (by decide) ?_
  refine z_sld (j := 2) (x := x2) B hX hbl hbA (by decide) (show ¬ ((2 : Int32) < 0 ∨ 6 ≤ (2 : Int32).toNatClampNeg) by decide) h_x2 dL_law_197 ?_
  refine z_aload_n B dL_law_198 rfl 5 rfl ?_
  refine z_iload B dL_law_199 1 rfl ?_
  refine z_iconst (v := 3) B dL_law_201 (by decide) ?_
  refine z_iadd B dL_law_202 ?_
  refine z_seti (y := 3) (by decide) ?_
  refine z_sld (j := 3) (x := x3) B hX hbl hbA (by decide) (show ¬ ((3 : Int32) < 0 ∨ 6 ≤ (3 : Int32).toNatClampNeg) by decide) h_x3 dL_law_203 ?_
  refine z_aload_n B dL_law_204 rfl 5 rfl ?_
  refine z_iload B dL_law_205 1 rfl ?_
  refine z_iconst (v := 4) B dL_law_207 (by decide) ?_
  refine z_iadd B dL_law_208 ?_
  refine z_seti (y := 4) (by decide) ?_
  refine z_sld (j := 4) (x := x4) B hX hbl hbA (by decide) (show ¬ ((4 : Int32) < 0 ∨ 6 ≤ (4 : Int32).toNatClampNeg) by decide) h_x4 dL_law_209 ?_
  refine z_aload_n B dL_law_210 rfl 5 rfl ?_
  refine z_iload B dL_law_211 1 rfl ?_
  refine z_iconst (v := 5) B dL_law_213 (by decide) ?_
  refine z_iadd B dL_law_214 ?_
  refine z_seti (y := 5) (by decide) ?_
  refine z_sld (j := 5) (x := x5) B hX hbl hbA (by decide) (show ¬ ((5 : Int32) < 0 ∨ 6 ≤ (5 : Int32).toNatClampNeg) by decide) h_x5 dL_law_215 ?_
  refine z_cVi (As := [.int 1, .int x2, .int x3, .int x4, .int x5]) (rest := []) B cw_L_79 cx_10 dL_law_216 (ci_X9_set_128 l (σ := (ap b (wx_Z σ z) [] [] [])) (b := b) (lyA (lyZ hK)) x2 x3 x4 x5 q1_x2 q2_x2 q1_x3 q2_x3 q1_x4 q2_x4) (lKA (lKZ (hk_K hK 405 rfl rfl))) rfl (by decide) rfl (Nat.le_of_ble_eq_true rfl) (by decide) (fun r u hu => ?_)
  refine z_eqs (σ' := (ap b (wx_Z σ z) [(405, 0, 1)] [] [])) (hu.2.trans ap_ap) ?_
  show zx p l e _ s m _ below meth c g 8 _ _ _ _ 219 [(5, .int 1), (4, .int 0), (3, .ref (b + 431)), (2, .ref (b + 405)), (1, .ref (b + 0)), (0, .ref bS)] _
  refine z_seti (y := 0) hu.1 ?_
  refine z_istore (lv' := [(6, .int 0), (5, .int 1), (4, .int 0), (3, .ref (b + 431)), (2, .ref (b + 405)), (1, .ref (b + 0)), (0, .ref bS)]) B dL_law_219 (by decide) rfl ?_
  refine z_aload_n B dL_law_221 rfl 4 rfl ?_
  refine z_cVi (As := []) (rest := []) B cw_L_80 cx_10 dL_law_222 (ci_X9_thrown_31 l (σ := (ap b (wx_Z σ z) [(405, 0, 1)] [] [])) (b := b) (lyA (lyZ hK)) (rI_at 405 0 rfl)) (lKA (lKZ (hk_K hK 405 rfl rfl))) rfl (by decide) rfl (Nat.le_of_ble_eq_true rfl) (by decide) (fun r u hu => ?_)
  refine z_eqs (σ' := (ap b (wx_Z σ z) [(405, 0, 1)] [] [])) hu.2 ?_
  show zx p l e _ s m _ below meth c g 8 _ _ _ _ 225 [(6, .int 0), (5, .int 1), (4, .int 0), (3, .ref (b + 431)), (2, .ref (b + 405)), (1, .ref (b + 0)), (0, .ref bS)] _
  refine z_seti (y := 1) hu.1 ?_
  refine z_iload B dL_law_225 1 rfl ?_
  refine z_icmp_eq (tgt := 232) B dL_law_227 (by decide) (fun _ => ?_) (fun h => absurd (by decide) h)
  refine z_iload B dL_law_232 1 rfl ?_
  refine z_if_ne (tgt := 249) B dL_law_234 (by decide) (fun _ => ?_) (fun h => absurd h (by decide))
  refine z_goto (tgt := 1395) B dL_law_249 (by decide) ?_
  exact z_widen (Nat.le_of_ble_eq_true rfl) (Nat.le_of_ble_eq_true rfl) (z_sub _ [2, 6] rfl (kk _))
set_option maxRecDepth 100000 in
set_option maxHeartbeats 4000000 in
theorem lf_0_30 {p : Program} {l : Launch} {e : Env} {s : State} {m : MethodId} {args : Array Value} {below : List Frame} {meth : Method} {c : Code} {g : gx_T} {Q : State → Prop} {σ : sx_T} {b t bS : Nat} {xs : Nat → Int32} (hlt : l.stackTraces = false) (B : zx_B p s m args meth c code RL 8 g) (hX : va_X bS 6 xs s s.heap) (hbl : bS < s.heap.size) (hbA : ¬ gx_b g ≤ bS) (hF : fz_P b t σ) (h_x1 : xs 1 = 1) {x2 : Int32} (h_x2 : xs 2 = x2) (q1_x2 : (-2147483648 : Int) ≤ x2.toInt) (q2_x2 : x2.toInt ≤ (-1 : Int)) {x3 : Int32} (h_x3 : xs 3 = x3) (q1_x3 : (0 : Int) ≤ x3.toInt) (q2_x3 : x3.toInt ≤ (17 : Int)) {x4 : Int32} (h_x4 : xs 4 = x4) (q1_x4 : (0 : Int) ≤ x4.toInt) (q2_x4 : x4.toInt ≤ (99 : Int)) {x5 : Int32} (h_x5 : xs 5 = x5) (q1_x5 : (-2147483648 : Int) ≤ x5.toInt) (q2_x5 : x5.toInt ≤ (-1 : Int)) (kk : ∀ σ', zx p l e room_1 s m args below meth c g 8 600002 7302232 Q σ' 1395 [(4, .int 0), (0, .ref bS)] []) : zx p l e room_1 s m args below meth c g 8 500 100000 Q σ 148 [(4, .int 0), (3, .ref (b + 431)), (2, .ref (b + 405)), (1, .ref (b + 0)), (0, .ref bS)] [] := by
  have hK := fz_lay hF
  refine z_eqs (σ' := (ap b σ [] [] [])) rfl ?_
  refine z_aload_n B dL_law_148 rfl 3 rfl ?_
  refine z_aload_n B dL_law_149 rfl 4 rfl ?_
  refine z_iload B dL_law_150 0 rfl ?_
  refine z_iconst (v := 1) B dL_law_152 (by decide) ?_
  refine z_iadd B dL_law_153 ?_
  refine z_seti (y := 1) (by decide) ?_
  refine z_sld (j := 1) (x := 1) B hX hbl hbA (by decide) (show ¬ ((1 : Int32) < 0 ∨ 6 ≤ (1 : Int32).toNatClampNeg) by decide) h_x1 dL_law_154 ?_
  refine z_aload_n B dL_law_155 rfl 4 rfl ?_
  refine z_iload B dL_law_156 0 rfl ?_
  refine z_iconst (v := 2) B dL_law_158 (by decide) ?_
  refine z_iadd B dL_law_159 ?_
  refine z_seti (y := 2) (by decide) ?_
  refine z_sld (j := 2) (x := x2) B hX hbl hbA (by decide) (show ¬ ((2 : Int32) < 0 ∨ 6 ≤ (2 : Int32).toNatClampNeg) by decide) h_x2 dL_law_160 ?_
  refine z_aload_n B dL_law_161 rfl 4 rfl ?_
  refine z_iload B dL_law_162 0 rfl ?_
  refine z_iconst (v := 3) B dL_law_164 (by decide) ?_
  refine z_iadd B dL_law_165 ?_
  refine z_seti (y := 3) (by decide) ?_
  refine z_sld (j := 3) (x := x3) B hX hbl hbA (by decide) (show ¬ ((3 : Int32) < 0 ∨ 6 ≤ (3 : Int32).toNatClampNeg) by decide) h_x3 dL_law_166 ?_
  refine z_aload_n B dL_law_167 rfl 4 rfl ?_
  refine z_iload B dL_law_168 0 rfl ?_
  refine z_iconst (v := 4) B dL_law_170 (by decide) ?_
  refine z_iadd B dL_law_171 ?_
  refine z_seti (y := 4) (by decide) ?_
  refine z_sld (j := 4) (x := x4) B hX hbl hbA (by decide) (show ¬ ((4 : Int32) < 0 ∨ 6 ≤ (4 : Int32).toNatClampNeg) by decide) h_x4 dL_law_172 ?_
  refine z_aload_n B dL_law_173 rfl 4 rfl ?_
  refine z_iload B dL_law_174 0 rfl ?_
  refine z_iconst (v := 5) B dL_law_176 (by decide) ?_
  refine z_iadd B dL_law_177 ?_
  refine z_seti (y := 5) (by decide) ?_
  refine z_sld (j := 5) (x := x5) B hX hbl hbA (by decide) (show ¬ ((5 : Int32) < 0 ∨ 6 ≤ (5 : Int32).toNatClampNeg) by decide) h_x5 dL_law_178 ?_
  refine z_aload_n B dL_law_179 rfl 1 rfl ?_
  refine z_cSWi (As := [.ref (b + 0), .int 1, .int x2, .int x3, .int x4, .int x5, .ref (b + 431)]) (rest := []) B cw_L_74 dL_law_180 (ci_L_set_124 l hlt (σ := (ap b σ [] [] [])) (b := b) (lyA hK) x2 x3 x4 x5 q1_x2 q2_x2 (rR_at 0 0 (fz_R hF 0 0 rfl rfl)) (rR_at 1 1 (fz_R hF 1 1 rfl rfl))) rfl (by decide) rfl (Nat.le_of_ble_eq_true rfl) (by decide) (fun r u hu => ?_)
  obtain ⟨hu1, z, hu⟩ := hu
  refine z_eqs (σ' := (ap b (wx_Z σ z) [] [] [])) (hu.trans az_ap) ?_
  show zx p l e _ s m _ below meth c g 8 _ _ _ _ 183 [(4, .int 0), (3, .ref (b + 431)), (2, .ref (b + 405)), (1, .ref (b + 0)), (0, .ref bS)] _
  refine z_seti (y := 1) hu1 ?_
  refine z_istore (lv' := [(5, .int 1), (4, .int 0), (3, .ref (b + 431)), (2, .ref (b + 405)), (1, .ref (b + 0)), (0, .ref bS)]) B dL_law_183 (by decide) rfl ?_
  refine z_aload_n B dL_law_185 rfl 3 rfl ?_
  refine z_aload_n B dL_law_186 rfl 5 rfl ?_
  refine z_iload B dL_law_187 1 rfl ?_
  refine z_iconst (v := 1) B dL_law_189 (by decide) ?_
  refine z_iadd B dL_law_190 ?_
  refine z_seti (y := 1) (by decide) ?_
  refine z_sld (j := 1) (x := 1) B hX hbl hbA (by decide) (show ¬ ((1 : Int32) < 0 ∨ 6 ≤ (1 : Int32).toNatClampNeg) by decide) h_x1 dL_law_191 ?_
  refine z_aload_n B dL_law_192 rfl 5 rfl ?_
  refine z_iload B dL_law_193 1 rfl ?_
  refine z_iconst (v := 2) B dL_law_195 (by decide) ?_
  refine z_iadd B dL_law_196 ?_
  refine z_seti (y := 2) (by decide) ?_
  refine z_sld (j := 2) (x := x2) B hX hbl hbA (by decide) (show ¬ ((2 : Int32) < 0 ∨ 6 ≤ (2 : Int32).toNatClampNeg) by decide) h_x2 dL_law_197 ?_
  refine z_aload_n B dL_law_198 rfl 5 rfl ?_
  refine z_iload B dL_law_199 1 rfl ?_
  refine z_iconst (v := 3) B dL_law_201 (by decide) ?_
  refine z_iadd B dL_law_202 ?_
  refine z_seti (y := 3) (by decide) ?_
  refine z_sld (j := 3) (x := x3) B hX hbl hbA (by decide) (show ¬ ((3 : Int32) < 0 ∨ 6 ≤ (3 : Int32).toNatClampNeg) by decide) h_x3 dL_law_203 ?_
  refine z_aload_n B dL_law_204 rfl 5 rfl ?_
  refine z_iload B dL_law_205 1 rfl ?_
  refine z_iconst (v := 4) B dL_law_207 (by decide) ?_
  refine z_iadd B dL_law_208 ?_
  refine z_seti (y := 4) (by decide) ?_
  refine z_sld (j := 4) (x := x4) B hX hbl hbA (by decide) (show ¬ ((4 : Int32) < 0 ∨ 6 ≤ (4 : Int32).toNatClampNeg) by decide) h_x4 dL_law_209 ?_
  refine z_aload_n B dL_law_210 rfl 5 rfl ?_
  refine z_iload B dL_law_211 1 rfl ?_
  refine z_iconst (v := 5) B dL_law_213 (by decide) ?_
  refine z_iadd B dL_law_214 ?_
  refine z_seti (y := 5) (by decide) ?_
  refine z_sld (j := 5) (x := x5) B hX hbl hbA (by decide) (show ¬ ((5 : Int32) < 0 ∨ 6 ≤ (5 : Int32).toNatClampNeg) by decide) h_x5 dL_law_215 ?_
  refine z_cVi (As := [.int 1, .int x2, .int x3, .int x4, .int x5]) (rest := []) B cw_L_79 cx_10 dL_law_216 (ci_X9_set_129 l (σ := (ap b (wx_Z σ z) [] [] [])) (b := b) (lyA (lyZ hK)) x2 x3 x4 x5 q1_x2 q2_x2 q1_x3 q2_x3 q1_x4 q2_x4 q1_x5 q2_x5) (lKA (lKZ (hk_K hK 405 rfl rfl))) rfl (by decide) rfl (Nat.le_of_ble_eq_true rfl) (by decide) (fun r u hu => ?_)
  refine z_eqs (σ' := (ap b (wx_Z σ z) [(405, 0, 1)] [] [])) (hu.2.trans ap_ap) ?_
  show zx p l e _ s m _ below meth c g 8 _ _ _ _ 219 [(5, .int 1), (4, .int 0), (3, .ref (b + 431)), (2, .ref (b + 405)), (1, .ref (b + 0)), (0, .ref bS)] _
  refine z_seti (y := 0) hu.1 ?_
  refine z_istore (lv' := [(6, .int 0), (5, .int 1), (4, .int 0), (3, .ref (b + 431)), (2, .ref (b + 405)), (1, .ref (b + 0)), (0, .ref bS)]) B dL_law_219 (by decide) rfl ?_
  refine z_aload_n B dL_law_221 rfl 4 rfl ?_
  refine z_cVi (As := []) (rest := []) B cw_L_80 cx_10 dL_law_222 (ci_X9_thrown_31 l (σ := (ap b (wx_Z σ z) [(405, 0, 1)] [] [])) (b := b) (lyA (lyZ hK)) (rI_at 405 0 rfl)) (lKA (lKZ (hk_K hK 405 rfl rfl))) rfl (by decide) rfl (Nat.le_of_ble_eq_true rfl) (by decide) (fun r u hu => ?_)
  refine z_eqs (σ' := (ap b (wx_Z σ z) [(405, 0, 1)] [] [])) hu.2 ?_
  show zx p l e _ s m _ below meth c g 8 _ _ _ _ 225 [(6, .int 0), (5, .int 1), (4, .int 0), (3, .ref (b + 431)), (2, .ref (b + 405)), (1, .ref (b + 0)), (0, .ref bS)] _
  refine z_seti (y := 1) hu.1 ?_
  refine z_iload B dL_law_225 1 rfl ?_
  refine z_icmp_eq (tgt := 232) B dL_law_227 (by decide) (fun _ => ?_) (fun h => absurd (by decide) h)
  refine z_iload B dL_law_232 1 rfl ?_
  refine z_if_ne (tgt := 249) B dL_law_234 (by decide) (fun _ => ?_) (fun h => absurd h (by decide))
  refine z_goto (tgt := 1395) B dL_law_249 (by decide) ?_
  exact z_widen (Nat.le_of_ble_eq_true rfl) (Nat.le_of_ble_eq_true rfl) (z_sub _ [2, 6] rfl (kk _))
set_option maxRecDepth 100000 in
set_option maxHeartbeats 4000000 in
theorem lf_0_31 {p : Program} {l : Launch} {e : Env} {s : State} {m : MethodId} {args : Array Value} {below : List Frame} {meth : Method} {c : Code} {g : gx_T} {Q : State → Prop} {σ : sx_T} {b t bS : Nat} {xs : Nat → Int32} (hlt : l.stackTraces = false) (B : zx_B p s m args meth c code RL 8 g) (hX : va_X bS 6 xs s s.heap) (hbl : bS < s.heap.size) (hbA : ¬ gx_b g ≤ bS) (hF : fz_P b t σ) (h_x1 : xs 1 = 1) {x2 : Int32} (h_x2 : xs 2 = x2) (q1_x2 : (-2147483648 : Int) ≤ x2.toInt) (q2_x2 : x2.toInt ≤ (-1 : Int)) {x3 : Int32} (h_x3 : xs 3 = x3) (q1_x3 : (0 : Int) ≤ x3.toInt) (q2_x3 : x3.toInt ≤ (17 : Int)) {x4 : Int32} (h_x4 : xs 4 = x4) (q1_x4 : (0 : Int) ≤ x4.toInt) (q2_x4 : x4.toInt ≤ (99 : Int)) {x5 : Int32} (h_x5 : xs 5 = x5) (q1_x5 : (0 : Int) ≤ x5.toInt) (q2_x5 : x5.toInt ≤ (99 : Int)) (kk : ∀ σ', zx p l e room_1 s m args below meth c g 8 600002 7302232 Q σ' 1395 [(4, .int 0), (0, .ref bS)] []) : zx p l e room_1 s m args below meth c g 8 500 100000 Q σ 148 [(4, .int 0), (3, .ref (b + 431)), (2, .ref (b + 405)), (1, .ref (b + 0)), (0, .ref bS)] [] := by
  have hK := fz_lay hF
  refine z_eqs (σ' := (ap b σ [] [] [])) rfl ?_
  refine z_aload_n B dL_law_148 rfl 3 rfl ?_
  refine z_aload_n B dL_law_149 rfl 4 rfl ?_
  refine z_iload B dL_law_150 0 rfl ?_
  refine z_iconst (v := 1) B dL_law_152 (by decide) ?_
  refine z_iadd B dL_law_153 ?_
  refine z_seti (y := 1) (by decide) ?_
  refine z_sld (j := 1) (x := 1) B hX hbl hbA (by decide) (show ¬ ((1 : Int32) < 0 ∨ 6 ≤ (1 : Int32).toNatClampNeg) by decide) h_x1 dL_law_154 ?_
  refine z_aload_n B dL_law_155 rfl 4 rfl ?_
  refine z_iload B dL_law_156 0 rfl ?_
  refine z_iconst (v := 2) B dL_law_158 (by decide) ?_
  refine z_iadd B dL_law_159 ?_
  refine z_seti (y := 2) (by decide) ?_
  refine z_sld (j := 2) (x := x2) B hX hbl hbA (by decide) (show ¬ ((2 : Int32) < 0 ∨ 6 ≤ (2 : Int32).toNatClampNeg) by decide) h_x2 dL_law_160 ?_
  refine z_aload_n B dL_law_161 rfl 4 rfl ?_
  refine z_iload B dL_law_162 0 rfl ?_
  refine z_iconst (v := 3) B dL_law_164 (by decide) ?_
  refine z_iadd B dL_law_165 ?_
  refine z_seti (y := 3) (by decide) ?_
  refine z_sld (j := 3) (x := x3) B hX hbl hbA (by decide) (show ¬ ((3 : Int32) < 0 ∨ 6 ≤ (3 : Int32).toNatClampNeg) by decide) h_x3 dL_law_166 ?_
  refine z_aload_n B dL_law_167 rfl 4 rfl ?_
  refine z_iload B dL_law_168 0 rfl ?_
  refine z_iconst (v := 4) B dL_law_170 (by decide) ?_
  refine z_iadd B dL_law_171 ?_
  refine z_seti (y := 4) (by decide) ?_
  refine z_sld (j := 4) (x := x4) B hX hbl hbA (by decide) (show ¬ ((4 : Int32) < 0 ∨ 6 ≤ (4 : Int32).toNatClampNeg) by decide) h_x4 dL_law_172 ?_
  refine z_aload_n B dL_law_173 rfl 4 rfl ?_
  refine z_iload B dL_law_174 0 rfl ?_
  refine z_iconst (v := 5) B dL_law_176 (by decide) ?_
  refine z_iadd B dL_law_177 ?_
  refine z_seti (y := 5) (by decide) ?_
  refine z_sld (j := 5) (x := x5) B hX hbl hbA (by decide) (show ¬ ((5 : Int32) < 0 ∨ 6 ≤ (5 : Int32).toNatClampNeg) by decide) h_x5 dL_law_178 ?_
  refine z_aload_n B dL_law_179 rfl 1 rfl ?_
  refine z_cSWi (As := [.ref (b + 0), .int 1, .int x2, .int x3, .int x4, .int x5, .ref (b + 431)]) (rest := []) B cw_L_74 dL_law_180 (ci_L_set_124 l hlt (σ := (ap b σ [] [] [])) (b := b) (lyA hK) x2 x3 x4 x5 q1_x2 q2_x2 (rR_at 0 0 (fz_R hF 0 0 rfl rfl)) (rR_at 1 1 (fz_R hF 1 1 rfl rfl))) rfl (by decide) rfl (Nat.le_of_ble_eq_true rfl) (by decide) (fun r u hu => ?_)
  obtain ⟨hu1, z, hu⟩ := hu
  refine z_eqs (σ' := (ap b (wx_Z σ z) [] [] [])) (hu.trans az_ap) ?_
  show zx p l e _ s m _ below meth c g 8 _ _ _ _ 183 [(4, .int 0), (3, .ref (b + 431)), (2, .ref (b + 405)), (1, .ref (b + 0)), (0, .ref bS)] _
  refine z_seti (y := 1) hu1 ?_
  refine z_istore (lv' := [(5, .int 1), (4, .int 0), (3, .ref (b + 431)), (2, .ref (b + 405)), (1, .ref (b + 0)), (0, .ref bS)]) B dL_law_183 (by decide) rfl ?_
  refine z_aload_n B dL_law_185 rfl 3 rfl ?_
  refine z_aload_n B dL_law_186 rfl 5 rfl ?_
  refine z_iload B dL_law_187 1 rfl ?_
  refine z_iconst (v := 1) B dL_law_189 (by decide) ?_
  refine z_iadd B dL_law_190 ?_
  refine z_seti (y := 1) (by decide) ?_
  refine z_sld (j := 1) (x := 1) B hX hbl hbA (by decide) (show ¬ ((1 : Int32) < 0 ∨ 6 ≤ (1 : Int32).toNatClampNeg) by decide) h_x1 dL_law_191 ?_
  refine z_aload_n B dL_law_192 rfl 5 rfl ?_
  refine z_iload B dL_law_193 1 rfl ?_
  refine z_iconst (v := 2) B dL_law_195 (by decide) ?_
  refine z_iadd B dL_law_196 ?_
  refine z_seti (y := 2) (by decide) ?_
  refine z_sld (j := 2) (x := x2) B hX hbl hbA (by decide) (show ¬ ((2 : Int32) < 0 ∨ 6 ≤ (2 : Int32).toNatClampNeg) by decide) h_x2 dL_law_197 ?_
  refine z_aload_n B dL_law_198 rfl 5 rfl ?_
  refine z_iload B dL_law_199 1 rfl ?_
  refine z_iconst (v := 3) B dL_law_201 (by decide) ?_
  refine z_iadd B dL_law_202 ?_
  refine z_seti (y := 3) (by decide) ?_
  refine z_sld (j := 3) (x := x3) B hX hbl hbA (by decide) (show ¬ ((3 : Int32) < 0 ∨ 6 ≤ (3 : Int32).toNatClampNeg) by decide) h_x3 dL_law_203 ?_
  refine z_aload_n B dL_law_204 rfl 5 rfl ?_
  refine z_iload B dL_law_205 1 rfl ?_
  refine z_iconst (v := 4) B dL_law_207 (by decide) ?_
  refine z_iadd B dL_law_208 ?_
  refine z_seti (y := 4) (by decide) ?_
  refine z_sld (j := 4) (x := x4) B hX hbl hbA (by decide) (show ¬ ((4 : Int32) < 0 ∨ 6 ≤ (4 : Int32).toNatClampNeg) by decide) h_x4 dL_law_209 ?_
  refine z_aload_n B dL_law_210 rfl 5 rfl ?_
  refine z_iload B dL_law_211 1 rfl ?_
  refine z_iconst (v := 5) B dL_law_213 (by decide) ?_
  refine z_iadd B dL_law_214 ?_
  refine z_seti (y := 5) (by decide) ?_
  refine z_sld (j := 5) (x := x5) B hX hbl hbA (by decide) (show ¬ ((5 : Int32) < 0 ∨ 6 ≤ (5 : Int32).toNatClampNeg) by decide) h_x5 dL_law_215 ?_
  refine z_cVi (As := [.int 1, .int x2, .int x3, .int x4, .int x5]) (rest := []) B cw_L_79 cx_10 dL_law_216 (ci_X9_set_130 l (σ := (ap b (wx_Z σ z) [] [] [])) (b := b) (lyA (lyZ hK)) x2 x3 x4 x5 q1_x2 q2_x2 q1_x3 q2_x3 q1_x4 q2_x4 q1_x5 q2_x5) (lKA (lKZ (hk_K hK 405 rfl rfl))) rfl (by decide) rfl (Nat.le_of_ble_eq_true rfl) (by decide) (fun r u hu => ?_)
  refine z_eqs (σ' := (ap b (wx_Z σ z) [(405, 0, 1)] [] [])) (hu.2.trans ap_ap) ?_
  show zx p l e _ s m _ below meth c g 8 _ _ _ _ 219 [(5, .int 1), (4, .int 0), (3, .ref (b + 431)), (2, .ref (b + 405)), (1, .ref (b + 0)), (0, .ref bS)] _
  refine z_seti (y := 0) hu.1 ?_
  refine z_istore (lv' := [(6, .int 0), (5, .int 1), (4, .int 0), (3, .ref (b + 431)), (2, .ref (b + 405)), (1, .ref (b + 0)), (0, .ref bS)]) B dL_law_219 (by decide) rfl ?_
  refine z_aload_n B dL_law_221 rfl 4 rfl ?_
  refine z_cVi (As := []) (rest := []) B cw_L_80 cx_10 dL_law_222 (ci_X9_thrown_31 l (σ := (ap b (wx_Z σ z) [(405, 0, 1)] [] [])) (b := b) (lyA (lyZ hK)) (rI_at 405 0 rfl)) (lKA (lKZ (hk_K hK 405 rfl rfl))) rfl (by decide) rfl (Nat.le_of_ble_eq_true rfl) (by decide) (fun r u hu => ?_)
  refine z_eqs (σ' := (ap b (wx_Z σ z) [(405, 0, 1)] [] [])) hu.2 ?_
  show zx p l e _ s m _ below meth c g 8 _ _ _ _ 225 [(6, .int 0), (5, .int 1), (4, .int 0), (3, .ref (b + 431)), (2, .ref (b + 405)), (1, .ref (b + 0)), (0, .ref bS)] _
  refine z_seti (y := 1) hu.1 ?_
  refine z_iload B dL_law_225 1 rfl ?_
  refine z_icmp_eq (tgt := 232) B dL_law_227 (by decide) (fun _ => ?_) (fun h => absurd (by decide) h)
  refine z_iload B dL_law_232 1 rfl ?_
  refine z_if_ne (tgt := 249) B dL_law_234 (by decide) (fun _ => ?_) (fun h => absurd h (by decide))
  refine z_goto (tgt := 1395) B dL_law_249 (by decide) ?_
  exact z_widen (Nat.le_of_ble_eq_true rfl) (Nat.le_of_ble_eq_true rfl) (z_sub _ [2, 6] rfl (kk _))
set_option maxRecDepth 100000 in
set_option maxHeartbeats 4000000 in
theorem lf_0_32 {p : Program} {l : Launch} {e : Env} {s : State} {m : MethodId} {args : Array Value} {below : List Frame} {meth : Method} {c : Code} {g : gx_T} {Q : State → Prop} {σ : sx_T} {b t bS : Nat} {xs : Nat → Int32} (hlt : l.stackTraces = false) (B : zx_B p s m args meth c code RL 8 g) (hX : va_X bS 6 xs s s.heap) (hbl : bS < s.heap.size) (hbA : ¬ gx_b g ≤ bS) (hF : fz_P b t σ) (h_x1 : xs 1 = 1) {x2 : Int32} (h_x2 : xs 2 = x2) (q1_x2 : (-2147483648 : Int) ≤ x2.toInt) (q2_x2 : x2.toInt ≤ (-1 : Int)) {x3 : Int32} (h_x3 : xs 3 = x3) (q1_x3 : (0 : Int) ≤ x3.toInt) (q2_x3 : x3.toInt ≤ (17 : Int)) {x4 : Int32} (h_x4 : xs 4 = x4) (q1_x4 : (0 : Int) ≤ x4.toInt) (q2_x4 : x4.toInt ≤ (99 : Int)) {x5 : Int32} (h_x5 : xs 5 = x5) (q1_x5 : (100 : Int) ≤ x5.toInt) (q2_x5 : x5.toInt ≤ (2147483647 : Int)) (kk : ∀ σ', zx p l e room_1 s m args below meth c g 8 600002 7302232 Q σ' 1395 [(4, .int 0), (0, .ref bS)] []) : zx p l e room_1 s m args below meth c g 8 500 100000 Q σ 148 [(4, .int 0), (3, .ref (b + 431)), (2, .ref (b + 405)), (1, .ref (b + 0)), (0, .ref bS)] [] := by
  have hK := fz_lay hF
  refine z_eqs (σ' := (ap b σ [] [] [])) rfl ?_
  refine z_aload_n B dL_law_148 rfl 3 rfl ?_
  refine z_aload_n B dL_law_149 rfl 4 rfl ?_
  refine z_iload B dL_law_150 0 rfl ?_
  refine z_iconst (v := 1) B dL_law_152 (by decide) ?_
  refine z_iadd B dL_law_153 ?_
  refine z_seti (y := 1) (by decide) ?_
  refine z_sld (j := 1) (x := 1) B hX hbl hbA (by decide) (show ¬ ((1 : Int32) < 0 ∨ 6 ≤ (1 : Int32).toNatClampNeg) by decide) h_x1 dL_law_154 ?_
  refine z_aload_n B dL_law_155 rfl 4 rfl ?_
  refine z_iload B dL_law_156 0 rfl ?_
  refine z_iconst (v := 2) B dL_law_158 (by decide) ?_
  refine z_iadd B dL_law_159 ?_
  refine z_seti (y := 2) (by decide) ?_
  refine z_sld (j := 2) (x := x2) B hX hbl hbA (by decide) (show ¬ ((2 : Int32) < 0 ∨ 6 ≤ (2 : Int32).toNatClampNeg) by decide) h_x2 dL_law_160 ?_
  refine z_aload_n B dL_law_161 rfl 4 rfl ?_
  refine z_iload B dL_law_162 0 rfl ?_
  refine z_iconst (v := 3) B dL_law_164 (by decide) ?_
  refine z_iadd B dL_law_165 ?_
  refine z_seti (y := 3) (by decide) ?_
  refine z_sld (j := 3) (x := x3) B hX hbl hbA (by decide) (show ¬ ((3 : Int32) < 0 ∨ 6 ≤ (3 : Int32).toNatClampNeg) by decide) h_x3 dL_law_166 ?_
  refine z_aload_n B dL_law_167 rfl 4 rfl ?_
  refine z_iload B dL_law_168 0 rfl ?_
  refine z_iconst (v := 4) B dL_law_170 (by decide) ?_
  refine z_iadd B dL_law_171 ?_
  refine z_seti (y := 4) (by decide) ?_
  refine z_sld (j := 4) (x := x4) B hX hbl hbA (by decide) (show ¬ ((4 : Int32) < 0 ∨ 6 ≤ (4 : Int32).toNatClampNeg) by decide) h_x4 dL_law_172 ?_
  refine z_aload_n B dL_law_173 rfl 4 rfl ?_
  refine z_iload B dL_law_174 0 rfl ?_
  refine z_iconst (v := 5) B dL_law_176 (by decide) ?_
  refine z_iadd B dL_law_177 ?_
  refine z_seti (y := 5) (by decide) ?_
  refine z_sld (j := 5) (x := x5) B hX hbl hbA (by decide) (show ¬ ((5 : Int32) < 0 ∨ 6 ≤ (5 : Int32).toNatClampNeg) by decide) h_x5 dL_law_178 ?_
  refine z_aload_n B dL_law_179 rfl 1 rfl ?_
  refine z_cSWi (As := [.ref (b + 0), .int 1, .int x2, .int x3, .int x4, .int x5, .ref (b + 431)]) (rest := []) B cw_L_74 dL_law_180 (ci_L_set_124 l hlt (σ := (ap b σ [] [] [])) (b := b) (lyA hK) x2 x3 x4 x5 q1_x2 q2_x2 (rR_at 0 0 (fz_R hF 0 0 rfl rfl)) (rR_at 1 1 (fz_R hF 1 1 rfl rfl))) rfl (by decide) rfl (Nat.le_of_ble_eq_true rfl) (by decide) (fun r u hu => ?_)
  obtain ⟨hu1, z, hu⟩ := hu
  refine z_eqs (σ' := (ap b (wx_Z σ z) [] [] [])) (hu.trans az_ap) ?_
  show zx p l e _ s m _ below meth c g 8 _ _ _ _ 183 [(4, .int 0), (3, .ref (b + 431)), (2, .ref (b + 405)), (1, .ref (b + 0)), (0, .ref bS)] _
  refine z_seti (y := 1) hu1 ?_
  refine z_istore (lv' := [(5, .int 1), (4, .int 0), (3, .ref (b + 431)), (2, .ref (b + 405)), (1, .ref (b + 0)), (0, .ref bS)]) B dL_law_183 (by decide) rfl ?_
  refine z_aload_n B dL_law_185 rfl 3 rfl ?_
  refine z_aload_n B dL_law_186 rfl 5 rfl ?_
  refine z_iload B dL_law_187 1 rfl ?_
  refine z_iconst (v := 1) B dL_law_189 (by decide) ?_
  refine z_iadd B dL_law_190 ?_
  refine z_seti (y := 1) (by decide) ?_
  refine z_sld (j := 1) (x := 1) B hX hbl hbA (by decide) (show ¬ ((1 : Int32) < 0 ∨ 6 ≤ (1 : Int32).toNatClampNeg) by decide) h_x1 dL_law_191 ?_
  refine z_aload_n B dL_law_192 rfl 5 rfl ?_
  refine z_iload B dL_law_193 1 rfl ?_
  refine z_iconst (v := 2) B dL_law_195 (by decide) ?_
  refine z_iadd B dL_law_196 ?_
  refine z_seti (y := 2) (by decide) ?_
  refine z_sld (j := 2) (x := x2) B hX hbl hbA (by decide) (show ¬ ((2 : Int32) < 0 ∨ 6 ≤ (2 : Int32).toNatClampNeg) by decide) h_x2 dL_law_197 ?_
  refine z_aload_n B dL_law_198 rfl 5 rfl ?_
  refine z_iload B dL_law_199 1 rfl ?_
  refine z_iconst (v := 3) B dL_law_201 (by decide) ?_
  refine z_iadd B dL_law_202 ?_
  refine z_seti (y := 3) (by decide) ?_
  refine z_sld (j := 3) (x := x3) B hX hbl hbA (by decide) (show ¬ ((3 : Int32) < 0 ∨ 6 ≤ (3 : Int32).toNatClampNeg) by decide) h_x3 dL_law_203 ?_
  refine z_aload_n B dL_law_204 rfl 5 rfl ?_
  refine z_iload B dL_law_205 1 rfl ?_
  refine z_iconst (v := 4) B dL_law_207 (by decide) ?_
  refine z_iadd B dL_law_208 ?_
  refine z_seti (y := 4) (by decide) ?_
  refine z_sld (j := 4) (x := x4) B hX hbl hbA (by decide) (show ¬ ((4 : Int32) < 0 ∨ 6 ≤ (4 : Int32).toNatClampNeg) by decide) h_x4 dL_law_209 ?_
  refine z_aload_n B dL_law_210 rfl 5 rfl ?_
  refine z_iload B dL_law_211 1 rfl ?_
  refine z_iconst (v := 5) B dL_law_213 (by decide) ?_
  refine z_iadd B dL_law_214 ?_
  refine z_seti (y := 5) (by decide) ?_
  refine z_sld (j := 5) (x := x5) B hX hbl hbA (by decide) (show ¬ ((5 : Int32) < 0 ∨ 6 ≤ (5 : Int32).toNatClampNeg) by decide) h_x5 dL_law_215 ?_
  refine z_cVi (As := [.int 1, .int x2, .int x3, .int x4, .int x5]) (rest := []) B cw_L_79 cx_10 dL_law_216 (ci_X9_set_131 l (σ := (ap b (wx_Z σ z) [] [] [])) (b := b) (lyA (lyZ hK)) x2 x3 x4 x5 q1_x2 q2_x2 q1_x3 q2_x3 q1_x4 q2_x4 q1_x5 q2_x5) (lKA (lKZ (hk_K hK 405 rfl rfl))) rfl (by decide) rfl (Nat.le_of_ble_eq_true rfl) (by decide) (fun r u hu => ?_)
  refine z_eqs (σ' := (ap b (wx_Z σ z) [(405, 0, 1)] [] [])) (hu.2.trans ap_ap) ?_
  show zx p l e _ s m _ below meth c g 8 _ _ _ _ 219 [(5, .int 1), (4, .int 0), (3, .ref (b + 431)), (2, .ref (b + 405)), (1, .ref (b + 0)), (0, .ref bS)] _
  refine z_seti (y := 0) hu.1 ?_
  refine z_istore (lv' := [(6, .int 0), (5, .int 1), (4, .int 0), (3, .ref (b + 431)), (2, .ref (b + 405)), (1, .ref (b + 0)), (0, .ref bS)]) B dL_law_219 (by decide) rfl ?_
  refine z_aload_n B dL_law_221 rfl 4 rfl ?_
  refine z_cVi (As := []) (rest := []) B cw_L_80 cx_10 dL_law_222 (ci_X9_thrown_31 l (σ := (ap b (wx_Z σ z) [(405, 0, 1)] [] [])) (b := b) (lyA (lyZ hK)) (rI_at 405 0 rfl)) (lKA (lKZ (hk_K hK 405 rfl rfl))) rfl (by decide) rfl (Nat.le_of_ble_eq_true rfl) (by decide) (fun r u hu => ?_)
  refine z_eqs (σ' := (ap b (wx_Z σ z) [(405, 0, 1)] [] [])) hu.2 ?_
  show zx p l e _ s m _ below meth c g 8 _ _ _ _ 225 [(6, .int 0), (5, .int 1), (4, .int 0), (3, .ref (b + 431)), (2, .ref (b + 405)), (1, .ref (b + 0)), (0, .ref bS)] _
  refine z_seti (y := 1) hu.1 ?_
  refine z_iload B dL_law_225 1 rfl ?_
  refine z_icmp_eq (tgt := 232) B dL_law_227 (by decide) (fun _ => ?_) (fun h => absurd (by decide) h)
  refine z_iload B dL_law_232 1 rfl ?_
  refine z_if_ne (tgt := 249) B dL_law_234 (by decide) (fun _ => ?_) (fun h => absurd h (by decide))
  refine z_goto (tgt := 1395) B dL_law_249 (by decide) ?_
  exact z_widen (Nat.le_of_ble_eq_true rfl) (Nat.le_of_ble_eq_true rfl) (z_sub _ [2, 6] rfl (kk _))
set_option maxRecDepth 100000 in
set_option maxHeartbeats 4000000 in
theorem lf_0_33 {p : Program} {l : Launch} {e : Env} {s : State} {m : MethodId} {args : Array Value} {below : List Frame} {meth : Method} {c : Code} {g : gx_T} {Q : State → Prop} {σ : sx_T} {b t bS : Nat} {xs : Nat → Int32} (hlt : l.stackTraces = false) (B : zx_B p s m args meth c code RL 8 g) (hX : va_X bS 6 xs s s.heap) (hbl : bS < s.heap.size) (hbA : ¬ gx_b g ≤ bS) (hF : fz_P b t σ) (h_x1 : xs 1 = 1) {x2 : Int32} (h_x2 : xs 2 = x2) (q1_x2 : (-2147483648 : Int) ≤ x2.toInt) (q2_x2 : x2.toInt ≤ (-1 : Int)) {x3 : Int32} (h_x3 : xs 3 = x3) (q1_x3 : (0 : Int) ≤ x3.toInt) (q2_x3 : x3.toInt ≤ (17 : Int)) {x4 : Int32} (h_x4 : xs 4 = x4) (q1_x4 : (100 : Int) ≤ x4.toInt) (q2_x4 : x4.toInt ≤ (2147483647 : Int)) {x5 : Int32} (h_x5 : xs 5 = x5) (q1_x5 : (-2147483648 : Int) ≤ x5.toInt) (q2_x5 : x5.toInt ≤ (2147483647 : Int)) (kk : ∀ σ', zx p l e room_1 s m args below meth c g 8 600002 7302232 Q σ' 1395 [(4, .int 0), (0, .ref bS)] []) : zx p l e room_1 s m args below meth c g 8 500 100000 Q σ 148 [(4, .int 0), (3, .ref (b + 431)), (2, .ref (b + 405)), (1, .ref (b + 0)), (0, .ref bS)] [] := by
  have hK := fz_lay hF
  refine z_eqs (σ' := (ap b σ [] [] [])) rfl ?_
  refine z_aload_n B dL_law_148 rfl 3 rfl ?_
  refine z_aload_n B dL_law_149 rfl 4 rfl ?_
  refine z_iload B dL_law_150 0 rfl ?_
  refine z_iconst (v := 1) B dL_law_152 (by decide) ?_
  refine z_iadd B dL_law_153 ?_
  refine z_seti (y := 1) (by decide) ?_
  refine z_sld (j := 1) (x := 1) B hX hbl hbA (by decide) (show ¬ ((1 : Int32) < 0 ∨ 6 ≤ (1 : Int32).toNatClampNeg) by decide) h_x1 dL_law_154 ?_
  refine z_aload_n B dL_law_155 rfl 4 rfl ?_
  refine z_iload B dL_law_156 0 rfl ?_
  refine z_iconst (v := 2) B dL_law_158 (by decide) ?_
  refine z_iadd B dL_law_159 ?_
  refine z_seti (y := 2) (by decide) ?_
  refine z_sld (j := 2) (x := x2) B hX hbl hbA (by decide) (show ¬ ((2 : Int32) < 0 ∨ 6 ≤ (2 : Int32).toNatClampNeg) by decide) h_x2 dL_law_160 ?_
  refine z_aload_n B dL_law_161 rfl 4 rfl ?_
  refine z_iload B dL_law_162 0 rfl ?_
  refine z_iconst (v := 3) B dL_law_164 (by decide) ?_
  refine z_iadd B dL_law_165 ?_
  refine z_seti (y := 3) (by decide) ?_
  refine z_sld (j := 3) (x := x3) B hX hbl hbA (by decide) (show ¬ ((3 : Int32) < 0 ∨ 6 ≤ (3 : Int32).toNatClampNeg) by decide) h_x3 dL_law_166 ?_
  refine z_aload_n B dL_law_167 rfl 4 rfl ?_
  refine z_iload B dL_law_168 0 rfl ?_
  refine z_iconst (v := 4) B dL_law_170 (by decide) ?_
  refine z_iadd B dL_law_171 ?_
  refine z_seti (y := 4) (by decide) ?_
  refine z_sld (j := 4) (x := x4) B hX hbl hbA (by decide) (show ¬ ((4 : Int32) < 0 ∨ 6 ≤ (4 : Int32).toNatClampNeg) by decide) h_x4 dL_law_172 ?_
  refine z_aload_n B dL_law_173 rfl 4 rfl ?_
  refine z_iload B dL_law_174 0 rfl ?_
  refine z_iconst (v := 5) B dL_law_176 (by decide) ?_
  refine z_iadd B dL_law_177 ?_
  refine z_seti (y := 5) (by decide) ?_
  refine z_sld (j := 5) (x := x5) B hX hbl hbA (by decide) (show ¬ ((5 : Int32) < 0 ∨ 6 ≤ (5 : Int32).toNatClampNeg) by decide) h_x5 dL_law_178 ?_
  refine z_aload_n B dL_law_179 rfl 1 rfl ?_
  refine z_cSWi (As := [.ref (b + 0), .int 1, .int x2, .int x3, .int x4, .int x5, .ref (b + 431)]) (rest := []) B cw_L_74 dL_law_180 (ci_L_set_124 l hlt (σ := (ap b σ [] [] [])) (b := b) (lyA hK) x2 x3 x4 x5 q1_x2 q2_x2 (rR_at 0 0 (fz_R hF 0 0 rfl rfl)) (rR_at 1 1 (fz_R hF 1 1 rfl rfl))) rfl (by decide) rfl (Nat.le_of_ble_eq_true rfl) (by decide) (fun r u hu => ?_)
  obtain ⟨hu1, z, hu⟩ := hu
  refine z_eqs (σ' := (ap b (wx_Z σ z) [] [] [])) (hu.trans az_ap) ?_
  show zx p l e _ s m _ below meth c g 8 _ _ _ _ 183 [(4, .int 0), (3, .ref (b + 431)), (2, .ref (b + 405)), (1, .ref (b + 0)), (0, .ref bS)] _
  refine z_seti (y := 1) hu1 ?_
  refine z_istore (lv' := [(5, .int 1), (4, .int 0), (3, .ref (b + 431)), (2, .ref (b + 405)), (1, .ref (b + 0)), (0, .ref bS)]) B dL_law_183 (by decide) rfl ?_
  refine z_aload_n B dL_law_185 rfl 3 rfl ?_
  refine z_aload_n B dL_law_186 rfl 5 rfl ?_
  refine z_iload B dL_law_187 1 rfl ?_
  refine z_iconst (v := 1) B dL_law_189 (by decide) ?_
  refine z_iadd B dL_law_190 ?_
  refine z_seti (y := 1) (by decide) ?_
  refine z_sld (j := 1) (x := 1) B hX hbl hbA (by decide) (show ¬ ((1 : Int32) < 0 ∨ 6 ≤ (1 : Int32).toNatClampNeg) by decide) h_x1 dL_law_191 ?_
  refine z_aload_n B dL_law_192 rfl 5 rfl ?_
  refine z_iload B dL_law_193 1 rfl ?_
  refine z_iconst (v := 2) B dL_law_195 (by decide) ?_
  refine z_iadd B dL_law_196 ?_
  refine z_seti (y := 2) (by decide) ?_
  refine z_sld (j := 2) (x := x2) B hX hbl hbA (by decide) (show ¬ ((2 : Int32) < 0 ∨ 6 ≤ (2 : Int32).toNatClampNeg) by decide) h_x2 dL_law_197 ?_
  refine z_aload_n B dL_law_198 rfl 5 rfl ?_
  refine z_iload B dL_law_199 1 rfl ?_
  refine z_iconst (v := 3) B dL_law_201 (by decide) ?_
  refine z_iadd B dL_law_202 ?_
  refine z_seti (y := 3) (by decide) ?_
  refine z_sld (j := 3) (x := x3) B hX hbl hbA (by decide) (show ¬ ((3 : Int32) < 0 ∨ 6 ≤ (3 : Int32).toNatClampNeg) by decide) h_x3 dL_law_203 ?_
  refine z_aload_n B dL_law_204 rfl 5 rfl ?_
  refine z_iload B dL_law_205 1 rfl ?_
  refine z_iconst (v := 4) B dL_law_207 (by decide) ?_
  refine z_iadd B dL_law_208 ?_
  refine z_seti (y := 4) (by decide) ?_
  refine z_sld (j := 4) (x := x4) B hX hbl hbA (by decide) (show ¬ ((4 : Int32) < 0 ∨ 6 ≤ (4 : Int32).toNatClampNeg) by decide) h_x4 dL_law_209 ?_
  refine z_aload_n B dL_law_210 rfl 5 rfl ?_
  refine z_iload B dL_law_211 1 rfl ?_
  refine z_iconst (v := 5) B dL_law_213 (by decide) ?_
  refine z_iadd B dL_law_214 ?_
  refine z_seti (y := 5) (by decide) ?_
  refine z_sld (j := 5) (x := x5) B hX hbl hbA (by decide) (show ¬ ((5 : Int32) < 0 ∨ 6 ≤ (5 : Int32).toNatClampNeg) by decide) h_x5 dL_law_215 ?_
  refine z_cVi (As := [.int 1, .int x2, .int x3, .int x4, .int x5]) (rest := []) B cw_L_79 cx_10 dL_law_216 (ci_X9_set_132 l (σ := (ap b (wx_Z σ z) [] [] [])) (b := b) (lyA (lyZ hK)) x2 x3 x4 x5 q1_x2 q2_x2 q1_x3 q2_x3 q1_x4 q2_x4) (lKA (lKZ (hk_K hK 405 rfl rfl))) rfl (by decide) rfl (Nat.le_of_ble_eq_true rfl) (by decide) (fun r u hu => ?_)
  refine z_eqs (σ' := (ap b (wx_Z σ z) [(405, 0, 1)] [] [])) (hu.2.trans ap_ap) ?_
  show zx p l e _ s m _ below meth c g 8 _ _ _ _ 219 [(5, .int 1), (4, .int 0), (3, .ref (b + 431)), (2, .ref (b + 405)), (1, .ref (b + 0)), (0, .ref bS)] _
  refine z_seti (y := 0) hu.1 ?_
  refine z_istore (lv' := [(6, .int 0), (5, .int 1), (4, .int 0), (3, .ref (b + 431)), (2, .ref (b + 405)), (1, .ref (b + 0)), (0, .ref bS)]) B dL_law_219 (by decide) rfl ?_
  refine z_aload_n B dL_law_221 rfl 4 rfl ?_
  refine z_cVi (As := []) (rest := []) B cw_L_80 cx_10 dL_law_222 (ci_X9_thrown_31 l (σ := (ap b (wx_Z σ z) [(405, 0, 1)] [] [])) (b := b) (lyA (lyZ hK)) (rI_at 405 0 rfl)) (lKA (lKZ (hk_K hK 405 rfl rfl))) rfl (by decide) rfl (Nat.le_of_ble_eq_true rfl) (by decide) (fun r u hu => ?_)
  refine z_eqs (σ' := (ap b (wx_Z σ z) [(405, 0, 1)] [] [])) hu.2 ?_
  show zx p l e _ s m _ below meth c g 8 _ _ _ _ 225 [(6, .int 0), (5, .int 1), (4, .int 0), (3, .ref (b + 431)), (2, .ref (b + 405)), (1, .ref (b + 0)), (0, .ref bS)] _
  refine z_seti (y := 1) hu.1 ?_
  refine z_iload B dL_law_225 1 rfl ?_
  refine z_icmp_eq (tgt := 232) B dL_law_227 (by decide) (fun _ => ?_) (fun h => absurd (by decide) h)
  refine z_iload B dL_law_232 1 rfl ?_
  refine z_if_ne (tgt := 249) B dL_law_234 (by decide) (fun _ => ?_) (fun h => absurd h (by decide))
  refine z_goto (tgt := 1395) B dL_law_249 (by decide) ?_
  exact z_widen (Nat.le_of_ble_eq_true rfl) (Nat.le_of_ble_eq_true rfl) (z_sub _ [2, 6] rfl (kk _))
set_option maxRecDepth 100000 in
set_option maxHeartbeats 4000000 in
theorem lf_0_34 {p : Program} {l : Launch} {e : Env} {s : State} {m : MethodId} {args : Array Value} {below : List Frame} {meth : Method} {c : Code} {g : gx_T} {Q : State → Prop} {σ : sx_T} {b t bS : Nat} {xs : Nat → Int32} (hlt : l.stackTraces = false) (B : zx_B p s m args meth c code RL 8 g) (hX : va_X bS 6 xs s s.heap) (hbl : bS < s.heap.size) (hbA : ¬ gx_b g ≤ bS) (hF : fz_P b t σ) (h_x1 : xs 1 = 1) {x2 : Int32} (h_x2 : xs 2 = x2) (q1_x2 : (-2147483648 : Int) ≤ x2.toInt) (q2_x2 : x2.toInt ≤ (-1 : Int)) {x3 : Int32} (h_x3 : xs 3 = x3) (q1_x3 : (18 : Int) ≤ x3.toInt) (q2_x3 : x3.toInt ≤ (2147483647 : Int)) {x4 : Int32} (h_x4 : xs 4 = x4) (q1_x4 : (-2147483648 : Int) ≤ x4.toInt) (q2_x4 : x4.toInt ≤ (2147483647 : Int)) {x5 : Int32} (h_x5 : xs 5 = x5) (q1_x5 : (-2147483648 : Int) ≤ x5.toInt) (q2_x5 : x5.toInt ≤ (2147483647 : Int)) (kk : ∀ σ', zx p l e room_1 s m args below meth c g 8 600002 7302232 Q σ' 1395 [(4, .int 0), (0, .ref bS)] []) : zx p l e room_1 s m args below meth c g 8 500 100000 Q σ 148 [(4, .int 0), (3, .ref (b + 431)), (2, .ref (b + 405)), (1, .ref (b + 0)), (0, .ref bS)] [] := by
  have hK := fz_lay hF
  refine z_eqs (σ' := (ap b σ [] [] [])) rfl ?_
  refine z_aload_n B dL_law_148 rfl 3 rfl ?_
  refine z_aload_n B dL_law_149 rfl 4 rfl ?_
  refine z_iload B dL_law_150 0 rfl ?_
  refine z_iconst (v := 1) B dL_law_152 (by decide) ?_
  refine z_iadd B dL_law_153 ?_
  refine z_seti (y := 1) (by decide) ?_
  refine z_sld (j := 1) (x := 1) B hX hbl hbA (by decide) (show ¬ ((1 : Int32) < 0 ∨ 6 ≤ (1 : Int32).toNatClampNeg) by decide) h_x1 dL_law_154 ?_
  refine z_aload_n B dL_law_155 rfl 4 rfl ?_
  refine z_iload B dL_law_156 0 rfl ?_
  refine z_iconst (v := 2) B dL_law_158 (by decide) ?_
  refine z_iadd B dL_law_159 ?_
  refine z_seti (y := 2) (by decide) ?_
  refine z_sld (j := 2) (x := x2) B hX hbl hbA (by decide) (show ¬ ((2 : Int32) < 0 ∨ 6 ≤ (2 : Int32).toNatClampNeg) by decide) h_x2 dL_law_160 ?_
  refine z_aload_n B dL_law_161 rfl 4 rfl ?_
  refine z_iload B dL_law_162 0 rfl ?_
  refine z_iconst (v := 3) B dL_law_164 (by decide) ?_
  refine z_iadd B dL_law_165 ?_
  refine z_seti (y := 3) (by decide) ?_
  refine z_sld (j := 3) (x := x3) B hX hbl hbA (by decide) (show ¬ ((3 : Int32) < 0 ∨ 6 ≤ (3 : Int32).toNatClampNeg) by decide) h_x3 dL_law_166 ?_
  refine z_aload_n B dL_law_167 rfl 4 rfl ?_
  refine z_iload B dL_law_168 0 rfl ?_
  refine z_iconst (v := 4) B dL_law_170 (by decide) ?_
  refine z_iadd B dL_law_171 ?_
  refine z_seti (y := 4) (by decide) ?_
  refine z_sld (j := 4) (x := x4) B hX hbl hbA (by decide) (show ¬ ((4 : Int32) < 0 ∨ 6 ≤ (4 : Int32).toNatClampNeg) by decide) h_x4 dL_law_172 ?_
  refine z_aload_n B dL_law_173 rfl 4 rfl ?_
  refine z_iload B dL_law_174 0 rfl ?_
  refine z_iconst (v := 5) B dL_law_176 (by decide) ?_
  refine z_iadd B dL_law_177 ?_
  refine z_seti (y := 5) (by decide) ?_
  refine z_sld (j := 5) (x := x5) B hX hbl hbA (by decide) (show ¬ ((5 : Int32) < 0 ∨ 6 ≤ (5 : Int32).toNatClampNeg) by decide) h_x5 dL_law_178 ?_
  refine z_aload_n B dL_law_179 rfl 1 rfl ?_
  refine z_cSWi (As := [.ref (b + 0), .int 1, .int x2, .int x3, .int x4, .int x5, .ref (b + 431)]) (rest := []) B cw_L_74 dL_law_180 (ci_L_set_124 l hlt (σ := (ap b σ [] [] [])) (b := b) (lyA hK) x2 x3 x4 x5 q1_x2 q2_x2 (rR_at 0 0 (fz_R hF 0 0 rfl rfl)) (rR_at 1 1 (fz_R hF 1 1 rfl rfl))) rfl (by decide) rfl (Nat.le_of_ble_eq_true rfl) (by decide) (fun r u hu => ?_)
  obtain ⟨hu1, z, hu⟩ := hu
  refine z_eqs (σ' := (ap b (wx_Z σ z) [] [] [])) (hu.trans az_ap) ?_
  show zx p l e _ s m _ below meth c g 8 _ _ _ _ 183 [(4, .int 0), (3, .ref (b + 431)), (2, .ref (b + 405)), (1, .ref (b + 0)), (0, .ref bS)] _
  refine z_seti (y := 1) hu1 ?_
  refine z_istore (lv' := [(5, .int 1), (4, .int 0), (3, .ref (b + 431)), (2, .ref (b + 405)), (1, .ref (b + 0)), (0, .ref bS)]) B dL_law_183 (by decide) rfl ?_
  refine z_aload_n B dL_law_185 rfl 3 rfl ?_
  refine z_aload_n B dL_law_186 rfl 5 rfl ?_
  refine z_iload B dL_law_187 1 rfl ?_
  refine z_iconst (v := 1) B dL_law_189 (by decide) ?_
  refine z_iadd B dL_law_190 ?_
  refine z_seti (y := 1) (by decide) ?_
  refine z_sld (j := 1) (x := 1) B hX hbl hbA (by decide) (show ¬ ((1 : Int32) < 0 ∨ 6 ≤ (1 : Int32).toNatClampNeg) by decide) h_x1 dL_law_191 ?_
  refine z_aload_n B dL_law_192 rfl 5 rfl ?_
  refine z_iload B dL_law_193 1 rfl ?_
  refine z_iconst (v := 2) B dL_law_195 (by decide) ?_
  refine z_iadd B dL_law_196 ?_
  refine z_seti (y := 2) (by decide) ?_
  refine z_sld (j := 2) (x := x2) B hX hbl hbA (by decide) (show ¬ ((2 : Int32) < 0 ∨ 6 ≤ (2 : Int32).toNatClampNeg) by decide) h_x2 dL_law_197 ?_
  refine z_aload_n B dL_law_198 rfl 5 rfl ?_
  refine z_iload B dL_law_199 1 rfl ?_
  refine z_iconst (v := 3) B dL_law_201 (by decide) ?_
  refine z_iadd B dL_law_202 ?_
  refine z_seti (y := 3) (by decide) ?_
  refine z_sld (j := 3) (x := x3) B hX hbl hbA (by decide) (show ¬ ((3 : Int32) < 0 ∨ 6 ≤ (3 : Int32).toNatClampNeg) by decide) h_x3 dL_law_203 ?_
  refine z_aload_n B dL_law_204 rfl 5 rfl ?_
  refine z_iload B dL_law_205 1 rfl ?_
  refine z_iconst (v := 4) B dL_law_207 (by decide) ?_
  refine z_iadd B dL_law_208 ?_
  refine z_seti (y := 4) (by decide) ?_
  refine z_sld (j := 4) (x := x4) B hX hbl hbA (by decide) (show ¬ ((4 : Int32) < 0 ∨ 6 ≤ (4 : Int32).toNatClampNeg) by decide) h_x4 dL_law_209 ?_
  refine z_aload_n B dL_law_210 rfl 5 rfl ?_
  refine z_iload B dL_law_211 1 rfl ?_
  refine z_iconst (v := 5) B dL_law_213 (by decide) ?_
  refine z_iadd B dL_law_214 ?_
  refine z_seti (y := 5) (by decide) ?_
  refine z_sld (j := 5) (x := x5) B hX hbl hbA (by decide) (show ¬ ((5 : Int32) < 0 ∨ 6 ≤ (5 : Int32).toNatClampNeg) by decide) h_x5 dL_law_215 ?_
  refine z_cVi (As := [.int 1, .int x2, .int x3, .int x4, .int x5]) (rest := []) B cw_L_79 cx_10 dL_law_216 (ci_X9_set_133 l (σ := (ap b (wx_Z σ z) [] [] [])) (b := b) (lyA (lyZ hK)) x2 x3 x4 x5 q1_x2 q2_x2 q1_x3 q2_x3) (lKA (lKZ (hk_K hK 405 rfl rfl))) rfl (by decide) rfl (Nat.le_of_ble_eq_true rfl) (by decide) (fun r u hu => ?_)
  refine z_eqs (σ' := (ap b (wx_Z σ z) [(405, 0, 1)] [] [])) (hu.2.trans ap_ap) ?_
  show zx p l e _ s m _ below meth c g 8 _ _ _ _ 219 [(5, .int 1), (4, .int 0), (3, .ref (b + 431)), (2, .ref (b + 405)), (1, .ref (b + 0)), (0, .ref bS)] _
  refine z_seti (y := 0) hu.1 ?_
  refine z_istore (lv' := [(6, .int 0), (5, .int 1), (4, .int 0), (3, .ref (b + 431)), (2, .ref (b + 405)), (1, .ref (b + 0)), (0, .ref bS)]) B dL_law_219 (by decide) rfl ?_
  refine z_aload_n B dL_law_221 rfl 4 rfl ?_
  refine z_cVi (As := []) (rest := []) B cw_L_80 cx_10 dL_law_222 (ci_X9_thrown_31 l (σ := (ap b (wx_Z σ z) [(405, 0, 1)] [] [])) (b := b) (lyA (lyZ hK)) (rI_at 405 0 rfl)) (lKA (lKZ (hk_K hK 405 rfl rfl))) rfl (by decide) rfl (Nat.le_of_ble_eq_true rfl) (by decide) (fun r u hu => ?_)
  refine z_eqs (σ' := (ap b (wx_Z σ z) [(405, 0, 1)] [] [])) hu.2 ?_
  show zx p l e _ s m _ below meth c g 8 _ _ _ _ 225 [(6, .int 0), (5, .int 1), (4, .int 0), (3, .ref (b + 431)), (2, .ref (b + 405)), (1, .ref (b + 0)), (0, .ref bS)] _
  refine z_seti (y := 1) hu.1 ?_
  refine z_iload B dL_law_225 1 rfl ?_
  refine z_icmp_eq (tgt := 232) B dL_law_227 (by decide) (fun _ => ?_) (fun h => absurd (by decide) h)
  refine z_iload B dL_law_232 1 rfl ?_
  refine z_if_ne (tgt := 249) B dL_law_234 (by decide) (fun _ => ?_) (fun h => absurd h (by decide))
  refine z_goto (tgt := 1395) B dL_law_249 (by decide) ?_
  exact z_widen (Nat.le_of_ble_eq_true rfl) (Nat.le_of_ble_eq_true rfl) (z_sub _ [2, 6] rfl (kk _))
set_option maxRecDepth 100000 in
set_option maxHeartbeats 4000000 in
theorem lf_0_35 {p : Program} {l : Launch} {e : Env} {s : State} {m : MethodId} {args : Array Value} {below : List Frame} {meth : Method} {c : Code} {g : gx_T} {Q : State → Prop} {σ : sx_T} {b t bS : Nat} {xs : Nat → Int32} (hlt : l.stackTraces = false) (B : zx_B p s m args meth c code RL 8 g) (hX : va_X bS 6 xs s s.heap) (hbl : bS < s.heap.size) (hbA : ¬ gx_b g ≤ bS) (hF : fz_P b t σ) (h_x1 : xs 1 = 1) {x2 : Int32} (h_x2 : xs 2 = x2) (q1_x2 : (0 : Int) ≤ x2.toInt) (q2_x2 : x2.toInt ≤ (19 : Int)) {x3 : Int32} (h_x3 : xs 3 = x3) (q1_x3 : (-2147483648 : Int) ≤ x3.toInt) (q2_x3 : x3.toInt ≤ (-1 : Int)) {x4 : Int32} (h_x4 : xs 4 = x4) (q1_x4 : (-2147483648 : Int) ≤ x4.toInt) (q2_x4 : x4.toInt ≤ (2147483647 : Int)) {x5 : Int32} (h_x5 : xs 5 = x5) (q1_x5 : (-2147483648 : Int) ≤ x5.toInt) (q2_x5 : x5.toInt ≤ (2147483647 : Int)) (kk : ∀ σ', zx p l e room_1 s m args below meth c g 8 600002 7302232 Q σ' 1395 [(4, .int 0), (0, .ref bS)] []) : zx p l e room_1 s m args below meth c g 8 500 100000 Q σ 148 [(4, .int 0), (3, .ref (b + 431)), (2, .ref (b + 405)), (1, .ref (b + 0)), (0, .ref bS)] [] := by
  have hK := fz_lay hF
  refine z_eqs (σ' := (ap b σ [] [] [])) rfl ?_
  refine z_aload_n B dL_law_148 rfl 3 rfl ?_
  refine z_aload_n B dL_law_149 rfl 4 rfl ?_
  refine z_iload B dL_law_150 0 rfl ?_
  refine z_iconst (v := 1) B dL_law_152 (by decide) ?_
  refine z_iadd B dL_law_153 ?_
  refine z_seti (y := 1) (by decide) ?_
  refine z_sld (j := 1) (x := 1) B hX hbl hbA (by decide) (show ¬ ((1 : Int32) < 0 ∨ 6 ≤ (1 : Int32).toNatClampNeg) by decide) h_x1 dL_law_154 ?_
  refine z_aload_n B dL_law_155 rfl 4 rfl ?_
  refine z_iload B dL_law_156 0 rfl ?_
  refine z_iconst (v := 2) B dL_law_158 (by decide) ?_
  refine z_iadd B dL_law_159 ?_
  refine z_seti (y := 2) (by decide) ?_
  refine z_sld (j := 2) (x := x2) B hX hbl hbA (by decide) (show ¬ ((2 : Int32) < 0 ∨ 6 ≤ (2 : Int32).toNatClampNeg) by decide) h_x2 dL_law_160 ?_
  refine z_aload_n B dL_law_161 rfl 4 rfl ?_
  refine z_iload B dL_law_162 0 rfl ?_
  refine z_iconst (v := 3) B dL_law_164 (by decide) ?_
  refine z_iadd B dL_law_165 ?_
  refine z_seti (y := 3) (by decide) ?_
  refine z_sld (j := 3) (x := x3) B hX hbl hbA (by decide) (show ¬ ((3 : Int32) < 0 ∨ 6 ≤ (3 : Int32).toNatClampNeg) by decide) h_x3 dL_law_166 ?_
  refine z_aload_n B dL_law_167 rfl 4 rfl ?_
  refine z_iload B dL_law_168 0 rfl ?_
  refine z_iconst (v := 4) B dL_law_170 (by decide) ?_
  refine z_iadd B dL_law_171 ?_
  refine z_seti (y := 4) (by decide) ?_
  refine z_sld (j := 4) (x := x4) B hX hbl hbA (by decide) (show ¬ ((4 : Int32) < 0 ∨ 6 ≤ (4 : Int32).toNatClampNeg) by decide) h_x4 dL_law_172 ?_
  refine z_aload_n B dL_law_173 rfl 4 rfl ?_
  refine z_iload B dL_law_174 0 rfl ?_
  refine z_iconst (v := 5) B dL_law_176 (by decide) ?_
  refine z_iadd B dL_law_177 ?_
  refine z_seti (y := 5) (by decide) ?_
  refine z_sld (j := 5) (x := x5) B hX hbl hbA (by decide) (show ¬ ((5 : Int32) < 0 ∨ 6 ≤ (5 : Int32).toNatClampNeg) by decide) h_x5 dL_law_178 ?_
  refine z_aload_n B dL_law_179 rfl 1 rfl ?_
  refine z_cSWi (As := [.ref (b + 0), .int 1, .int x2, .int x3, .int x4, .int x5, .ref (b + 431)]) (rest := []) B cw_L_74 dL_law_180 (ci_L_set_135 l hlt (σ := (ap b σ [] [] [])) (b := b) (lyA hK) x2 x3 x4 x5 q1_x2 q2_x2 q1_x3 q2_x3 (rR_at 0 0 (fz_R hF 0 0 rfl rfl)) (rR_at 1 1 (fz_R hF 1 1 rfl rfl))) rfl (by decide) rfl (Nat.le_of_ble_eq_true rfl) (by decide) (fun r u hu => ?_)
  obtain ⟨hu1, z, hu⟩ := hu
  refine z_eqs (σ' := (ap b (wx_Z σ z) [] [] [])) (hu.trans az_ap) ?_
  show zx p l e _ s m _ below meth c g 8 _ _ _ _ 183 [(4, .int 0), (3, .ref (b + 431)), (2, .ref (b + 405)), (1, .ref (b + 0)), (0, .ref bS)] _
  refine z_seti (y := 2) hu1 ?_
  refine z_istore (lv' := [(5, .int 2), (4, .int 0), (3, .ref (b + 431)), (2, .ref (b + 405)), (1, .ref (b + 0)), (0, .ref bS)]) B dL_law_183 (by decide) rfl ?_
  refine z_aload_n B dL_law_185 rfl 3 rfl ?_
  refine z_aload_n B dL_law_186 rfl 5 rfl ?_
  refine z_iload B dL_law_187 1 rfl ?_
  refine z_iconst (v := 1) B dL_law_189 (by decide) ?_
  refine z_iadd B dL_law_190 ?_
  refine z_seti (y := 1) (by decide) ?_
  refine z_sld (j := 1) (x := 1) B hX hbl hbA (by decide) (show ¬ ((1 : Int32) < 0 ∨ 6 ≤ (1 : Int32).toNatClampNeg) by decide) h_x1 dL_law_191 ?_
  refine z_aload_n B dL_law_192 rfl 5 rfl ?_
  refine z_iload B dL_law_193 1 rfl ?_
  refine z_iconst (v := 2) B dL_law_195 (by decide) ?_
  refine z_iadd B dL_law_196 ?_
  refine z_seti (y := 2) (by decide) ?_
  refine z_sld (j := 2) (x := x2) B hX hbl hbA (by decide) (show ¬ ((2 : Int32) < 0 ∨ 6 ≤ (2 : Int32).toNatClampNeg) by decide) h_x2 dL_law_197 ?_
  refine z_aload_n B dL_law_198 rfl 5 rfl ?_
  refine z_iload B dL_law_199 1 rfl ?_
  refine z_iconst (v := 3) B dL_law_201 (by decide) ?_
  refine z_iadd B dL_law_202 ?_
  refine z_seti (y := 3) (by decide) ?_
  refine z_sld (j := 3) (x := x3) B hX hbl hbA (by decide) (show ¬ ((3 : Int32) < 0 ∨ 6 ≤ (3 : Int32).toNatClampNeg) by decide) h_x3 dL_law_203 ?_
  refine z_aload_n B dL_law_204 rfl 5 rfl ?_
  refine z_iload B dL_law_205 1 rfl ?_
  refine z_iconst (v := 4) B dL_law_207 (by decide) ?_
  refine z_iadd B dL_law_208 ?_
  refine z_seti (y := 4) (by decide) ?_
  refine z_sld (j := 4) (x := x4) B hX hbl hbA (by decide) (show ¬ ((4 : Int32) < 0 ∨ 6 ≤ (4 : Int32).toNatClampNeg) by decide) h_x4 dL_law_209 ?_
  refine z_aload_n B dL_law_210 rfl 5 rfl ?_
  refine z_iload B dL_law_211 1 rfl ?_
  refine z_iconst (v := 5) B dL_law_213 (by decide) ?_
  refine z_iadd B dL_law_214 ?_
  refine z_seti (y := 5) (by decide) ?_
  refine z_sld (j := 5) (x := x5) B hX hbl hbA (by decide) (show ¬ ((5 : Int32) < 0 ∨ 6 ≤ (5 : Int32).toNatClampNeg) by decide) h_x5 dL_law_215 ?_
  refine z_cVi (As := [.int 1, .int x2, .int x3, .int x4, .int x5]) (rest := []) B cw_L_79 cx_10 dL_law_216 (ci_X9_set_137 l (σ := (ap b (wx_Z σ z) [] [] [])) (b := b) (lyA (lyZ hK)) x2 x3 x4 x5 q1_x2 q2_x2 q1_x3 q2_x3) (lKA (lKZ (hk_K hK 405 rfl rfl))) rfl (by decide) rfl (Nat.le_of_ble_eq_true rfl) (by decide) (fun r u hu => ?_)
  refine z_eqs (σ' := (ap b (wx_Z σ z) [(405, 0, 2)] [] [])) (hu.2.trans ap_ap) ?_
  show zx p l e _ s m _ below meth c g 8 _ _ _ _ 219 [(5, .int 2), (4, .int 0), (3, .ref (b + 431)), (2, .ref (b + 405)), (1, .ref (b + 0)), (0, .ref bS)] _
  refine z_seti (y := 0) hu.1 ?_
  refine z_istore (lv' := [(6, .int 0), (5, .int 2), (4, .int 0), (3, .ref (b + 431)), (2, .ref (b + 405)), (1, .ref (b + 0)), (0, .ref bS)]) B dL_law_219 (by decide) rfl ?_
  refine z_aload_n B dL_law_221 rfl 4 rfl ?_
  refine z_cVi (As := []) (rest := []) B cw_L_80 cx_10 dL_law_222 (ci_X9_thrown_73 l (σ := (ap b (wx_Z σ z) [(405, 0, 2)] [] [])) (b := b) (lyA (lyZ hK)) (rI_at 405 0 rfl)) (lKA (lKZ (hk_K hK 405 rfl rfl))) rfl (by decide) rfl (Nat.le_of_ble_eq_true rfl) (by decide) (fun r u hu => ?_)
  refine z_eqs (σ' := (ap b (wx_Z σ z) [(405, 0, 2)] [] [])) hu.2 ?_
  show zx p l e _ s m _ below meth c g 8 _ _ _ _ 225 [(6, .int 0), (5, .int 2), (4, .int 0), (3, .ref (b + 431)), (2, .ref (b + 405)), (1, .ref (b + 0)), (0, .ref bS)] _
  refine z_seti (y := 2) hu.1 ?_
  refine z_iload B dL_law_225 1 rfl ?_
  refine z_icmp_eq (tgt := 232) B dL_law_227 (by decide) (fun _ => ?_) (fun h => absurd (by decide) h)
  refine z_iload B dL_law_232 1 rfl ?_
  refine z_if_ne (tgt := 249) B dL_law_234 (by decide) (fun _ => ?_) (fun h => absurd h (by decide))
  refine z_goto (tgt := 1395) B dL_law_249 (by decide) ?_
  exact z_widen (Nat.le_of_ble_eq_true rfl) (Nat.le_of_ble_eq_true rfl) (z_sub _ [2, 6] rfl (kk _))
set_option maxRecDepth 100000 in
set_option maxHeartbeats 4000000 in
theorem lf_0_36 {p : Program} {l : Launch} {e : Env} {s : State} {m : MethodId} {args : Array Value} {below : List Frame} {meth : Method} {c : Code} {g : gx_T} {Q : State → Prop} {σ : sx_T} {b t bS : Nat} {xs : Nat → Int32} (hlt : l.stackTraces = false) (B : zx_B p s m args meth c code RL 8 g) (hX : va_X bS 6 xs s s.heap) (hbl : bS < s.heap.size) (hbA : ¬ gx_b g ≤ bS) (hF : fz_P b t σ) (h_x1 : xs 1 = 1) {x2 : Int32} (h_x2 : xs 2 = x2) (q1_x2 : (0 : Int) ≤ x2.toInt) (q2_x2 : x2.toInt ≤ (19 : Int)) {x3 : Int32} (h_x3 : xs 3 = x3) (q1_x3 : (0 : Int) ≤ x3.toInt) (q2_x3 : x3.toInt ≤ (17 : Int)) {x4 : Int32} (h_x4 : xs 4 = x4) (q1_x4 : (-2147483648 : Int) ≤ x4.toInt) (q2_x4 : x4.toInt ≤ (-1 : Int)) {x5 : Int32} (h_x5 : xs 5 = x5) (q1_x5 : (-2147483648 : Int) ≤ x5.toInt) (q2_x5 : x5.toInt ≤ (2147483647 : Int)) (kk : ∀ σ', zx p l e room_1 s m args below meth c g 8 600002 7302232 Q σ' 1395 [(4, .int 0), (0, .ref bS)] []) : zx p l e room_1 s m args below meth c g 8 500 100000 Q σ 148 [(4, .int 0), (3, .ref (b + 431)), (2, .ref (b + 405)), (1, .ref (b + 0)), (0, .ref bS)] [] := by
  have hK := fz_lay hF
  refine z_eqs (σ' := (ap b σ [] [] [])) rfl ?_
  refine z_aload_n B dL_law_148 rfl 3 rfl ?_
  refine z_aload_n B dL_law_149 rfl 4 rfl ?_
  refine z_iload B dL_law_150 0 rfl ?_
  refine z_iconst (v := 1) B dL_law_152 (by decide) ?_
  refine z_iadd B dL_law_153 ?_
  refine z_seti (y := 1) (by decide) ?_
  refine z_sld (j := 1) (x := 1) B hX hbl hbA (by decide) (show ¬ ((1 : Int32) < 0 ∨ 6 ≤ (1 : Int32).toNatClampNeg) by decide) h_x1 dL_law_154 ?_
  refine z_aload_n B dL_law_155 rfl 4 rfl ?_
  refine z_iload B dL_law_156 0 rfl ?_
  refine z_iconst (v := 2) B dL_law_158 (by decide) ?_
  refine z_iadd B dL_law_159 ?_
  refine z_seti (y := 2) (by decide) ?_
  refine z_sld (j := 2) (x := x2) B hX hbl hbA (by decide) (show ¬ ((2 : Int32) < 0 ∨ 6 ≤ (2 : Int32).toNatClampNeg) by decide) h_x2 dL_law_160 ?_
  refine z_aload_n B dL_law_161 rfl 4 rfl ?_
  refine z_iload B dL_law_162 0 rfl ?_
  refine z_iconst (v := 3) B dL_law_164 (by decide) ?_
  refine z_iadd B dL_law_165 ?_
  refine z_seti (y := 3) (by decide) ?_
  refine z_sld (j := 3) (x := x3) B hX hbl hbA (by decide) (show ¬ ((3 : Int32) < 0 ∨ 6 ≤ (3 : Int32).toNatClampNeg) by decide) h_x3 dL_law_166 ?_
  refine z_aload_n B dL_law_167 rfl 4 rfl ?_
  refine z_iload B dL_law_168 0 rfl ?_
  refine z_iconst (v := 4) B dL_law_170 (by decide) ?_
  refine z_iadd B dL_law_171 ?_
  refine z_seti (y := 4) (by decide) ?_
  refine z_sld (j := 4) (x := x4) B hX hbl hbA (by decide) (show ¬ ((4 : Int32) < 0 ∨ 6 ≤ (4 : Int32).toNatClampNeg) by decide) h_x4 dL_law_172 ?_
  refine z_aload_n B dL_law_173 rfl 4 rfl ?_
  refine z_iload B dL_law_174 0 rfl ?_
  refine z_iconst (v := 5) B dL_law_176 (by decide) ?_
  refine z_iadd B dL_law_177 ?_
  refine z_seti (y := 5) (by decide) ?_
  refine z_sld (j := 5) (x := x5) B hX hbl hbA (by decide) (show ¬ ((5 : Int32) < 0 ∨ 6 ≤ (5 : Int32).toNatClampNeg) by decide) h_x5 dL_law_178 ?_
  refine z_aload_n B dL_law_179 rfl 1 rfl ?_
  refine z_cSWi (As := [.ref (b + 0), .int 1, .int x2, .int x3, .int x4, .int x5, .ref (b + 431)]) (rest := []) B cw_L_74 dL_law_180 (ci_L_set_139 l hlt (σ := (ap b σ [] [] [])) (b := b) (lyA hK) x2 x3 x4 x5 q1_x2 q2_x2 q1_x3 q2_x3 q1_x4 q2_x4 (rR_at 0 0 (fz_R hF 0 0 rfl rfl)) (rR_at 1 1 (fz_R hF 1 1 rfl rfl))) rfl (by decide) rfl (Nat.le_of_ble_eq_true rfl) (by decide) (fun r u hu => ?_)
  obtain ⟨hu1, z, hu⟩ := hu
  refine z_eqs (σ' := (ap b (wx_Z σ z) [] [] [])) (hu.trans az_ap) ?_
  show zx p l e _ s m _ below meth c g 8 _ _ _ _ 183 [(4, .int 0), (3, .ref (b + 431)), (2, .ref (b + 405)), (1, .ref (b + 0)), (0, .ref bS)] _
  refine z_seti (y := 2) hu1 ?_
  refine z_istore (lv' := [(5, .int 2), (4, .int 0), (3, .ref (b + 431)), (2, .ref (b + 405)), (1, .ref (b + 0)), (0, .ref bS)]) B dL_law_183 (by decide) rfl ?_
  refine z_aload_n B dL_law_185 rfl 3 rfl ?_
  refine z_aload_n B dL_law_186 rfl 5 rfl ?_
  refine z_iload B dL_law_187 1 rfl ?_
  refine z_iconst (v := 1) B dL_law_189 (by decide) ?_
  refine z_iadd B dL_law_190 ?_
  refine z_seti (y := 1) (by decide) ?_
  refine z_sld (j := 1) (x := 1) B hX hbl hbA (by decide) (show ¬ ((1 : Int32) < 0 ∨ 6 ≤ (1 : Int32).toNatClampNeg) by decide) h_x1 dL_law_191 ?_
  refine z_aload_n B dL_law_192 rfl 5 rfl ?_
  refine z_iload B dL_law_193 1 rfl ?_
  refine z_iconst (v := 2) B dL_law_195 (by decide) ?_
  refine z_iadd B dL_law_196 ?_
  refine z_seti (y := 2) (by decide) ?_
  refine z_sld (j := 2) (x := x2) B hX hbl hbA (by decide) (show ¬ ((2 : Int32) < 0 ∨ 6 ≤ (2 : Int32).toNatClampNeg) by decide) h_x2 dL_law_197 ?_
  refine z_aload_n B dL_law_198 rfl 5 rfl ?_
  refine z_iload B dL_law_199 1 rfl ?_
  refine z_iconst (v := 3) B dL_law_201 (by decide) ?_
  refine z_iadd B dL_law_202 ?_
  refine z_seti (y := 3) (by decide) ?_
  refine z_sld (j := 3) (x := x3) B hX hbl hbA (by decide) (show ¬ ((3 : Int32) < 0 ∨ 6 ≤ (3 : Int32).toNatClampNeg) by decide) h_x3 dL_law_203 ?_
  refine z_aload_n B dL_law_204 rfl 5 rfl ?_
  refine z_iload B dL_law_205 1 rfl ?_
  refine z_iconst (v := 4) B dL_law_207 (by decide) ?_
  refine z_iadd B dL_law_208 ?_
  refine z_seti (y := 4) (by decide) ?_
  refine z_sld (j := 4) (x := x4) B hX hbl hbA (by decide) (show ¬ ((4 : Int32) < 0 ∨ 6 ≤ (4 : Int32).toNatClampNeg) by decide) h_x4 dL_law_209 ?_
  refine z_aload_n B dL_law_210 rfl 5 rfl ?_
  refine z_iload B dL_law_211 1 rfl ?_
  refine z_iconst (v := 5) B dL_law_213 (by decide) ?_
  refine z_iadd B dL_law_214 ?_
  refine z_seti (y := 5) (by decide) ?_
  refine z_sld (j := 5) (x := x5) B hX hbl hbA (by decide) (show ¬ ((5 : Int32) < 0 ∨ 6 ≤ (5 : Int32).toNatClampNeg) by decide) h_x5 dL_law_215 ?_
  refine z_cVi (As := [.int 1, .int x2, .int x3, .int x4, .int x5]) (rest := []) B cw_L_79 cx_10 dL_law_216 (ci_X9_set_140 l (σ := (ap b (wx_Z σ z) [] [] [])) (b := b) (lyA (lyZ hK)) x2 x3 x4 x5 q1_x2 q2_x2 q1_x3 q2_x3 q1_x4 q2_x4) (lKA (lKZ (hk_K hK 405 rfl rfl))) rfl (by decide) rfl (Nat.le_of_ble_eq_true rfl) (by decide) (fun r u hu => ?_)
  refine z_eqs (σ' := (ap b (wx_Z σ z) [(405, 0, 2)] [] [])) (hu.2.trans ap_ap) ?_
  show zx p l e _ s m _ below meth c g 8 _ _ _ _ 219 [(5, .int 2), (4, .int 0), (3, .ref (b + 431)), (2, .ref (b + 405)), (1, .ref (b + 0)), (0, .ref bS)] _
  refine z_seti (y := 0) hu.1 ?_
  refine z_istore (lv' := [(6, .int 0), (5, .int 2), (4, .int 0), (3, .ref (b + 431)), (2, .ref (b + 405)), (1, .ref (b + 0)), (0, .ref bS)]) B dL_law_219 (by decide) rfl ?_
  refine z_aload_n B dL_law_221 rfl 4 rfl ?_
  refine z_cVi (As := []) (rest := []) B cw_L_80 cx_10 dL_law_222 (ci_X9_thrown_73 l (σ := (ap b (wx_Z σ z) [(405, 0, 2)] [] [])) (b := b) (lyA (lyZ hK)) (rI_at 405 0 rfl)) (lKA (lKZ (hk_K hK 405 rfl rfl))) rfl (by decide) rfl (Nat.le_of_ble_eq_true rfl) (by decide) (fun r u hu => ?_)
  refine z_eqs (σ' := (ap b (wx_Z σ z) [(405, 0, 2)] [] [])) hu.2 ?_
  show zx p l e _ s m _ below meth c g 8 _ _ _ _ 225 [(6, .int 0), (5, .int 2), (4, .int 0), (3, .ref (b + 431)), (2, .ref (b + 405)), (1, .ref (b + 0)), (0, .ref bS)] _
  refine z_seti (y := 2) hu.1 ?_
  refine z_iload B dL_law_225 1 rfl ?_
  refine z_icmp_eq (tgt := 232) B dL_law_227 (by decide) (fun _ => ?_) (fun h => absurd (by decide) h)
  refine z_iload B dL_law_232 1 rfl ?_
  refine z_if_ne (tgt := 249) B dL_law_234 (by decide) (fun _ => ?_) (fun h => absurd h (by decide))
  refine z_goto (tgt := 1395) B dL_law_249 (by decide) ?_
  exact z_widen (Nat.le_of_ble_eq_true rfl) (Nat.le_of_ble_eq_true rfl) (z_sub _ [2, 6] rfl (kk _))
set_option maxRecDepth 100000 in
set_option maxHeartbeats 4000000 in
theorem lf_0_37 {p : Program} {l : Launch} {e : Env} {s : State} {m : MethodId} {args : Array Value} {below : List Frame} {meth : Method} {c : Code} {g : gx_T} {Q : State → Prop} {σ : sx_T} {b t bS : Nat} {xs : Nat → Int32} (hlt : l.stackTraces = false) (B : zx_B p s m args meth c code RL 8 g) (hX : va_X bS 6 xs s s.heap) (hbl : bS < s.heap.size) (hbA : ¬ gx_b g ≤ bS) (hF : fz_P b t σ) (h_x1 : xs 1 = 1) {x2 : Int32} (h_x2 : xs 2 = x2) (q1_x2 : (0 : Int) ≤ x2.toInt) (q2_x2 : x2.toInt ≤ (19 : Int)) {x3 : Int32} (h_x3 : xs 3 = x3) (q1_x3 : (0 : Int) ≤ x3.toInt) (q2_x3 : x3.toInt ≤ (17 : Int)) {x4 : Int32} (h_x4 : xs 4 = x4) (q1_x4 : (0 : Int) ≤ x4.toInt) (q2_x4 : x4.toInt ≤ (99 : Int)) {x5 : Int32} (h_x5 : xs 5 = x5) (q1_x5 : (-2147483648 : Int) ≤ x5.toInt) (q2_x5 : x5.toInt ≤ (-1 : Int)) (kk : ∀ σ', zx p l e room_1 s m args below meth c g 8 600002 7302232 Q σ' 1395 [(4, .int 0), (0, .ref bS)] []) : zx p l e room_1 s m args below meth c g 8 500 100000 Q σ 148 [(4, .int 0), (3, .ref (b + 431)), (2, .ref (b + 405)), (1, .ref (b + 0)), (0, .ref bS)] [] := by
  have hK := fz_lay hF
  refine z_eqs (σ' := (ap b σ [] [] [])) rfl ?_
  refine z_aload_n B dL_law_148 rfl 3 rfl ?_
  refine z_aload_n B dL_law_149 rfl 4 rfl ?_
  refine z_iload B dL_law_150 0 rfl ?_
  refine z_iconst (v := 1) B dL_law_152 (by decide) ?_
  refine z_iadd B dL_law_153 ?_
  refine z_seti (y := 1) (by decide) ?_
  refine z_sld (j := 1) (x := 1) B hX hbl hbA (by decide) (show ¬ ((1 : Int32) < 0 ∨ 6 ≤ (1 : Int32).toNatClampNeg) by decide) h_x1 dL_law_154 ?_
  refine z_aload_n B dL_law_155 rfl 4 rfl ?_
  refine z_iload B dL_law_156 0 rfl ?_
  refine z_iconst (v := 2) B dL_law_158 (by decide) ?_
  refine z_iadd B dL_law_159 ?_
  refine z_seti (y := 2) (by decide) ?_
  refine z_sld (j := 2) (x := x2) B hX hbl hbA (by decide) (show ¬ ((2 : Int32) < 0 ∨ 6 ≤ (2 : Int32).toNatClampNeg) by decide) h_x2 dL_law_160 ?_
  refine z_aload_n B dL_law_161 rfl 4 rfl ?_
  refine z_iload B dL_law_162 0 rfl ?_
  refine z_iconst (v := 3) B dL_law_164 (by decide) ?_
  refine z_iadd B dL_law_165 ?_
  refine z_seti (y := 3) (by decide) ?_
  refine z_sld (j := 3) (x := x3) B hX hbl hbA (by decide) (show ¬ ((3 : Int32) < 0 ∨ 6 ≤ (3 : Int32).toNatClampNeg) by decide) h_x3 dL_law_166 ?_
  refine z_aload_n B dL_law_167 rfl 4 rfl ?_
  refine z_iload B dL_law_168 0 rfl ?_
  refine z_iconst (v := 4) B dL_law_170 (by decide) ?_
  refine z_iadd B dL_law_171 ?_
  refine z_seti (y := 4) (by decide) ?_
  refine z_sld (j := 4) (x := x4) B hX hbl hbA (by decide) (show ¬ ((4 : Int32) < 0 ∨ 6 ≤ (4 : Int32).toNatClampNeg) by decide) h_x4 dL_law_172 ?_
  refine z_aload_n B dL_law_173 rfl 4 rfl ?_
  refine z_iload B dL_law_174 0 rfl ?_
  refine z_iconst (v := 5) B dL_law_176 (by decide) ?_
  refine z_iadd B dL_law_177 ?_
  refine z_seti (y := 5) (by decide) ?_
  refine z_sld (j := 5) (x := x5) B hX hbl hbA (by decide) (show ¬ ((5 : Int32) < 0 ∨ 6 ≤ (5 : Int32).toNatClampNeg) by decide) h_x5 dL_law_178 ?_
  refine z_aload_n B dL_law_179 rfl 1 rfl ?_
  refine z_cSWi (As := [.ref (b + 0), .int 1, .int x2, .int x3, .int x4, .int x5, .ref (b + 431)]) (rest := []) B cw_L_74 dL_law_180 (ci_L_set_142 l hlt (σ := (ap b σ [] [] [])) (b := b) (lyA hK) x2 x3 x4 x5 q1_x2 q2_x2 q1_x3 q2_x3 q1_x4 q2_x4 q1_x5 q2_x5 (rR_at 0 0 (fz_R hF 0 0 rfl rfl)) (rR_at 1 1 (fz_R hF 1 1 rfl rfl))) rfl (by decide) rfl (Nat.le_of_ble_eq_true rfl) (by decide) (fun r u hu => ?_)
  obtain ⟨hu1, z, hu⟩ := hu
  refine z_eqs (σ' := (ap b (wx_Z σ z) [] [] [])) (hu.trans az_ap) ?_
  show zx p l e _ s m _ below meth c g 8 _ _ _ _ 183 [(4, .int 0), (3, .ref (b + 431)), (2, .ref (b + 405)), (1, .ref (b + 0)), (0, .ref bS)] _
  refine z_seti (y := 2) hu1 ?_
  refine z_istore (lv' := [(5, .int 2), (4, .int 0), (3, .ref (b + 431)), (2, .ref (b + 405)), (1, .ref (b + 0)), (0, .ref bS)]) B dL_law_183 (by decide) rfl ?_
  refine z_aload_n B dL_law_185 rfl 3 rfl ?_
  refine z_aload_n B dL_law_186 rfl 5 rfl ?_
  refine z_iload B dL_law_187 1 rfl ?_
  refine z_iconst (v := 1) B dL_law_189 (by decide) ?_
  refine z_iadd B dL_law_190 ?_
  refine z_seti (y := 1) (by decide) ?_
  refine z_sld (j := 1) (x := 1) B hX hbl hbA (by decide) (show ¬ ((1 : Int32) < 0 ∨ 6 ≤ (1 : Int32).toNatClampNeg) by decide) h_x1 dL_law_191 ?_
  refine z_aload_n B dL_law_192 rfl 5 rfl ?_
  refine z_iload B dL_law_193 1 rfl ?_
  refine z_iconst (v := 2) B dL_law_195 (by decide) ?_
  refine z_iadd B dL_law_196 ?_
  refine z_seti (y := 2) (by decide) ?_
  refine z_sld (j := 2) (x := x2) B hX hbl hbA (by decide) (show ¬ ((2 : Int32) < 0 ∨ 6 ≤ (2 : Int32).toNatClampNeg) by decide) h_x2 dL_law_197 ?_
  refine z_aload_n B dL_law_198 rfl 5 rfl ?_
  refine z_iload B dL_law_199 1 rfl ?_
  refine z_iconst (v := 3) B dL_law_201 (by decide) ?_
  refine z_iadd B dL_law_202 ?_
  refine z_seti (y := 3) (by decide) ?_
  refine z_sld (j := 3) (x := x3) B hX hbl hbA (by decide) (show ¬ ((3 : Int32) < 0 ∨ 6 ≤ (3 : Int32).toNatClampNeg) by decide) h_x3 dL_law_203 ?_
  refine z_aload_n B dL_law_204 rfl 5 rfl ?_
  refine z_iload B dL_law_205 1 rfl ?_
  refine z_iconst (v := 4) B dL_law_207 (by decide) ?_
  refine z_iadd B dL_law_208 ?_
  refine z_seti (y := 4) (by decide) ?_
  refine z_sld (j := 4) (x := x4) B hX hbl hbA (by decide) (show ¬ ((4 : Int32) < 0 ∨ 6 ≤ (4 : Int32).toNatClampNeg) by decide) h_x4 dL_law_209 ?_
  refine z_aload_n B dL_law_210 rfl 5 rfl ?_
  refine z_iload B dL_law_211 1 rfl ?_
  refine z_iconst (v := 5) B dL_law_213 (by decide) ?_
  refine z_iadd B dL_law_214 ?_
  refine z_seti (y := 5) (by decide) ?_
  refine z_sld (j := 5) (x := x5) B hX hbl hbA (by decide) (show ¬ ((5 : Int32) < 0 ∨ 6 ≤ (5 : Int32).toNatClampNeg) by decide) h_x5 dL_law_215 ?_
  refine z_cVi (As := [.int 1, .int x2, .int x3, .int x4, .int x5]) (rest := []) B cw_L_79 cx_10 dL_law_216 (ci_X9_set_143 l (σ := (ap b (wx_Z σ z) [] [] [])) (b := b) (lyA (lyZ hK)) x2 x3 x4 x5 q1_x2 q2_x2 q1_x3 q2_x3 q1_x4 q2_x4 q1_x5 q2_x5) (lKA (lKZ (hk_K hK 405 rfl rfl))) rfl (by decide) rfl (Nat.le_of_ble_eq_true rfl) (by decide) (fun r u hu => ?_)
  refine z_eqs (σ' := (ap b (wx_Z σ z) [(405, 0, 2)] [] [])) (hu.2.trans ap_ap) ?_
  show zx p l e _ s m _ below meth c g 8 _ _ _ _ 219 [(5, .int 2), (4, .int 0), (3, .ref (b + 431)), (2, .ref (b + 405)), (1, .ref (b + 0)), (0, .ref bS)] _
  refine z_seti (y := 0) hu.1 ?_
  refine z_istore (lv' := [(6, .int 0), (5, .int 2), (4, .int 0), (3, .ref (b + 431)), (2, .ref (b + 405)), (1, .ref (b + 0)), (0, .ref bS)]) B dL_law_219 (by decide) rfl ?_
  refine z_aload_n B dL_law_221 rfl 4 rfl ?_
  refine z_cVi (As := []) (rest := []) B cw_L_80 cx_10 dL_law_222 (ci_X9_thrown_73 l (σ := (ap b (wx_Z σ z) [(405, 0, 2)] [] [])) (b := b) (lyA (lyZ hK)) (rI_at 405 0 rfl)) (lKA (lKZ (hk_K hK 405 rfl rfl))) rfl (by decide) rfl (Nat.le_of_ble_eq_true rfl) (by decide) (fun r u hu => ?_)
  refine z_eqs (σ' := (ap b (wx_Z σ z) [(405, 0, 2)] [] [])) hu.2 ?_
  show zx p l e _ s m _ below meth c g 8 _ _ _ _ 225 [(6, .int 0), (5, .int 2), (4, .int 0), (3, .ref (b + 431)), (2, .ref (b + 405)), (1, .ref (b + 0)), (0, .ref bS)] _
  refine z_seti (y := 2) hu.1 ?_
  refine z_iload B dL_law_225 1 rfl ?_
  refine z_icmp_eq (tgt := 232) B dL_law_227 (by decide) (fun _ => ?_) (fun h => absurd (by decide) h)
  refine z_iload B dL_law_232 1 rfl ?_
  refine z_if_ne (tgt := 249) B dL_law_234 (by decide) (fun _ => ?_) (fun h => absurd h (by decide))
  refine z_goto (tgt := 1395) B dL_law_249 (by decide) ?_
  exact z_widen (Nat.le_of_ble_eq_true rfl) (Nat.le_of_ble_eq_true rfl) (z_sub _ [2, 6] rfl (kk _))
set_option maxRecDepth 100000 in
set_option maxHeartbeats 4000000 in
theorem lf_0_38 {p : Program} {l : Launch} {e : Env} {s : State} {m : MethodId} {args : Array Value} {below : List Frame} {meth : Method} {c : Code} {g : gx_T} {Q : State → Prop} {σ : sx_T} {b t bS : Nat} {xs : Nat → Int32} (hlt : l.stackTraces = false) (B : zx_B p s m args meth c code RL 8 g) (hX : va_X bS 6 xs s s.heap) (hbl : bS < s.heap.size) (hbA : ¬ gx_b g ≤ bS) (hF : fz_P b t σ) (h_x1 : xs 1 = 1) {x2 : Int32} (h_x2 : xs 2 = x2) (q1_x2 : (0 : Int) ≤ x2.toInt) (q2_x2 : x2.toInt ≤ (19 : Int)) {x3 : Int32} (h_x3 : xs 3 = x3) (q1_x3 : (0 : Int) ≤ x3.toInt) (q2_x3 : x3.toInt ≤ (17 : Int)) {x4 : Int32} (h_x4 : xs 4 = x4) (q1_x4 : (0 : Int) ≤ x4.toInt) (q2_x4 : x4.toInt ≤ (99 : Int)) {x5 : Int32} (h_x5 : xs 5 = x5) (q1_x5 : (0 : Int) ≤ x5.toInt) (q2_x5 : x5.toInt ≤ (99 : Int)) (kk : ∀ σ', zx p l e room_1 s m args below meth c g 8 600002 7302232 Q σ' 1395 [(4, .int 0), (0, .ref bS)] []) : zx p l e room_1 s m args below meth c g 8 500 100000 Q σ 148 [(4, .int 0), (3, .ref (b + 431)), (2, .ref (b + 405)), (1, .ref (b + 0)), (0, .ref bS)] [] := by
  have hK := fz_lay hF
  refine z_eqs (σ' := (ap b σ [] [] [])) rfl ?_
  refine z_aload_n B dL_law_148 rfl 3 rfl ?_
  refine z_aload_n B dL_law_149 rfl 4 rfl ?_
  refine z_iload B dL_law_150 0 rfl ?_
  refine z_iconst (v := 1) B dL_law_152 (by decide) ?_
  refine z_iadd B dL_law_153 ?_
  refine z_seti (y := 1) (by decide) ?_
  refine z_sld (j := 1) (x := 1) B hX hbl hbA (by decide) (show ¬ ((1 : Int32) < 0 ∨ 6 ≤ (1 : Int32).toNatClampNeg) by decide) h_x1 dL_law_154 ?_
  refine z_aload_n B dL_law_155 rfl 4 rfl ?_
  refine z_iload B dL_law_156 0 rfl ?_
  refine z_iconst (v := 2) B dL_law_158 (by decide) ?_
  refine z_iadd B dL_law_159 ?_
  refine z_seti (y := 2) (by decide) ?_
  refine z_sld (j := 2) (x := x2) B hX hbl hbA (by decide) (show ¬ ((2 : Int32) < 0 ∨ 6 ≤ (2 : Int32).toNatClampNeg) by decide) h_x2 dL_law_160 ?_
  refine z_aload_n B dL_law_161 rfl 4 rfl ?_
  refine z_iload B dL_law_162 0 rfl ?_
  refine z_iconst (v := 3) B dL_law_164 (by decide) ?_
  refine z_iadd B dL_law_165 ?_
  refine z_seti (y := 3) (by decide) ?_
  refine z_sld (j := 3) (x := x3) B hX hbl hbA (by decide) (show ¬ ((3 : Int32) < 0 ∨ 6 ≤ (3 : Int32).toNatClampNeg) by decide) h_x3 dL_law_166 ?_
  refine z_aload_n B dL_law_167 rfl 4 rfl ?_
  refine z_iload B dL_law_168 0 rfl ?_
  refine z_iconst (v := 4) B dL_law_170 (by decide) ?_
  refine z_iadd B dL_law_171 ?_
  refine z_seti (y := 4) (by decide) ?_
  refine z_sld (j := 4) (x := x4) B hX hbl hbA (by decide) (show ¬ ((4 : Int32) < 0 ∨ 6 ≤ (4 : Int32).toNatClampNeg) by decide) h_x4 dL_law_172 ?_
  refine z_aload_n B dL_law_173 rfl 4 rfl ?_
  refine z_iload B dL_law_174 0 rfl ?_
  refine z_iconst (v := 5) B dL_law_176 (by decide) ?_
  refine z_iadd B dL_law_177 ?_
  refine z_seti (y := 5) (by decide) ?_
  refine z_sld (j := 5) (x := x5) B hX hbl hbA (by decide) (show ¬ ((5 : Int32) < 0 ∨ 6 ≤ (5 : Int32).toNatClampNeg) by decide) h_x5 dL_law_178 ?_
  refine z_aload_n B dL_law_179 rfl 1 rfl ?_
  refine z_cSWi (As := [.ref (b + 0), .int 1, .int x2, .int x3, .int x4, .int x5, .ref (b + 431)]) (rest := []) B cw_L_74 dL_law_180 (ci_L_set_148 l (σ := (ap b σ [] [] [])) (b := b) (lyA hK) x2 x3 x4 x5 q1_x2 q2_x2 q1_x3 q2_x3 q1_x4 q2_x4 q1_x5 q2_x5 (rI_at 0 7 (fz_I hF 0 7 rfl rfl)) (rR_at 0 0 (fz_R hF 0 0 rfl rfl)) (rR_at 1 1 (fz_R hF 1 1 rfl rfl)) (rR_at 13 1 (fz_R hF 13 1 rfl rfl)) (rR_at 13 2 (fz_R hF 13 2 rfl rfl)) (rR_at 13 3 (fz_R hF 13 3 rfl rfl))) rfl (by decide) rfl (Nat.le_of_ble_eq_true rfl) (by decide) (fun r u hu => ?_)
  refine z_eqs (σ' := (ap b (wx_I (ap b (wx_I (ap b (wx_I (ap b (ap b (ap b (ap b σ [] [] []) [] [] []) [] [] []) [] [] []) (b + 14) x2.toNatClampNeg x3) [] [] []) (b + 15) x2.toNatClampNeg x4) [] [] []) (b + 16) x2.toNatClampNeg x5) [] [(431, 0, 0)] [])) hu.2 ?_
  show zx p l e _ s m _ below meth c g 8 _ _ _ _ 183 [(4, .int 0), (3, .ref (b + 431)), (2, .ref (b + 405)), (1, .ref (b + 0)), (0, .ref bS)] _
  refine z_seti (y := 0) hu.1 ?_
  refine z_istore (lv' := [(5, .int 0), (4, .int 0), (3, .ref (b + 431)), (2, .ref (b + 405)), (1, .ref (b + 0)), (0, .ref bS)]) B dL_law_183 (by decide) rfl ?_
  refine z_aload_n B dL_law_185 rfl 3 rfl ?_
  refine z_aload_n B dL_law_186 rfl 5 rfl ?_
  refine z_iload B dL_law_187 1 rfl ?_
  refine z_iconst (v := 1) B dL_law_189 (by decide) ?_
  refine z_iadd B dL_law_190 ?_
  refine z_seti (y := 1) (by decide) ?_
  refine z_sld (j := 1) (x := 1) B hX hbl hbA (by decide) (show ¬ ((1 : Int32) < 0 ∨ 6 ≤ (1 : Int32).toNatClampNeg) by decide) h_x1 dL_law_191 ?_
  refine z_aload_n B dL_law_192 rfl 5 rfl ?_
  refine z_iload B dL_law_193 1 rfl ?_
  refine z_iconst (v := 2) B dL_law_195 (by decide) ?_
  refine z_iadd B dL_law_196 ?_
  refine z_seti (y := 2) (by decide) ?_
  refine z_sld (j := 2) (x := x2) B hX hbl hbA (by decide) (show ¬ ((2 : Int32) < 0 ∨ 6 ≤ (2 : Int32).toNatClampNeg) by decide) h_x2 dL_law_197 ?_
  refine z_aload_n B dL_law_198 rfl 5 rfl ?_
  refine z_iload B dL_law_199 1 rfl ?_
  refine z_iconst (v := 3) B dL_law_201 (by decide) ?_
  refine z_iadd B dL_law_202 ?_
  refine z_seti (y := 3) (by decide) ?_
  refine z_sld (j := 3) (x := x3) B hX hbl hbA (by decide) (show ¬ ((3 : Int32) < 0 ∨ 6 ≤ (3 : Int32).toNatClampNeg) by decide) h_x3 dL_law_203 ?_
  refine z_aload_n B dL_law_204 rfl 5 rfl ?_
  refine z_iload B dL_law_205 1 rfl ?_
  refine z_iconst (v := 4) B dL_law_207 (by decide) ?_
  refine z_iadd B dL_law_208 ?_
  refine z_seti (y := 4) (by decide) ?_
  refine z_sld (j := 4) (x := x4) B hX hbl hbA (by decide) (show ¬ ((4 : Int32) < 0 ∨ 6 ≤ (4 : Int32).toNatClampNeg) by decide) h_x4 dL_law_209 ?_
  refine z_aload_n B dL_law_210 rfl 5 rfl ?_
  refine z_iload B dL_law_211 1 rfl ?_
  refine z_iconst (v := 5) B dL_law_213 (by decide) ?_
  refine z_iadd B dL_law_214 ?_
  refine z_seti (y := 5) (by decide) ?_
  refine z_sld (j := 5) (x := x5) B hX hbl hbA (by decide) (show ¬ ((5 : Int32) < 0 ∨ 6 ≤ (5 : Int32).toNatClampNeg) by decide) h_x5 dL_law_215 ?_
  refine z_cVi (As := [.int 1, .int x2, .int x3, .int x4, .int x5]) (rest := []) B cw_L_79 cx_10 dL_law_216 (ci_X9_set_151 l (σ := (ap b (wx_I (ap b (wx_I (ap b (wx_I (ap b (ap b (ap b (ap b σ [] [] []) [] [] []) [] [] []) [] [] []) (b + 14) x2.toNatClampNeg x3) [] [] []) (b + 15) x2.toNatClampNeg x4) [] [] []) (b + 16) x2.toNatClampNeg x5) [] [(431, 0, 0)] [])) (b := b) (lyA (lyW (lyA (lyW (lyA (lyW (lyA (lyA (lyA (lyA hK)))))))))) x2 x3 x4 x5 q1_x2 q2_x2 q1_x3 q2_x3 q1_x4 q2_x4 q1_x5 q2_x5 (rI_at 405 6 ((ux_a (by omega)).trans (rI_at 405 6 ((ux_a (by omega)).trans (rI_at 405 6 ((ux_a (by omega)).trans (rI_at 405 6 (rI_at 405 6 (rI_at 405 6 (rI_at 405 6 (fz_I hF 405 6 rfl rfl))))))))))) (rR_at 405 3 (rR_w (rR_at 405 3 (rR_w (rR_at 405 3 (rR_w (rR_at 405 3 (rR_at 405 3 (rR_at 405 3 (rR_at 405 3 (fz_R hF 405 3 rfl rfl))))))))))) (rR_at 405 4 (rR_w (rR_at 405 4 (rR_w (rR_at 405 4 (rR_w (rR_at 405 4 (rR_at 405 4 (rR_at 405 4 (rR_at 405 4 (fz_R hF 405 4 rfl rfl))))))))))) (rR_at 405 5 (rR_w (rR_at 405 5 (rR_w (rR_at 405 5 (rR_w (rR_at 405 5 (rR_at 405 5 (rR_at 405 5 (rR_at 405 5 (fz_R hF 405 5 rfl rfl)))))))))))) (lKA (lKW (lKA (lKW (lKA (lKW (lKA (lKA (lKA (lKA (hk_K hK 405 rfl rfl))))))))))) rfl (by decide) rfl (Nat.le_of_ble_eq_true rfl) (by decide) (fun r u hu => ?_)
  refine z_eqs (σ' := (ap b (wx_I (ap b (wx_I (ap b (wx_I (ap b (ap b (ap b (wx_I (ap b (wx_I (ap b (wx_I (ap b (ap b (ap b (ap b σ [] [] []) [] [] []) [] [] []) [] [] []) (b + 14) x2.toNatClampNeg x3) [] [] []) (b + 15) x2.toNatClampNeg x4) [] [] []) (b + 16) x2.toNatClampNeg x5) [] [(431, 0, 0)] []) [(405, 0, 0)] [] []) [] [] []) (b + 406) (20 + x2).toNatClampNeg x3) [] [] []) (b + 407) (20 + x2).toNatClampNeg x4) [] [] []) (b + 408) (20 + x2).toNatClampNeg x5) [] [] [])) hu.2 ?_
  show zx p l e _ s m _ below meth c g 8 _ _ _ _ 219 [(5, .int 0), (4, .int 0), (3, .ref (b + 431)), (2, .ref (b + 405)), (1, .ref (b + 0)), (0, .ref bS)] _
  refine z_seti (y := 0) hu.1 ?_
  refine z_istore (lv' := [(6, .int 0), (5, .int 0), (4, .int 0), (3, .ref (b + 431)), (2, .ref (b + 405)), (1, .ref (b + 0)), (0, .ref bS)]) B dL_law_219 (by decide) rfl ?_
  refine z_aload_n B dL_law_221 rfl 4 rfl ?_
  refine z_cVi (As := []) (rest := []) B cw_L_80 cx_10 dL_law_222 (ci_X9_thrown_95 l (σ := (ap b (wx_I (ap b (wx_I (ap b (wx_I (ap b (ap b (ap b (wx_I (ap b (wx_I (ap b (wx_I (ap b (ap b (ap b (ap b σ [] [] []) [] [] []) [] [] []) [] [] []) (b + 14) x2.toNatClampNeg x3) [] [] []) (b + 15) x2.toNatClampNeg x4) [] [] []) (b + 16) x2.toNatClampNeg x5) [] [(431, 0, 0)] []) [(405, 0, 0)] [] []) [] [] []) (b + 406) (20 + x2).toNatClampNeg x3) [] [] []) (b + 407) (20 + x2).toNatClampNeg x4) [] [] []) (b + 408) (20 + x2).toNatClampNeg x5) [] [] [])) (b := b) (lyA (lyW (lyA (lyW (lyA (lyW (lyA (lyA (lyA (lyW (lyA (lyW (lyA (lyW (lyA (lyA (lyA (lyA hK)))))))))))))))))) (rI_at 405 0 ((ux_a (by omega)).trans (rI_at 405 0 ((ux_a (by omega)).trans (rI_at 405 0 ((ux_a (by omega)).trans (rI_at 405 0 (rI_at 405 0 rfl))))))))) (lKA (lKW (lKA (lKW (lKA (lKW (lKA (lKA (lKA (lKW (lKA (lKW (lKA (lKW (lKA (lKA (lKA (lKA (hk_K hK 405 rfl rfl))))))))))))))))))) rfl (by decide) rfl (Nat.le_of_ble_eq_true rfl) (by decide) (fun r u hu => ?_)
  refine z_eqs (σ' := (ap b (wx_I (ap b (wx_I (ap b (wx_I (ap b (ap b (ap b (wx_I (ap b (wx_I (ap b (wx_I (ap b (ap b (ap b (ap b σ [] [] []) [] [] []) [] [] []) [] [] []) (b + 14) x2.toNatClampNeg x3) [] [] []) (b + 15) x2.toNatClampNeg x4) [] [] []) (b + 16) x2.toNatClampNeg x5) [] [(431, 0, 0)] []) [(405, 0, 0)] [] []) [] [] []) (b + 406) (20 + x2).toNatClampNeg x3) [] [] []) (b + 407) (20 + x2).toNatClampNeg x4) [] [] []) (b + 408) (20 + x2).toNatClampNeg x5) [] [] [])) hu.2 ?_
  show zx p l e _ s m _ below meth c g 8 _ _ _ _ 225 [(6, .int 0), (5, .int 0), (4, .int 0), (3, .ref (b + 431)), (2, .ref (b + 405)), (1, .ref (b + 0)), (0, .ref bS)] _
  refine z_seti (y := 0) hu.1 ?_
  refine z_iload B dL_law_225 1 rfl ?_
  refine z_icmp_eq (tgt := 232) B dL_law_227 (by decide) (fun _ => ?_) (fun h => absurd (by decide) h)
  refine z_iload B dL_law_232 1 rfl ?_
  refine z_if_ne (tgt := 249) B dL_law_234 (by decide) (fun h => absurd (by decide) h) (fun _ => ?_)
  refine z_aload_n B dL_law_237 rfl 3 rfl ?_
  refine z_iconst (v := 0) B dL_law_238 (by decide) ?_
  refine z_lald (j := 0) (x := 0) B (lKA (lKW (lKA (lKW (lKA (lKW (lKA (lKA (lKA (lKW (lKA (lKW (lKA (lKW (lKA (lKA (lKA (lKA (hk_K hK 431 rfl rfl))))))))))))))))))) (by decide) (in_of (lNA (lNW (lNA (lNW (lNA (lNW (lNA (lNA (lNA (lNW (lNA (lNW (lNA (lNW (lNA (lNA (lNA (lNA (hk_N hK 431 rfl rfl))))))))))))))))))) (show ¬ ((0 : Int32) < 0 ∨ 1 ≤ (0 : Int32).toNatClampNeg) by decide)) (rJ_at 431 0 (rJ_w (rJ_at 431 0 (rJ_w (rJ_at 431 0 (rJ_w (rJ_at 431 0 (rJ_at 431 0 (rJ_at 431 0 rfl))))))))) dL_law_239 ?_
  refine z_iload B dL_law_240 0 rfl ?_
  refine z_i2l (v := 0) B dL_law_242 (by decide) ?_
  refine z_lcmp (v := 0) B dL_law_243 (by decide) ?_
  refine z_if_eq (tgt := 249) B dL_law_244 (by decide) (fun _ => ?_) (fun h => absurd (by decide) h)
  refine z_goto (tgt := 1395) B dL_law_249 (by decide) ?_
  exact z_widen (Nat.le_of_ble_eq_true rfl) (Nat.le_of_ble_eq_true rfl) (z_sub _ [2, 6] rfl (kk _))
set_option maxRecDepth 100000 in
set_option maxHeartbeats 4000000 in
theorem lf_0_39 {p : Program} {l : Launch} {e : Env} {s : State} {m : MethodId} {args : Array Value} {below : List Frame} {meth : Method} {c : Code} {g : gx_T} {Q : State → Prop} {σ : sx_T} {b t bS : Nat} {xs : Nat → Int32} (hlt : l.stackTraces = false) (B : zx_B p s m args meth c code RL 8 g) (hX : va_X bS 6 xs s s.heap) (hbl : bS < s.heap.size) (hbA : ¬ gx_b g ≤ bS) (hF : fz_P b t σ) (h_x1 : xs 1 = 1) {x2 : Int32} (h_x2 : xs 2 = x2) (q1_x2 : (0 : Int) ≤ x2.toInt) (q2_x2 : x2.toInt ≤ (19 : Int)) {x3 : Int32} (h_x3 : xs 3 = x3) (q1_x3 : (0 : Int) ≤ x3.toInt) (q2_x3 : x3.toInt ≤ (17 : Int)) {x4 : Int32} (h_x4 : xs 4 = x4) (q1_x4 : (0 : Int) ≤ x4.toInt) (q2_x4 : x4.toInt ≤ (99 : Int)) {x5 : Int32} (h_x5 : xs 5 = x5) (q1_x5 : (100 : Int) ≤ x5.toInt) (q2_x5 : x5.toInt ≤ (2147483647 : Int)) (kk : ∀ σ', zx p l e room_1 s m args below meth c g 8 600002 7302232 Q σ' 1395 [(4, .int 0), (0, .ref bS)] []) : zx p l e room_1 s m args below meth c g 8 500 100000 Q σ 148 [(4, .int 0), (3, .ref (b + 431)), (2, .ref (b + 405)), (1, .ref (b + 0)), (0, .ref bS)] [] := by
  have hK := fz_lay hF
  refine z_eqs (σ' := (ap b σ [] [] [])) rfl ?_
  refine z_aload_n B dL_law_148 rfl 3 rfl ?_
  refine z_aload_n B dL_law_149 rfl 4 rfl ?_
  refine z_iload B dL_law_150 0 rfl ?_
  refine z_iconst (v := 1) B dL_law_152 (by decide) ?_
  refine z_iadd B dL_law_153 ?_
  refine z_seti (y := 1) (by decide) ?_
  refine z_sld (j := 1) (x := 1) B hX hbl hbA (by decide) (show ¬ ((1 : Int32) < 0 ∨ 6 ≤ (1 : Int32).toNatClampNeg) by decide) h_x1 dL_law_154 ?_
  refine z_aload_n B dL_law_155 rfl 4 rfl ?_
  refine z_iload B dL_law_156 0 rfl ?_
  refine z_iconst (v := 2) B dL_law_158 (by decide) ?_
  refine z_iadd B dL_law_159 ?_
  refine z_seti (y := 2) (by decide) ?_
  refine z_sld (j := 2) (x := x2) B hX hbl hbA (by decide) (show ¬ ((2 : Int32) < 0 ∨ 6 ≤ (2 : Int32).toNatClampNeg) by decide) h_x2 dL_law_160 ?_
  refine z_aload_n B dL_law_161 rfl 4 rfl ?_
  refine z_iload B dL_law_162 0 rfl ?_
  refine z_iconst (v := 3) B dL_law_164 (by decide) ?_
  refine z_iadd B dL_law_165 ?_
  refine z_seti (y := 3) (by decide) ?_
  refine z_sld (j := 3) (x := x3) B hX hbl hbA (by decide) (show ¬ ((3 : Int32) < 0 ∨ 6 ≤ (3 : Int32).toNatClampNeg) by decide) h_x3 dL_law_166 ?_
  refine z_aload_n B dL_law_167 rfl 4 rfl ?_
  refine z_iload B dL_law_168 0 rfl ?_
  refine z_iconst (v := 4) B dL_law_170 (by decide) ?_
  refine z_iadd B dL_law_171 ?_
  refine z_seti (y := 4) (by decide) ?_
  refine z_sld (j := 4) (x := x4) B hX hbl hbA (by decide) (show ¬ ((4 : Int32) < 0 ∨ 6 ≤ (4 : Int32).toNatClampNeg) by decide) h_x4 dL_law_172 ?_
  refine z_aload_n B dL_law_173 rfl 4 rfl ?_
  refine z_iload B dL_law_174 0 rfl ?_
  refine z_iconst (v := 5) B dL_law_176 (by decide) ?_
  refine z_iadd B dL_law_177 ?_
  refine z_seti (y := 5) (by decide) ?_
  refine z_sld (j := 5) (x := x5) B hX hbl hbA (by decide) (show ¬ ((5 : Int32) < 0 ∨ 6 ≤ (5 : Int32).toNatClampNeg) by decide) h_x5 dL_law_178 ?_
  refine z_aload_n B dL_law_179 rfl 1 rfl ?_
  refine z_cSWi (As := [.ref (b + 0), .int 1, .int x2, .int x3, .int x4, .int x5, .ref (b + 431)]) (rest := []) B cw_L_74 dL_law_180 (ci_L_set_153 l hlt (σ := (ap b σ [] [] [])) (b := b) (lyA hK) x2 x3 x4 x5 q1_x2 q2_x2 q1_x3 q2_x3 q1_x4 q2_x4 q1_x5 q2_x5 (rR_at 0 0 (fz_R hF 0 0 rfl rfl)) (rR_at 1 1 (fz_R hF 1 1 rfl rfl))) rfl (by decide) rfl (Nat.le_of_ble_eq_true rfl) (by decide) (fun r u hu => ?_)
  obtain ⟨hu1, z, hu⟩ := hu
  refine z_eqs (σ' := (ap b (wx_Z σ z) [] [] [])) (hu.trans az_ap) ?_
  show zx p l e _ s m _ below meth c g 8 _ _ _ _ 183 [(4, .int 0), (3, .ref (b + 431)), (2, .ref (b + 405)), (1, .ref (b + 0)), (0, .ref bS)] _
  refine z_seti (y := 2) hu1 ?_
  refine z_istore (lv' := [(5, .int 2), (4, .int 0), (3, .ref (b + 431)), (2, .ref (b + 405)), (1, .ref (b + 0)), (0, .ref bS)]) B dL_law_183 (by decide) rfl ?_
  refine z_aload_n B dL_law_185 rfl 3 rfl ?_
  refine z_aload_n B dL_law_186 rfl 5 rfl ?_
  refine z_iload B dL_law_187 1 rfl ?_
  refine z_iconst (v := 1) B dL_law_189 (by decide) ?_
  refine z_iadd B dL_law_190 ?_
  refine z_seti (y := 1) (by decide) ?_
  refine z_sld (j := 1) (x := 1) B hX hbl hbA (by decide) (show ¬ ((1 : Int32) < 0 ∨ 6 ≤ (1 : Int32).toNatClampNeg) by decide) h_x1 dL_law_191 ?_
  refine z_aload_n B dL_law_192 rfl 5 rfl ?_
  refine z_iload B dL_law_193 1 rfl ?_
  refine z_iconst (v := 2) B dL_law_195 (by decide) ?_
  refine z_iadd B dL_law_196 ?_
  refine z_seti (y := 2) (by decide) ?_
  refine z_sld (j := 2) (x := x2) B hX hbl hbA (by decide) (show ¬ ((2 : Int32) < 0 ∨ 6 ≤ (2 : Int32).toNatClampNeg) by decide) h_x2 dL_law_197 ?_
  refine z_aload_n B dL_law_198 rfl 5 rfl ?_
  refine z_iload B dL_law_199 1 rfl ?_
  refine z_iconst (v := 3) B dL_law_201 (by decide) ?_
  refine z_iadd B dL_law_202 ?_
  refine z_seti (y := 3) (by decide) ?_
  refine z_sld (j := 3) (x := x3) B hX hbl hbA (by decide) (show ¬ ((3 : Int32) < 0 ∨ 6 ≤ (3 : Int32).toNatClampNeg) by decide) h_x3 dL_law_203 ?_
  refine z_aload_n B dL_law_204 rfl 5 rfl ?_
  refine z_iload B dL_law_205 1 rfl ?_
  refine z_iconst (v := 4) B dL_law_207 (by decide) ?_
  refine z_iadd B dL_law_208 ?_
  refine z_seti (y := 4) (by decide) ?_
  refine z_sld (j := 4) (x := x4) B hX hbl hbA (by decide) (show ¬ ((4 : Int32) < 0 ∨ 6 ≤ (4 : Int32).toNatClampNeg) by decide) h_x4 dL_law_209 ?_
  refine z_aload_n B dL_law_210 rfl 5 rfl ?_
  refine z_iload B dL_law_211 1 rfl ?_
  refine z_iconst (v := 5) B dL_law_213 (by decide) ?_
  refine z_iadd B dL_law_214 ?_
  refine z_seti (y := 5) (by decide) ?_
  refine z_sld (j := 5) (x := x5) B hX hbl hbA (by decide) (show ¬ ((5 : Int32) < 0 ∨ 6 ≤ (5 : Int32).toNatClampNeg) by decide) h_x5 dL_law_215 ?_
  refine z_cVi (As := [.int 1, .int x2, .int x3, .int x4, .int x5]) (rest := []) B cw_L_79 cx_10 dL_law_216 (ci_X9_set_154 l (σ := (ap b (wx_Z σ z) [] [] [])) (b := b) (lyA (lyZ hK)) x2 x3 x4 x5 q1_x2 q2_x2 q1_x3 q2_x3 q1_x4 q2_x4 q1_x5 q2_x5) (lKA (lKZ (hk_K hK 405 rfl rfl))) rfl (by decide) rfl (Nat.le_of_ble_eq_true rfl) (by decide) (fun r u hu => ?_)
  refine z_eqs (σ' := (ap b (wx_Z σ z) [(405, 0, 2)] [] [])) (hu.2.trans ap_ap) ?_
  show zx p l e _ s m _ below meth c g 8 _ _ _ _ 219 [(5, .int 2), (4, .int 0), (3, .ref (b + 431)), (2, .ref (b + 405)), (1, .ref (b + 0)), (0, .ref bS)] _
  refine z_seti (y := 0) hu.1 ?_
  refine z_istore (lv' := [(6, .int 0), (5, .int 2), (4, .int 0), (3, .ref (b + 431)), (2, .ref (b + 405)), (1, .ref (b + 0)), (0, .ref bS)]) B dL_law_219 (by decide) rfl ?_
  refine z_aload_n B dL_law_221 rfl 4 rfl ?_
  refine z_cVi (As := []) (rest := []) B cw_L_80 cx_10 dL_law_222 (ci_X9_thrown_73 l (σ := (ap b (wx_Z σ z) [(405, 0, 2)] [] [])) (b := b) (lyA (lyZ hK)) (rI_at 405 0 rfl)) (lKA (lKZ (hk_K hK 405 rfl rfl))) rfl (by decide) rfl (Nat.le_of_ble_eq_true rfl) (by decide) (fun r u hu => ?_)
  refine z_eqs (σ' := (ap b (wx_Z σ z) [(405, 0, 2)] [] [])) hu.2 ?_
  show zx p l e _ s m _ below meth c g 8 _ _ _ _ 225 [(6, .int 0), (5, .int 2), (4, .int 0), (3, .ref (b + 431)), (2, .ref (b + 405)), (1, .ref (b + 0)), (0, .ref bS)] _
  refine z_seti (y := 2) hu.1 ?_
  refine z_iload B dL_law_225 1 rfl ?_
  refine z_icmp_eq (tgt := 232) B dL_law_227 (by decide) (fun _ => ?_) (fun h => absurd (by decide) h)
  refine z_iload B dL_law_232 1 rfl ?_
  refine z_if_ne (tgt := 249) B dL_law_234 (by decide) (fun _ => ?_) (fun h => absurd h (by decide))
  refine z_goto (tgt := 1395) B dL_law_249 (by decide) ?_
  exact z_widen (Nat.le_of_ble_eq_true rfl) (Nat.le_of_ble_eq_true rfl) (z_sub _ [2, 6] rfl (kk _))
set_option maxRecDepth 100000 in
set_option maxHeartbeats 4000000 in
theorem lf_0_40 {p : Program} {l : Launch} {e : Env} {s : State} {m : MethodId} {args : Array Value} {below : List Frame} {meth : Method} {c : Code} {g : gx_T} {Q : State → Prop} {σ : sx_T} {b t bS : Nat} {xs : Nat → Int32} (hlt : l.stackTraces = false) (B : zx_B p s m args meth c code RL 8 g) (hX : va_X bS 6 xs s s.heap) (hbl : bS < s.heap.size) (hbA : ¬ gx_b g ≤ bS) (hF : fz_P b t σ) (h_x1 : xs 1 = 1) {x2 : Int32} (h_x2 : xs 2 = x2) (q1_x2 : (0 : Int) ≤ x2.toInt) (q2_x2 : x2.toInt ≤ (19 : Int)) {x3 : Int32} (h_x3 : xs 3 = x3) (q1_x3 : (0 : Int) ≤ x3.toInt) (q2_x3 : x3.toInt ≤ (17 : Int)) {x4 : Int32} (h_x4 : xs 4 = x4) (q1_x4 : (100 : Int) ≤ x4.toInt) (q2_x4 : x4.toInt ≤ (2147483647 : Int)) {x5 : Int32} (h_x5 : xs 5 = x5) (q1_x5 : (-2147483648 : Int) ≤ x5.toInt) (q2_x5 : x5.toInt ≤ (2147483647 : Int)) (kk : ∀ σ', zx p l e room_1 s m args below meth c g 8 600002 7302232 Q σ' 1395 [(4, .int 0), (0, .ref bS)] []) : zx p l e room_1 s m args below meth c g 8 500 100000 Q σ 148 [(4, .int 0), (3, .ref (b + 431)), (2, .ref (b + 405)), (1, .ref (b + 0)), (0, .ref bS)] [] := by
  have hK := fz_lay hF
  refine z_eqs (σ' := (ap b σ [] [] [])) rfl ?_
  refine z_aload_n B dL_law_148 rfl 3 rfl ?_
  refine z_aload_n B dL_law_149 rfl 4 rfl ?_
  refine z_iload B dL_law_150 0 rfl ?_
  refine z_iconst (v := 1) B dL_law_152 (by decide) ?_
  refine z_iadd B dL_law_153 ?_
  refine z_seti (y := 1) (by decide) ?_
  refine z_sld (j := 1) (x := 1) B hX hbl hbA (by decide) (show ¬ ((1 : Int32) < 0 ∨ 6 ≤ (1 : Int32).toNatClampNeg) by decide) h_x1 dL_law_154 ?_
  refine z_aload_n B dL_law_155 rfl 4 rfl ?_
  refine z_iload B dL_law_156 0 rfl ?_
  refine z_iconst (v := 2) B dL_law_158 (by decide) ?_
  refine z_iadd B dL_law_159 ?_
  refine z_seti (y := 2) (by decide) ?_
  refine z_sld (j := 2) (x := x2) B hX hbl hbA (by decide) (show ¬ ((2 : Int32) < 0 ∨ 6 ≤ (2 : Int32).toNatClampNeg) by decide) h_x2 dL_law_160 ?_
  refine z_aload_n B dL_law_161 rfl 4 rfl ?_
  refine z_iload B dL_law_162 0 rfl ?_
  refine z_iconst (v := 3) B dL_law_164 (by decide) ?_
  refine z_iadd B dL_law_165 ?_
  refine z_seti (y := 3) (by decide) ?_
  refine z_sld (j := 3) (x := x3) B hX hbl hbA (by decide) (show ¬ ((3 : Int32) < 0 ∨ 6 ≤ (3 : Int32).toNatClampNeg) by decide) h_x3 dL_law_166 ?_
  refine z_aload_n B dL_law_167 rfl 4 rfl ?_
  refine z_iload B dL_law_168 0 rfl ?_
  refine z_iconst (v := 4) B dL_law_170 (by decide) ?_
  refine z_iadd B dL_law_171 ?_
  refine z_seti (y := 4) (by decide) ?_
  refine z_sld (j := 4) (x := x4) B hX hbl hbA (by decide) (show ¬ ((4 : Int32) < 0 ∨ 6 ≤ (4 : Int32).toNatClampNeg) by decide) h_x4 dL_law_172 ?_
  refine z_aload_n B dL_law_173 rfl 4 rfl ?_
  refine z_iload B dL_law_174 0 rfl ?_
  refine z_iconst (v := 5) B dL_law_176 (by decide) ?_
  refine z_iadd B dL_law_177 ?_
  refine z_seti (y := 5) (by decide) ?_
  refine z_sld (j := 5) (x := x5) B hX hbl hbA (by decide) (show ¬ ((5 : Int32) < 0 ∨ 6 ≤ (5 : Int32).toNatClampNeg) by decide) h_x5 dL_law_178 ?_
  refine z_aload_n B dL_law_179 rfl 1 rfl ?_
  refine z_cSWi (As := [.ref (b + 0), .int 1, .int x2, .int x3, .int x4, .int x5, .ref (b + 431)]) (rest := []) B cw_L_74 dL_law_180 (ci_L_set_156 l hlt (σ := (ap b σ [] [] [])) (b := b) (lyA hK) x2 x3 x4 x5 q1_x2 q2_x2 q1_x3 q2_x3 q1_x4 q2_x4 (rR_at 0 0 (fz_R hF 0 0 rfl rfl)) (rR_at 1 1 (fz_R hF 1 1 rfl rfl))) rfl (by decide) rfl (Nat.le_of_ble_eq_true rfl) (by decide) (fun r u hu => ?_)
  obtain ⟨hu1, z, hu⟩ := hu
  refine z_eqs (σ' := (ap b (wx_Z σ z) [] [] [])) (hu.trans az_ap) ?_
  show zx p l e _ s m _ below meth c g 8 _ _ _ _ 183 [(4, .int 0), (3, .ref (b + 431)), (2, .ref (b + 405)), (1, .ref (b + 0)), (0, .ref bS)] _
  refine z_seti (y := 2) hu1 ?_
  refine z_istore (lv' := [(5, .int 2), (4, .int 0), (3, .ref (b + 431)), (2, .ref (b + 405)), (1, .ref (b + 0)), (0, .ref bS)]) B dL_law_183 (by decide) rfl ?_
  refine z_aload_n B dL_law_185 rfl 3 rfl ?_
  refine z_aload_n B dL_law_186 rfl 5 rfl ?_
  refine z_iload B dL_law_187 1 rfl ?_
  refine z_iconst (v := 1) B dL_law_189 (by decide) ?_
  refine z_iadd B dL_law_190 ?_
  refine z_seti (y := 1) (by decide) ?_
  refine z_sld (j := 1) (x := 1) B hX hbl hbA (by decide) (show ¬ ((1 : Int32) < 0 ∨ 6 ≤ (1 : Int32).toNatClampNeg) by decide) h_x1 dL_law_191 ?_
  refine z_aload_n B dL_law_192 rfl 5 rfl ?_
  refine z_iload B dL_law_193 1 rfl ?_
  refine z_iconst (v := 2) B dL_law_195 (by decide) ?_
  refine z_iadd B dL_law_196 ?_
  refine z_seti (y := 2) (by decide) ?_
  refine z_sld (j := 2) (x := x2) B hX hbl hbA (by decide) (show ¬ ((2 : Int32) < 0 ∨ 6 ≤ (2 : Int32).toNatClampNeg) by decide) h_x2 dL_law_197 ?_
  refine z_aload_n B dL_law_198 rfl 5 rfl ?_
  refine z_iload B dL_law_199 1 rfl ?_
  refine z_iconst (v := 3) B dL_law_201 (by decide) ?_
  refine z_iadd B dL_law_202 ?_
  refine z_seti (y := 3) (by decide) ?_
  refine z_sld (j := 3) (x := x3) B hX hbl hbA (by decide) (show ¬ ((3 : Int32) < 0 ∨ 6 ≤ (3 : Int32).toNatClampNeg) by decide) h_x3 dL_law_203 ?_
  refine z_aload_n B dL_law_204 rfl 5 rfl ?_
  refine z_iload B dL_law_205 1 rfl ?_
  refine z_iconst (v := 4) B dL_law_207 (by decide) ?_
  refine z_iadd B dL_law_208 ?_
  refine z_seti (y := 4) (by decide) ?_
  refine z_sld (j := 4) (x := x4) B hX hbl hbA (by decide) (show ¬ ((4 : Int32) < 0 ∨ 6 ≤ (4 : Int32).toNatClampNeg) by decide) h_x4 dL_law_209 ?_
  refine z_aload_n B dL_law_210 rfl 5 rfl ?_
  refine z_iload B dL_law_211 1 rfl ?_
  refine z_iconst (v := 5) B dL_law_213 (by decide) ?_
  refine z_iadd B dL_law_214 ?_
  refine z_seti (y := 5) (by decide) ?_
  refine z_sld (j := 5) (x := x5) B hX hbl hbA (by decide) (show ¬ ((5 : Int32) < 0 ∨ 6 ≤ (5 : Int32).toNatClampNeg) by decide) h_x5 dL_law_215 ?_
  refine z_cVi (As := [.int 1, .int x2, .int x3, .int x4, .int x5]) (rest := []) B cw_L_79 cx_10 dL_law_216 (ci_X9_set_157 l (σ := (ap b (wx_Z σ z) [] [] [])) (b := b) (lyA (lyZ hK)) x2 x3 x4 x5 q1_x2 q2_x2 q1_x3 q2_x3 q1_x4 q2_x4) (lKA (lKZ (hk_K hK 405 rfl rfl))) rfl (by decide) rfl (Nat.le_of_ble_eq_true rfl) (by decide) (fun r u hu => ?_)
  refine z_eqs (σ' := (ap b (wx_Z σ z) [(405, 0, 2)] [] [])) (hu.2.trans ap_ap) ?_
  show zx p l e _ s m _ below meth c g 8 _ _ _ _ 219 [(5, .int 2), (4, .int 0), (3, .ref (b + 431)), (2, .ref (b + 405)), (1, .ref (b + 0)), (0, .ref bS)] _
  refine z_seti (y := 0) hu.1 ?_
  refine z_istore (lv' := [(6, .int 0), (5, .int 2), (4, .int 0), (3, .ref (b + 431)), (2, .ref (b + 405)), (1, .ref (b + 0)), (0, .ref bS)]) B dL_law_219 (by decide) rfl ?_
  refine z_aload_n B dL_law_221 rfl 4 rfl ?_
  refine z_cVi (As := []) (rest := []) B cw_L_80 cx_10 dL_law_222 (ci_X9_thrown_73 l (σ := (ap b (wx_Z σ z) [(405, 0, 2)] [] [])) (b := b) (lyA (lyZ hK)) (rI_at 405 0 rfl)) (lKA (lKZ (hk_K hK 405 rfl rfl))) rfl (by decide) rfl (Nat.le_of_ble_eq_true rfl) (by decide) (fun r u hu => ?_)
  refine z_eqs (σ' := (ap b (wx_Z σ z) [(405, 0, 2)] [] [])) hu.2 ?_
  show zx p l e _ s m _ below meth c g 8 _ _ _ _ 225 [(6, .int 0), (5, .int 2), (4, .int 0), (3, .ref (b + 431)), (2, .ref (b + 405)), (1, .ref (b + 0)), (0, .ref bS)] _
  refine z_seti (y := 2) hu.1 ?_
  refine z_iload B dL_law_225 1 rfl ?_
  refine z_icmp_eq (tgt := 232) B dL_law_227 (by decide) (fun _ => ?_) (fun h => absurd (by decide) h)
  refine z_iload B dL_law_232 1 rfl ?_
  refine z_if_ne (tgt := 249) B dL_law_234 (by decide) (fun _ => ?_) (fun h => absurd h (by decide))
  refine z_goto (tgt := 1395) B dL_law_249 (by decide) ?_
  exact z_widen (Nat.le_of_ble_eq_true rfl) (Nat.le_of_ble_eq_true rfl) (z_sub _ [2, 6] rfl (kk _))
set_option maxRecDepth 100000 in
set_option maxHeartbeats 4000000 in
theorem lf_0_41 {p : Program} {l : Launch} {e : Env} {s : State} {m : MethodId} {args : Array Value} {below : List Frame} {meth : Method} {c : Code} {g : gx_T} {Q : State → Prop} {σ : sx_T} {b t bS : Nat} {xs : Nat → Int32} (hlt : l.stackTraces = false) (B : zx_B p s m args meth c code RL 8 g) (hX : va_X bS 6 xs s s.heap) (hbl : bS < s.heap.size) (hbA : ¬ gx_b g ≤ bS) (hF : fz_P b t σ) (h_x1 : xs 1 = 1) {x2 : Int32} (h_x2 : xs 2 = x2) (q1_x2 : (0 : Int) ≤ x2.toInt) (q2_x2 : x2.toInt ≤ (19 : Int)) {x3 : Int32} (h_x3 : xs 3 = x3) (q1_x3 : (18 : Int) ≤ x3.toInt) (q2_x3 : x3.toInt ≤ (2147483647 : Int)) {x4 : Int32} (h_x4 : xs 4 = x4) (q1_x4 : (-2147483648 : Int) ≤ x4.toInt) (q2_x4 : x4.toInt ≤ (2147483647 : Int)) {x5 : Int32} (h_x5 : xs 5 = x5) (q1_x5 : (-2147483648 : Int) ≤ x5.toInt) (q2_x5 : x5.toInt ≤ (2147483647 : Int)) (kk : ∀ σ', zx p l e room_1 s m args below meth c g 8 600002 7302232 Q σ' 1395 [(4, .int 0), (0, .ref bS)] []) : zx p l e room_1 s m args below meth c g 8 500 100000 Q σ 148 [(4, .int 0), (3, .ref (b + 431)), (2, .ref (b + 405)), (1, .ref (b + 0)), (0, .ref bS)] [] := by
  have hK := fz_lay hF
  refine z_eqs (σ' := (ap b σ [] [] [])) rfl ?_
  refine z_aload_n B dL_law_148 rfl 3 rfl ?_
  refine z_aload_n B dL_law_149 rfl 4 rfl ?_
  refine z_iload B dL_law_150 0 rfl ?_
  refine z_iconst (v := 1) B dL_law_152 (by decide) ?_
  refine z_iadd B dL_law_153 ?_
  refine z_seti (y := 1) (by decide) ?_
  refine z_sld (j := 1) (x := 1) B hX hbl hbA (by decide) (show ¬ ((1 : Int32) < 0 ∨ 6 ≤ (1 : Int32).toNatClampNeg) by decide) h_x1 dL_law_154 ?_
  refine z_aload_n B dL_law_155 rfl 4 rfl ?_
  refine z_iload B dL_law_156 0 rfl ?_
  refine z_iconst (v := 2) B dL_law_158 (by decide) ?_
  refine z_iadd B dL_law_159 ?_
  refine z_seti (y := 2) (by decide) ?_
  refine z_sld (j := 2) (x := x2) B hX hbl hbA (by decide) (show ¬ ((2 : Int32) < 0 ∨ 6 ≤ (2 : Int32).toNatClampNeg) by decide) h_x2 dL_law_160 ?_
  refine z_aload_n B dL_law_161 rfl 4 rfl ?_
  refine z_iload B dL_law_162 0 rfl ?_
  refine z_iconst (v := 3) B dL_law_164 (by decide) ?_
  refine z_iadd B dL_law_165 ?_
  refine z_seti (y := 3) (by decide) ?_
  refine z_sld (j := 3) (x := x3) B hX hbl hbA (by decide) (show ¬ ((3 : Int32) < 0 ∨ 6 ≤ (3 : Int32).toNatClampNeg) by decide) h_x3 dL_law_166 ?_
  refine z_aload_n B dL_law_167 rfl 4 rfl ?_
  refine z_iload B dL_law_168 0 rfl ?_
  refine z_iconst (v := 4) B dL_law_170 (by decide) ?_
  refine z_iadd B dL_law_171 ?_
  refine z_seti (y := 4) (by decide) ?_
  refine z_sld (j := 4) (x := x4) B hX hbl hbA (by decide) (show ¬ ((4 : Int32) < 0 ∨ 6 ≤ (4 : Int32).toNatClampNeg) by decide) h_x4 dL_law_172 ?_
  refine z_aload_n B dL_law_173 rfl 4 rfl ?_
  refine z_iload B dL_law_174 0 rfl ?_
  refine z_iconst (v := 5) B dL_law_176 (by decide) ?_
  refine z_iadd B dL_law_177 ?_
  refine z_seti (y := 5) (by decide) ?_
  refine z_sld (j := 5) (x := x5) B hX hbl hbA (by decide) (show ¬ ((5 : Int32) < 0 ∨ 6 ≤ (5 : Int32).toNatClampNeg) by decide) h_x5 dL_law_178 ?_
  refine z_aload_n B dL_law_179 rfl 1 rfl ?_
  refine z_cSWi (As := [.ref (b + 0), .int 1, .int x2, .int x3, .int x4, .int x5, .ref (b + 431)]) (rest := []) B cw_L_74 dL_law_180 (ci_L_set_159 l hlt (σ := (ap b σ [] [] [])) (b := b) (lyA hK) x2 x3 x4 x5 q1_x2 q2_x2 q1_x3 q2_x3 (rR_at 0 0 (fz_R hF 0 0 rfl rfl)) (rR_at 1 1 (fz_R hF 1 1 rfl rfl))) rfl (by decide) rfl (Nat.le_of_ble_eq_true rfl) (by decide) (fun r u hu => ?_)
  obtain ⟨hu1, z, hu⟩ := hu
  refine z_eqs (σ' := (ap b (wx_Z σ z) [] [] [])) (hu.trans az_ap) ?_
  show zx p l e _ s m _ below meth c g 8 _ _ _ _ 183 [(4, .int 0), (3, .ref (b + 431)), (2, .ref (b + 405)), (1, .ref (b + 0)), (0, .ref bS)] _
  refine z_seti (y := 2) hu1 ?_
  refine z_istore (lv' := [(5, .int 2), (4, .int 0), (3, .ref (b + 431)), (2, .ref (b + 405)), (1, .ref (b + 0)), (0, .ref bS)]) B dL_law_183 (by decide) rfl ?_
  refine z_aload_n B dL_law_185 rfl 3 rfl ?_
  refine z_aload_n B dL_law_186 rfl 5 rfl ?_
  refine z_iload B dL_law_187 1 rfl ?_
  refine z_iconst (v := 1) B dL_law_189 (by decide) ?_
  refine z_iadd B dL_law_190 ?_
  refine z_seti (y := 1) (by decide) ?_
  refine z_sld (j := 1) (x := 1) B hX hbl hbA (by decide) (show ¬ ((1 : Int32) < 0 ∨ 6 ≤ (1 : Int32).toNatClampNeg) by decide) h_x1 dL_law_191 ?_
  refine z_aload_n B dL_law_192 rfl 5 rfl ?_
  refine z_iload B dL_law_193 1 rfl ?_
  refine z_iconst (v := 2) B dL_law_195 (by decide) ?_
  refine z_iadd B dL_law_196 ?_
  refine z_seti (y := 2) (by decide) ?_
  refine z_sld (j := 2) (x := x2) B hX hbl hbA (by decide) (show ¬ ((2 : Int32) < 0 ∨ 6 ≤ (2 : Int32).toNatClampNeg) by decide) h_x2 dL_law_197 ?_
  refine z_aload_n B dL_law_198 rfl 5 rfl ?_
  refine z_iload B dL_law_199 1 rfl ?_
  refine z_iconst (v := 3) B dL_law_201 (by decide) ?_
  refine z_iadd B dL_law_202 ?_
  refine z_seti (y := 3) (by decide) ?_
  refine z_sld (j := 3) (x := x3) B hX hbl hbA (by decide) (show ¬ ((3 : Int32) < 0 ∨ 6 ≤ (3 : Int32).toNatClampNeg) by decide) h_x3 dL_law_203 ?_
  refine z_aload_n B dL_law_204 rfl 5 rfl ?_
  refine z_iload B dL_law_205 1 rfl ?_
  refine z_iconst (v := 4) B dL_law_207 (by decide) ?_
  refine z_iadd B dL_law_208 ?_
  refine z_seti (y := 4) (by decide) ?_
  refine z_sld (j := 4) (x := x4) B hX hbl hbA (by decide) (show ¬ ((4 : Int32) < 0 ∨ 6 ≤ (4 : Int32).toNatClampNeg) by decide) h_x4 dL_law_209 ?_
  refine z_aload_n B dL_law_210 rfl 5 rfl ?_
  refine z_iload B dL_law_211 1 rfl ?_
  refine z_iconst (v := 5) B dL_law_213 (by decide) ?_
  refine z_iadd B dL_law_214 ?_
  refine z_seti (y := 5) (by decide) ?_
  refine z_sld (j := 5) (x := x5) B hX hbl hbA (by decide) (show ¬ ((5 : Int32) < 0 ∨ 6 ≤ (5 : Int32).toNatClampNeg) by decide) h_x5 dL_law_215 ?_
  refine z_cVi (As := [.int 1, .int x2, .int x3, .int x4, .int x5]) (rest := []) B cw_L_79 cx_10 dL_law_216 (ci_X9_set_160 l (σ := (ap b (wx_Z σ z) [] [] [])) (b := b) (lyA (lyZ hK)) x2 x3 x4 x5 q1_x2 q2_x2 q1_x3 q2_x3) (lKA (lKZ (hk_K hK 405 rfl rfl))) rfl (by decide) rfl (Nat.le_of_ble_eq_true rfl) (by decide) (fun r u hu => ?_)
  refine z_eqs (σ' := (ap b (wx_Z σ z) [(405, 0, 2)] [] [])) (hu.2.trans ap_ap) ?_
  show zx p l e _ s m _ below meth c g 8 _ _ _ _ 219 [(5, .int 2), (4, .int 0), (3, .ref (b + 431)), (2, .ref (b + 405)), (1, .ref (b + 0)), (0, .ref bS)] _
  refine z_seti (y := 0) hu.1 ?_
  refine z_istore (lv' := [(6, .int 0), (5, .int 2), (4, .int 0), (3, .ref (b + 431)), (2, .ref (b + 405)), (1, .ref (b + 0)), (0, .ref bS)]) B dL_law_219 (by decide) rfl ?_
  refine z_aload_n B dL_law_221 rfl 4 rfl ?_
  refine z_cVi (As := []) (rest := []) B cw_L_80 cx_10 dL_law_222 (ci_X9_thrown_73 l (σ := (ap b (wx_Z σ z) [(405, 0, 2)] [] [])) (b := b) (lyA (lyZ hK)) (rI_at 405 0 rfl)) (lKA (lKZ (hk_K hK 405 rfl rfl))) rfl (by decide) rfl (Nat.le_of_ble_eq_true rfl) (by decide) (fun r u hu => ?_)
  refine z_eqs (σ' := (ap b (wx_Z σ z) [(405, 0, 2)] [] [])) hu.2 ?_
  show zx p l e _ s m _ below meth c g 8 _ _ _ _ 225 [(6, .int 0), (5, .int 2), (4, .int 0), (3, .ref (b + 431)), (2, .ref (b + 405)), (1, .ref (b + 0)), (0, .ref bS)] _
  refine z_seti (y := 2) hu.1 ?_
  refine z_iload B dL_law_225 1 rfl ?_
  refine z_icmp_eq (tgt := 232) B dL_law_227 (by decide) (fun _ => ?_) (fun h => absurd (by decide) h)
  refine z_iload B dL_law_232 1 rfl ?_
  refine z_if_ne (tgt := 249) B dL_law_234 (by decide) (fun _ => ?_) (fun h => absurd h (by decide))
  refine z_goto (tgt := 1395) B dL_law_249 (by decide) ?_
  exact z_widen (Nat.le_of_ble_eq_true rfl) (Nat.le_of_ble_eq_true rfl) (z_sub _ [2, 6] rfl (kk _))
set_option maxRecDepth 100000 in
set_option maxHeartbeats 4000000 in
theorem lf_0_42 {p : Program} {l : Launch} {e : Env} {s : State} {m : MethodId} {args : Array Value} {below : List Frame} {meth : Method} {c : Code} {g : gx_T} {Q : State → Prop} {σ : sx_T} {b t bS : Nat} {xs : Nat → Int32} (hlt : l.stackTraces = false) (B : zx_B p s m args meth c code RL 8 g) (hX : va_X bS 6 xs s s.heap) (hbl : bS < s.heap.size) (hbA : ¬ gx_b g ≤ bS) (hF : fz_P b t σ) (h_x1 : xs 1 = 1) {x2 : Int32} (h_x2 : xs 2 = x2) (q1_x2 : (20 : Int) ≤ x2.toInt) (q2_x2 : x2.toInt ≤ (2147483647 : Int)) {x3 : Int32} (h_x3 : xs 3 = x3) (q1_x3 : (-2147483648 : Int) ≤ x3.toInt) (q2_x3 : x3.toInt ≤ (-1 : Int)) {x4 : Int32} (h_x4 : xs 4 = x4) (q1_x4 : (-2147483648 : Int) ≤ x4.toInt) (q2_x4 : x4.toInt ≤ (2147483647 : Int)) {x5 : Int32} (h_x5 : xs 5 = x5) (q1_x5 : (-2147483648 : Int) ≤ x5.toInt) (q2_x5 : x5.toInt ≤ (2147483647 : Int)) (kk : ∀ σ', zx p l e room_1 s m args below meth c g 8 600002 7302232 Q σ' 1395 [(4, .int 0), (0, .ref bS)] []) : zx p l e room_1 s m args below meth c g 8 500 100000 Q σ 148 [(4, .int 0), (3, .ref (b + 431)), (2, .ref (b + 405)), (1, .ref (b + 0)), (0, .ref bS)] [] := by
  have hK := fz_lay hF
  refine z_eqs (σ' := (ap b σ [] [] [])) rfl ?_
  refine z_aload_n B dL_law_148 rfl 3 rfl ?_
  refine z_aload_n B dL_law_149 rfl 4 rfl ?_
  refine z_iload B dL_law_150 0 rfl ?_
  refine z_iconst (v := 1) B dL_law_152 (by decide) ?_
  refine z_iadd B dL_law_153 ?_
  refine z_seti (y := 1) (by decide) ?_
  refine z_sld (j := 1) (x := 1) B hX hbl hbA (by decide) (show ¬ ((1 : Int32) < 0 ∨ 6 ≤ (1 : Int32).toNatClampNeg) by decide) h_x1 dL_law_154 ?_
  refine z_aload_n B dL_law_155 rfl 4 rfl ?_
  refine z_iload B dL_law_156 0 rfl ?_
  refine z_iconst (v := 2) B dL_law_158 (by decide) ?_
  refine z_iadd B dL_law_159 ?_
  refine z_seti (y := 2) (by decide) ?_
  refine z_sld (j := 2) (x := x2) B hX hbl hbA (by decide) (show ¬ ((2 : Int32) < 0 ∨ 6 ≤ (2 : Int32).toNatClampNeg) by decide) h_x2 dL_law_160 ?_
  refine z_aload_n B dL_law_161 rfl 4 rfl ?_
  refine z_iload B dL_law_162 0 rfl ?_
  refine z_iconst (v := 3) B dL_law_164 (by decide) ?_
  refine z_iadd B dL_law_165 ?_
  refine z_seti (y := 3) (by decide) ?_
  refine z_sld (j := 3) (x := x3) B hX hbl hbA (by decide) (show ¬ ((3 : Int32) < 0 ∨ 6 ≤ (3 : Int32).toNatClampNeg) by decide) h_x3 dL_law_166 ?_
  refine z_aload_n B dL_law_167 rfl 4 rfl ?_
  refine z_iload B dL_law_168 0 rfl ?_
  refine z_iconst (v := 4) B dL_law_170 (by decide) ?_
  refine z_iadd B dL_law_171 ?_
  refine z_seti (y := 4) (by decide) ?_
  refine z_sld (j := 4) (x := x4) B hX hbl hbA (by decide) (show ¬ ((4 : Int32) < 0 ∨ 6 ≤ (4 : Int32).toNatClampNeg) by decide) h_x4 dL_law_172 ?_
  refine z_aload_n B dL_law_173 rfl 4 rfl ?_
  refine z_iload B dL_law_174 0 rfl ?_
  refine z_iconst (v := 5) B dL_law_176 (by decide) ?_
  refine z_iadd B dL_law_177 ?_
  refine z_seti (y := 5) (by decide) ?_
  refine z_sld (j := 5) (x := x5) B hX hbl hbA (by decide) (show ¬ ((5 : Int32) < 0 ∨ 6 ≤ (5 : Int32).toNatClampNeg) by decide) h_x5 dL_law_178 ?_
  refine z_aload_n B dL_law_179 rfl 1 rfl ?_
  refine z_cSWi (As := [.ref (b + 0), .int 1, .int x2, .int x3, .int x4, .int x5, .ref (b + 431)]) (rest := []) B cw_L_74 dL_law_180 (ci_L_set_162 l hlt (σ := (ap b σ [] [] [])) (b := b) (lyA hK) x2 x3 x4 x5 q1_x2 q2_x2 (rR_at 0 0 (fz_R hF 0 0 rfl rfl)) (rR_at 1 1 (fz_R hF 1 1 rfl rfl))) rfl (by decide) rfl (Nat.le_of_ble_eq_true rfl) (by decide) (fun r u hu => ?_)
  obtain ⟨hu1, z, hu⟩ := hu
  refine z_eqs (σ' := (ap b (wx_Z σ z) [] [] [])) (hu.trans az_ap) ?_
  show zx p l e _ s m _ below meth c g 8 _ _ _ _ 183 [(4, .int 0), (3, .ref (b + 431)), (2, .ref (b + 405)), (1, .ref (b + 0)), (0, .ref bS)] _
  refine z_seti (y := 1) hu1 ?_
  refine z_istore (lv' := [(5, .int 1), (4, .int 0), (3, .ref (b + 431)), (2, .ref (b + 405)), (1, .ref (b + 0)), (0, .ref bS)]) B dL_law_183 (by decide) rfl ?_
  refine z_aload_n B dL_law_185 rfl 3 rfl ?_
  refine z_aload_n B dL_law_186 rfl 5 rfl ?_
  refine z_iload B dL_law_187 1 rfl ?_
  refine z_iconst (v := 1) B dL_law_189 (by decide) ?_
  refine z_iadd B dL_law_190 ?_
  refine z_seti (y := 1) (by decide) ?_
  refine z_sld (j := 1) (x := 1) B hX hbl hbA (by decide) (show ¬ ((1 : Int32) < 0 ∨ 6 ≤ (1 : Int32).toNatClampNeg) by decide) h_x1 dL_law_191 ?_
  refine z_aload_n B dL_law_192 rfl 5 rfl ?_
  refine z_iload B dL_law_193 1 rfl ?_
  refine z_iconst (v := 2) B dL_law_195 (by decide) ?_
  refine z_iadd B dL_law_196 ?_
  refine z_seti (y := 2) (by decide) ?_
  refine z_sld (j := 2) (x := x2) B hX hbl hbA (by decide) (show ¬ ((2 : Int32) < 0 ∨ 6 ≤ (2 : Int32).toNatClampNeg) by decide) h_x2 dL_law_197 ?_
  refine z_aload_n B dL_law_198 rfl 5 rfl ?_
  refine z_iload B dL_law_199 1 rfl ?_
  refine z_iconst (v := 3) B dL_law_201 (by decide) ?_
  refine z_iadd B dL_law_202 ?_
  refine z_seti (y := 3) (by decide) ?_
  refine z_sld (j := 3) (x := x3) B hX hbl hbA (by decide) (show ¬ ((3 : Int32) < 0 ∨ 6 ≤ (3 : Int32).toNatClampNeg) by decide) h_x3 dL_law_203 ?_
  refine z_aload_n B dL_law_204 rfl 5 rfl ?_
  refine z_iload B dL_law_205 1 rfl ?_
  refine z_iconst (v := 4) B dL_law_207 (by decide) ?_
  refine z_iadd B dL_law_208 ?_
  refine z_seti (y := 4) (by decide) ?_
  refine z_sld (j := 4) (x := x4) B hX hbl hbA (by decide) (show ¬ ((4 : Int32) < 0 ∨ 6 ≤ (4 : Int32).toNatClampNeg) by decide) h_x4 dL_law_209 ?_
  refine z_aload_n B dL_law_210 rfl 5 rfl ?_
  refine z_iload B dL_law_211 1 rfl ?_
  refine z_iconst (v := 5) B dL_law_213 (by decide) ?_
  refine z_iadd B dL_law_214 ?_
  refine z_seti (y := 5) (by decide) ?_
  refine z_sld (j := 5) (x := x5) B hX hbl hbA (by decide) (show ¬ ((5 : Int32) < 0 ∨ 6 ≤ (5 : Int32).toNatClampNeg) by decide) h_x5 dL_law_215 ?_
  refine z_cVi (As := [.int 1, .int x2, .int x3, .int x4, .int x5]) (rest := []) B cw_L_79 cx_10 dL_law_216 (ci_X9_set_164 l (σ := (ap b (wx_Z σ z) [] [] [])) (b := b) (lyA (lyZ hK)) x2 x3 x4 x5 q1_x2 q2_x2 q1_x3 q2_x3) (lKA (lKZ (hk_K hK 405 rfl rfl))) rfl (by decide) rfl (Nat.le_of_ble_eq_true rfl) (by decide) (fun r u hu => ?_)
  refine z_eqs (σ' := (ap b (wx_Z σ z) [(405, 0, 1)] [] [])) (hu.2.trans ap_ap) ?_
  show zx p l e _ s m _ below meth c g 8 _ _ _ _ 219 [(5, .int 1), (4, .int 0), (3, .ref (b + 431)), (2, .ref (b + 405)), (1, .ref (b + 0)), (0, .ref bS)] _
  refine z_seti (y := 0) hu.1 ?_
  refine z_istore (lv' := [(6, .int 0), (5, .int 1), (4, .int 0), (3, .ref (b + 431)), (2, .ref (b + 405)), (1, .ref (b + 0)), (0, .ref bS)]) B dL_law_219 (by decide) rfl ?_
  refine z_aload_n B dL_law_221 rfl 4 rfl ?_
  refine z_cVi (As := []) (rest := []) B cw_L_80 cx_10 dL_law_222 (ci_X9_thrown_31 l (σ := (ap b (wx_Z σ z) [(405, 0, 1)] [] [])) (b := b) (lyA (lyZ hK)) (rI_at 405 0 rfl)) (lKA (lKZ (hk_K hK 405 rfl rfl))) rfl (by decide) rfl (Nat.le_of_ble_eq_true rfl) (by decide) (fun r u hu => ?_)
  refine z_eqs (σ' := (ap b (wx_Z σ z) [(405, 0, 1)] [] [])) hu.2 ?_
  show zx p l e _ s m _ below meth c g 8 _ _ _ _ 225 [(6, .int 0), (5, .int 1), (4, .int 0), (3, .ref (b + 431)), (2, .ref (b + 405)), (1, .ref (b + 0)), (0, .ref bS)] _
  refine z_seti (y := 1) hu.1 ?_
  refine z_iload B dL_law_225 1 rfl ?_
  refine z_icmp_eq (tgt := 232) B dL_law_227 (by decide) (fun _ => ?_) (fun h => absurd (by decide) h)
  refine z_iload B dL_law_232 1 rfl ?_
  refine z_if_ne (tgt := 249) B dL_law_234 (by decide) (fun _ => ?_) (fun h => absurd h (by decide))
  refine z_goto (tgt := 1395) B dL_law_249 (by decide) ?_
  exact z_widen (Nat.le_of_ble_eq_true rfl) (Nat.le_of_ble_eq_true rfl) (z_sub _ [2, 6] rfl (kk _))
set_option maxRecDepth 100000 in
set_option maxHeartbeats 4000000 in
theorem lf_0_43 {p : Program} {l : Launch} {e : Env} {s : State} {m : MethodId} {args : Array Value} {below : List Frame} {meth : Method} {c : Code} {g : gx_T} {Q : State → Prop} {σ : sx_T} {b t bS : Nat} {xs : Nat → Int32} (hlt : l.stackTraces = false) (B : zx_B p s m args meth c code RL 8 g) (hX : va_X bS 6 xs s s.heap) (hbl : bS < s.heap.size) (hbA : ¬ gx_b g ≤ bS) (hF : fz_P b t σ) (h_x1 : xs 1 = 1) {x2 : Int32} (h_x2 : xs 2 = x2) (q1_x2 : (20 : Int) ≤ x2.toInt) (q2_x2 : x2.toInt ≤ (2147483647 : Int)) {x3 : Int32} (h_x3 : xs 3 = x3) (q1_x3 : (0 : Int) ≤ x3.toInt) (q2_x3 : x3.toInt ≤ (17 : Int)) {x4 : Int32} (h_x4 : xs 4 = x4) (q1_x4 : (-2147483648 : Int) ≤ x4.toInt) (q2_x4 : x4.toInt ≤ (-1 : Int)) {x5 : Int32} (h_x5 : xs 5 = x5) (q1_x5 : (-2147483648 : Int) ≤ x5.toInt) (q2_x5 : x5.toInt ≤ (2147483647 : Int)) (kk : ∀ σ', zx p l e room_1 s m args below meth c g 8 600002 7302232 Q σ' 1395 [(4, .int 0), (0, .ref bS)] []) : zx p l e room_1 s m args below meth c g 8 500 100000 Q σ 148 [(4, .int 0), (3, .ref (b + 431)), (2, .ref (b + 405)), (1, .ref (b + 0)), (0, .ref bS)] [] := by
  have hK := fz_lay hF
  refine z_eqs (σ' := (ap b σ [] [] [])) rfl ?_
  refine z_aload_n B dL_law_148 rfl 3 rfl ?_
  refine z_aload_n B dL_law_149 rfl 4 rfl ?_
  refine z_iload B dL_law_150 0 rfl ?_
  refine z_iconst (v := 1) B dL_law_152 (by decide) ?_
  refine z_iadd B dL_law_153 ?_
  refine z_seti (y := 1) (by decide) ?_
  refine z_sld (j := 1) (x := 1) B hX hbl hbA (by decide) (show ¬ ((1 : Int32) < 0 ∨ 6 ≤ (1 : Int32).toNatClampNeg) by decide) h_x1 dL_law_154 ?_
  refine z_aload_n B dL_law_155 rfl 4 rfl ?_
  refine z_iload B dL_law_156 0 rfl ?_
  refine z_iconst (v := 2) B dL_law_158 (by decide) ?_
  refine z_iadd B dL_law_159 ?_
  refine z_seti (y := 2) (by decide) ?_
  refine z_sld (j := 2) (x := x2) B hX hbl hbA (by decide) (show ¬ ((2 : Int32) < 0 ∨ 6 ≤ (2 : Int32).toNatClampNeg) by decide) h_x2 dL_law_160 ?_
  refine z_aload_n B dL_law_161 rfl 4 rfl ?_
  refine z_iload B dL_law_162 0 rfl ?_
  refine z_iconst (v := 3) B dL_law_164 (by decide) ?_
  refine z_iadd B dL_law_165 ?_
  refine z_seti (y := 3) (by decide) ?_
  refine z_sld (j := 3) (x := x3) B hX hbl hbA (by decide) (show ¬ ((3 : Int32) < 0 ∨ 6 ≤ (3 : Int32).toNatClampNeg) by decide) h_x3 dL_law_166 ?_
  refine z_aload_n B dL_law_167 rfl 4 rfl ?_
  refine z_iload B dL_law_168 0 rfl ?_
  refine z_iconst (v := 4) B dL_law_170 (by decide) ?_
  refine z_iadd B dL_law_171 ?_
  refine z_seti (y := 4) (by decide) ?_
  refine z_sld (j := 4) (x := x4) B hX hbl hbA (by decide) (show ¬ ((4 : Int32) < 0 ∨ 6 ≤ (4 : Int32).toNatClampNeg) by decide) h_x4 dL_law_172 ?_
  refine z_aload_n B dL_law_173 rfl 4 rfl ?_
  refine z_iload B dL_law_174 0 rfl ?_
  refine z_iconst (v := 5) B dL_law_176 (by decide) ?_
  refine z_iadd B dL_law_177 ?_
  refine z_seti (y := 5) (by decide) ?_
  refine z_sld (j := 5) (x := x5) B hX hbl hbA (by decide) (show ¬ ((5 : Int32) < 0 ∨ 6 ≤ (5 : Int32).toNatClampNeg) by decide) h_x5 dL_law_178 ?_
  refine z_aload_n B dL_law_179 rfl 1 rfl ?_
  refine z_cSWi (As := [.ref (b + 0), .int 1, .int x2, .int x3, .int x4, .int x5, .ref (b + 431)]) (rest := []) B cw_L_74 dL_law_180 (ci_L_set_162 l hlt (σ := (ap b σ [] [] [])) (b := b) (lyA hK) x2 x3 x4 x5 q1_x2 q2_x2 (rR_at 0 0 (fz_R hF 0 0 rfl rfl)) (rR_at 1 1 (fz_R hF 1 1 rfl rfl))) rfl (by decide) rfl (Nat.le_of_ble_eq_true rfl) (by decide) (fun r u hu => ?_)
  obtain ⟨hu1, z, hu⟩ := hu
  refine z_eqs (σ' := (ap b (wx_Z σ z) [] [] [])) (hu.trans az_ap) ?_
  show zx p l e _ s m _ below meth c g 8 _ _ _ _ 183 [(4, .int 0), (3, .ref (b + 431)), (2, .ref (b + 405)), (1, .ref (b + 0)), (0, .ref bS)] _
  refine z_seti (y := 1) hu1 ?_
  refine z_istore (lv' := [(5, .int 1), (4, .int 0), (3, .ref (b + 431)), (2, .ref (b + 405)), (1, .ref (b + 0)), (0, .ref bS)]) B dL_law_183 (by decide) rfl ?_
  refine z_aload_n B dL_law_185 rfl 3 rfl ?_
  refine z_aload_n B dL_law_186 rfl 5 rfl ?_
  refine z_iload B dL_law_187 1 rfl ?_
  refine z_iconst (v := 1) B dL_law_189 (by decide) ?_
  refine z_iadd B dL_law_190 ?_
  refine z_seti (y := 1) (by decide) ?_
  refine z_sld (j := 1) (x := 1) B hX hbl hbA (by decide) (show ¬ ((1 : Int32) < 0 ∨ 6 ≤ (1 : Int32).toNatClampNeg) by decide) h_x1 dL_law_191 ?_
  refine z_aload_n B dL_law_192 rfl 5 rfl ?_
  refine z_iload B dL_law_193 1 rfl ?_
  refine z_iconst (v := 2) B dL_law_195 (by decide) ?_
  refine z_iadd B dL_law_196 ?_
  refine z_seti (y := 2) (by decide) ?_
  refine z_sld (j := 2) (x := x2) B hX hbl hbA (by decide) (show ¬ ((2 : Int32) < 0 ∨ 6 ≤ (2 : Int32).toNatClampNeg) by decide) h_x2 dL_law_197 ?_
  refine z_aload_n B dL_law_198 rfl 5 rfl ?_
  refine z_iload B dL_law_199 1 rfl ?_
  refine z_iconst (v := 3) B dL_law_201 (by decide) ?_
  refine z_iadd B dL_law_202 ?_
  refine z_seti (y := 3) (by decide) ?_
  refine z_sld (j := 3) (x := x3) B hX hbl hbA (by decide) (show ¬ ((3 : Int32) < 0 ∨ 6 ≤ (3 : Int32).toNatClampNeg) by decide) h_x3 dL_law_203 ?_
  refine z_aload_n B dL_law_204 rfl 5 rfl ?_
  refine z_iload B dL_law_205 1 rfl ?_
  refine z_iconst (v := 4) B dL_law_207 (by decide) ?_
  refine z_iadd B dL_law_208 ?_
  refine z_seti (y := 4) (by decide) ?_
  refine z_sld (j := 4) (x := x4) B hX hbl hbA (by decide) (show ¬ ((4 : Int32) < 0 ∨ 6 ≤ (4 : Int32).toNatClampNeg) by decide) h_x4 dL_law_209 ?_
  refine z_aload_n B dL_law_210 rfl 5 rfl ?_
  refine z_iload B dL_law_211 1 rfl ?_
  refine z_iconst (v := 5) B dL_law_213 (by decide) ?_
  refine z_iadd B dL_law_214 ?_
  refine z_seti (y := 5) (by decide) ?_
  refine z_sld (j := 5) (x := x5) B hX hbl hbA (by decide) (show ¬ ((5 : Int32) < 0 ∨ 6 ≤ (5 : Int32).toNatClampNeg) by decide) h_x5 dL_law_215 ?_
  refine z_cVi (As := [.int 1, .int x2, .int x3, .int x4, .int x5]) (rest := []) B cw_L_79 cx_10 dL_law_216 (ci_X9_set_165 l (σ := (ap b (wx_Z σ z) [] [] [])) (b := b) (lyA (lyZ hK)) x2 x3 x4 x5 q1_x2 q2_x2 q1_x3 q2_x3 q1_x4 q2_x4) (lKA (lKZ (hk_K hK 405 rfl rfl))) rfl (by decide) rfl (Nat.le_of_ble_eq_true rfl) (by decide) (fun r u hu => ?_)
  refine z_eqs (σ' := (ap b (wx_Z σ z) [(405, 0, 1)] [] [])) (hu.2.trans ap_ap) ?_
  show zx p l e _ s m _ below meth c g 8 _ _ _ _ 219 [(5, .int 1), (4, .int 0), (3, .ref (b + 431)), (2, .ref (b + 405)), (1, .ref (b + 0)), (0, .ref bS)] _
  refine z_seti (y := 0) hu.1 ?_
  refine z_istore (lv' := [(6, .int 0), (5, .int 1), (4, .int 0), (3, .ref (b + 431)), (2, .ref (b + 405)), (1, .ref (b + 0)), (0, .ref bS)]) B dL_law_219 (by decide) rfl ?_
  refine z_aload_n B dL_law_221 rfl 4 rfl ?_
  refine z_cVi (As := []) (rest := []) B cw_L_80 cx_10 dL_law_222 (ci_X9_thrown_31 l (σ := (ap b (wx_Z σ z) [(405, 0, 1)] [] [])) (b := b) (lyA (lyZ hK)) (rI_at 405 0 rfl)) (lKA (lKZ (hk_K hK 405 rfl rfl))) rfl (by decide) rfl (Nat.le_of_ble_eq_true rfl) (by decide) (fun r u hu => ?_)
  refine z_eqs (σ' := (ap b (wx_Z σ z) [(405, 0, 1)] [] [])) hu.2 ?_
  show zx p l e _ s m _ below meth c g 8 _ _ _ _ 225 [(6, .int 0), (5, .int 1), (4, .int 0), (3, .ref (b + 431)), (2, .ref (b + 405)), (1, .ref (b + 0)), (0, .ref bS)] _
  refine z_seti (y := 1) hu.1 ?_
  refine z_iload B dL_law_225 1 rfl ?_
  refine z_icmp_eq (tgt := 232) B dL_law_227 (by decide) (fun _ => ?_) (fun h => absurd (by decide) h)
  refine z_iload B dL_law_232 1 rfl ?_
  refine z_if_ne (tgt := 249) B dL_law_234 (by decide) (fun _ => ?_) (fun h => absurd h (by decide))
  refine z_goto (tgt := 1395) B dL_law_249 (by decide) ?_
  exact z_widen (Nat.le_of_ble_eq_true rfl) (Nat.le_of_ble_eq_true rfl) (z_sub _ [2, 6] rfl (kk _))
set_option maxRecDepth 100000 in
set_option maxHeartbeats 4000000 in
theorem lf_0_44 {p : Program} {l : Launch} {e : Env} {s : State} {m : MethodId} {args : Array Value} {below : List Frame} {meth : Method} {c : Code} {g : gx_T} {Q : State → Prop} {σ : sx_T} {b t bS : Nat} {xs : Nat → Int32} (hlt : l.stackTraces = false) (B : zx_B p s m args meth c code RL 8 g) (hX : va_X bS 6 xs s s.heap) (hbl : bS < s.heap.size) (hbA : ¬ gx_b g ≤ bS) (hF : fz_P b t σ) (h_x1 : xs 1 = 1) {x2 : Int32} (h_x2 : xs 2 = x2) (q1_x2 : (20 : Int) ≤ x2.toInt) (q2_x2 : x2.toInt ≤ (2147483647 : Int)) {x3 : Int32} (h_x3 : xs 3 = x3) (q1_x3 : (0 : Int) ≤ x3.toInt) (q2_x3 : x3.toInt ≤ (17 : Int)) {x4 : Int32} (h_x4 : xs 4 = x4) (q1_x4 : (0 : Int) ≤ x4.toInt) (q2_x4 : x4.toInt ≤ (99 : Int)) {x5 : Int32} (h_x5 : xs 5 = x5) (q1_x5 : (-2147483648 : Int) ≤ x5.toInt) (q2_x5 : x5.toInt ≤ (-1 : Int)) (kk : ∀ σ', zx p l e room_1 s m args below meth c g 8 600002 7302232 Q σ' 1395 [(4, .int 0), (0, .ref bS)] []) : zx p l e room_1 s m args below meth c g 8 500 100000 Q σ 148 [(4, .int 0), (3, .ref (b + 431)), (2, .ref (b + 405)), (1, .ref (b + 0)), (0, .ref bS)] [] := by
  have hK := fz_lay hF
  refine z_eqs (σ' := (ap b σ [] [] [])) rfl ?_
  refine z_aload_n B dL_law_148 rfl 3 rfl ?_
  refine z_aload_n B dL_law_149 rfl 4 rfl ?_
  refine z_iload B dL_law_150 0 rfl ?_
  refine z_iconst (v := 1) B dL_law_152 (by decide) ?_
  refine z_iadd B dL_law_153 ?_
  refine z_seti (y := 1) (by decide) ?_
  refine z_sld (j := 1) (x := 1) B hX hbl hbA (by decide) (show ¬ ((1 : Int32) < 0 ∨ 6 ≤ (1 : Int32).toNatClampNeg) by decide) h_x1 dL_law_154 ?_
  refine z_aload_n B dL_law_155 rfl 4 rfl ?_
  refine z_iload B dL_law_156 0 rfl ?_
  refine z_iconst (v := 2) B dL_law_158 (by decide) ?_
  refine z_iadd B dL_law_159 ?_
  refine z_seti (y := 2) (by decide) ?_
  refine z_sld (j := 2) (x := x2) B hX hbl hbA (by decide) (show ¬ ((2 : Int32) < 0 ∨ 6 ≤ (2 : Int32).toNatClampNeg) by decide) h_x2 dL_law_160 ?_
  refine z_aload_n B dL_law_161 rfl 4 rfl ?_
  refine z_iload B dL_law_162 0 rfl ?_
  refine z_iconst (v := 3) B dL_law_164 (by decide) ?_
  refine z_iadd B dL_law_165 ?_
  refine z_seti (y := 3) (by decide) ?_
  refine z_sld (j := 3) (x := x3) B hX hbl hbA (by decide) (show ¬ ((3 : Int32) < 0 ∨ 6 ≤ (3 : Int32).toNatClampNeg) by decide) h_x3 dL_law_166 ?_
  refine z_aload_n B dL_law_167 rfl 4 rfl ?_
  refine z_iload B dL_law_168 0 rfl ?_
  refine z_iconst (v := 4) B dL_law_170 (by decide) ?_
  refine z_iadd B dL_law_171 ?_
  refine z_seti (y := 4) (by decide) ?_
  refine z_sld (j := 4) (x := x4) B hX hbl hbA (by decide) (show ¬ ((4 : Int32) < 0 ∨ 6 ≤ (4 : Int32).toNatClampNeg) by decide) h_x4 dL_law_172 ?_
  refine z_aload_n B dL_law_173 rfl 4 rfl ?_
  refine z_iload B dL_law_174 0 rfl ?_
  refine z_iconst (v := 5) B dL_law_176 (by decide) ?_
  refine z_iadd B dL_law_177 ?_
  refine z_seti (y := 5) (by decide) ?_
  refine z_sld (j := 5) (x := x5) B hX hbl hbA (by decide) (show ¬ ((5 : Int32) < 0 ∨ 6 ≤ (5 : Int32).toNatClampNeg) by decide) h_x5 dL_law_178 ?_
  refine z_aload_n B dL_law_179 rfl 1 rfl ?_
  refine z_cSWi (As := [.ref (b + 0), .int 1, .int x2, .int x3, .int x4, .int x5, .ref (b + 431)]) (rest := []) B cw_L_74 dL_law_180 (ci_L_set_162 l hlt (σ := (ap b σ [] [] [])) (b := b) (lyA hK) x2 x3 x4 x5 q1_x2 q2_x2 (rR_at 0 0 (fz_R hF 0 0 rfl rfl)) (rR_at 1 1 (fz_R hF 1 1 rfl rfl))) rfl (by decide) rfl (Nat.le_of_ble_eq_true rfl) (by decide) (fun r u hu => ?_)
  obtain ⟨hu1, z, hu⟩ := hu
  refine z_eqs (σ' := (ap b (wx_Z σ z) [] [] [])) (hu.trans az_ap) ?_
  show zx p l e _ s m _ below meth c g 8 _ _ _ _ 183 [(4, .int 0), (3, .ref (b + 431)), (2, .ref (b + 405)), (1, .ref (b + 0)), (0, .ref bS)] _
  refine z_seti (y := 1) hu1 ?_
  refine z_istore (lv' := [(5, .int 1), (4, .int 0), (3, .ref (b + 431)), (2, .ref (b + 405)), (1, .ref (b + 0)), (0, .ref bS)]) B dL_law_183 (by decide) rfl ?_
  refine z_aload_n B dL_law_185 rfl 3 rfl ?_
  refine z_aload_n B dL_law_186 rfl 5 rfl ?_
  refine z_iload B dL_law_187 1 rfl ?_
  refine z_iconst (v := 1) B dL_law_189 (by decide) ?_
  refine z_iadd B dL_law_190 ?_
  refine z_seti (y := 1) (by decide) ?_
  refine z_sld (j := 1) (x := 1) B hX hbl hbA (by decide) (show ¬ ((1 : Int32) < 0 ∨ 6 ≤ (1 : Int32).toNatClampNeg) by decide) h_x1 dL_law_191 ?_
  refine z_aload_n B dL_law_192 rfl 5 rfl ?_
  refine z_iload B dL_law_193 1 rfl ?_
  refine z_iconst (v := 2) B dL_law_195 (by decide) ?_
  refine z_iadd B dL_law_196 ?_
  refine z_seti (y := 2) (by decide) ?_
  refine z_sld (j := 2) (x := x2) B hX hbl hbA (by decide) (show ¬ ((2 : Int32) < 0 ∨ 6 ≤ (2 : Int32).toNatClampNeg) by decide) h_x2 dL_law_197 ?_
  refine z_aload_n B dL_law_198 rfl 5 rfl ?_
  refine z_iload B dL_law_199 1 rfl ?_
  refine z_iconst (v := 3) B dL_law_201 (by decide) ?_
  refine z_iadd B dL_law_202 ?_
  refine z_seti (y := 3) (by decide) ?_
  refine z_sld (j := 3) (x := x3) B hX hbl hbA (by decide) (show ¬ ((3 : Int32) < 0 ∨ 6 ≤ (3 : Int32).toNatClampNeg) by decide) h_x3 dL_law_203 ?_
  refine z_aload_n B dL_law_204 rfl 5 rfl ?_
  refine z_iload B dL_law_205 1 rfl ?_
  refine z_iconst (v := 4) B dL_law_207 (by decide) ?_
  refine z_iadd B dL_law_208 ?_
  refine z_seti (y := 4) (by decide) ?_
  refine z_sld (j := 4) (x := x4) B hX hbl hbA (by decide) (show ¬ ((4 : Int32) < 0 ∨ 6 ≤ (4 : Int32).toNatClampNeg) by decide) h_x4 dL_law_209 ?_
  refine z_aload_n B dL_law_210 rfl 5 rfl ?_
  refine z_iload B dL_law_211 1 rfl ?_
  refine z_iconst (v := 5) B dL_law_213 (by decide) ?_
  refine z_iadd B dL_law_214 ?_
  refine z_seti (y := 5) (by decide) ?_
  refine z_sld (j := 5) (x := x5) B hX hbl hbA (by decide) (show ¬ ((5 : Int32) < 0 ∨ 6 ≤ (5 : Int32).toNatClampNeg) by decide) h_x5 dL_law_215 ?_
  refine z_cVi (As := [.int 1, .int x2, .int x3, .int x4, .int x5]) (rest := []) B cw_L_79 cx_10 dL_law_216 (ci_X9_set_166 l (σ := (ap b (wx_Z σ z) [] [] [])) (b := b) (lyA (lyZ hK)) x2 x3 x4 x5 q1_x2 q2_x2 q1_x3 q2_x3 q1_x4 q2_x4 q1_x5 q2_x5) (lKA (lKZ (hk_K hK 405 rfl rfl))) rfl (by decide) rfl (Nat.le_of_ble_eq_true rfl) (by decide) (fun r u hu => ?_)
  refine z_eqs (σ' := (ap b (wx_Z σ z) [(405, 0, 1)] [] [])) (hu.2.trans ap_ap) ?_
  show zx p l e _ s m _ below meth c g 8 _ _ _ _ 219 [(5, .int 1), (4, .int 0), (3, .ref (b + 431)), (2, .ref (b + 405)), (1, .ref (b + 0)), (0, .ref bS)] _
  refine z_seti (y := 0) hu.1 ?_
  refine z_istore (lv' := [(6, .int 0), (5, .int 1), (4, .int 0), (3, .ref (b + 431)), (2, .ref (b + 405)), (1, .ref (b + 0)), (0, .ref bS)]) B dL_law_219 (by decide) rfl ?_
  refine z_aload_n B dL_law_221 rfl 4 rfl ?_
  refine z_cVi (As := []) (rest := []) B cw_L_80 cx_10 dL_law_222 (ci_X9_thrown_31 l (σ := (ap b (wx_Z σ z) [(405, 0, 1)] [] [])) (b := b) (lyA (lyZ hK)) (rI_at 405 0 rfl)) (lKA (lKZ (hk_K hK 405 rfl rfl))) rfl (by decide) rfl (Nat.le_of_ble_eq_true rfl) (by decide) (fun r u hu => ?_)
  refine z_eqs (σ' := (ap b (wx_Z σ z) [(405, 0, 1)] [] [])) hu.2 ?_
  show zx p l e _ s m _ below meth c g 8 _ _ _ _ 225 [(6, .int 0), (5, .int 1), (4, .int 0), (3, .ref (b + 431)), (2, .ref (b + 405)), (1, .ref (b + 0)), (0, .ref bS)] _
  refine z_seti (y := 1) hu.1 ?_
  refine z_iload B dL_law_225 1 rfl ?_
  refine z_icmp_eq (tgt := 232) B dL_law_227 (by decide) (fun _ => ?_) (fun h => absurd (by decide) h)
  refine z_iload B dL_law_232 1 rfl ?_
  refine z_if_ne (tgt := 249) B dL_law_234 (by decide) (fun _ => ?_) (fun h => absurd h (by decide))
  refine z_goto (tgt := 1395) B dL_law_249 (by decide) ?_
  exact z_widen (Nat.le_of_ble_eq_true rfl) (Nat.le_of_ble_eq_true rfl) (z_sub _ [2, 6] rfl (kk _))
set_option maxRecDepth 100000 in
set_option maxHeartbeats 4000000 in
theorem lf_0_45 {p : Program} {l : Launch} {e : Env} {s : State} {m : MethodId} {args : Array Value} {below : List Frame} {meth : Method} {c : Code} {g : gx_T} {Q : State → Prop} {σ : sx_T} {b t bS : Nat} {xs : Nat → Int32} (hlt : l.stackTraces = false) (B : zx_B p s m args meth c code RL 8 g) (hX : va_X bS 6 xs s s.heap) (hbl : bS < s.heap.size) (hbA : ¬ gx_b g ≤ bS) (hF : fz_P b t σ) (h_x1 : xs 1 = 1) {x2 : Int32} (h_x2 : xs 2 = x2) (q1_x2 : (20 : Int) ≤ x2.toInt) (q2_x2 : x2.toInt ≤ (2147483647 : Int)) {x3 : Int32} (h_x3 : xs 3 = x3) (q1_x3 : (0 : Int) ≤ x3.toInt) (q2_x3 : x3.toInt ≤ (17 : Int)) {x4 : Int32} (h_x4 : xs 4 = x4) (q1_x4 : (0 : Int) ≤ x4.toInt) (q2_x4 : x4.toInt ≤ (99 : Int)) {x5 : Int32} (h_x5 : xs 5 = x5) (q1_x5 : (0 : Int) ≤ x5.toInt) (q2_x5 : x5.toInt ≤ (99 : Int)) (kk : ∀ σ', zx p l e room_1 s m args below meth c g 8 600002 7302232 Q σ' 1395 [(4, .int 0), (0, .ref bS)] []) : zx p l e room_1 s m args below meth c g 8 500 100000 Q σ 148 [(4, .int 0), (3, .ref (b + 431)), (2, .ref (b + 405)), (1, .ref (b + 0)), (0, .ref bS)] [] := by
  have hK := fz_lay hF
  refine z_eqs (σ' := (ap b σ [] [] [])) rfl ?_
  refine z_aload_n B dL_law_148 rfl 3 rfl ?_
  refine z_aload_n B dL_law_149 rfl 4 rfl ?_
  refine z_iload B dL_law_150 0 rfl ?_
  refine z_iconst (v := 1) B dL_law_152 (by decide) ?_
  refine z_iadd B dL_law_153 ?_
  refine z_seti (y := 1) (by decide) ?_
  refine z_sld (j := 1) (x := 1) B hX hbl hbA (by decide) (show ¬ ((1 : Int32) < 0 ∨ 6 ≤ (1 : Int32).toNatClampNeg) by decide) h_x1 dL_law_154 ?_
  refine z_aload_n B dL_law_155 rfl 4 rfl ?_
  refine z_iload B dL_law_156 0 rfl ?_
  refine z_iconst (v := 2) B dL_law_158 (by decide) ?_
  refine z_iadd B dL_law_159 ?_
  refine z_seti (y := 2) (by decide) ?_
  refine z_sld (j := 2) (x := x2) B hX hbl hbA (by decide) (show ¬ ((2 : Int32) < 0 ∨ 6 ≤ (2 : Int32).toNatClampNeg) by decide) h_x2 dL_law_160 ?_
  refine z_aload_n B dL_law_161 rfl 4 rfl ?_
  refine z_iload B dL_law_162 0 rfl ?_
  refine z_iconst (v := 3) B dL_law_164 (by decide) ?_
  refine z_iadd B dL_law_165 ?_
  refine z_seti (y := 3) (by decide) ?_
  refine z_sld (j := 3) (x := x3) B hX hbl hbA (by decide) (show ¬ ((3 : Int32) < 0 ∨ 6 ≤ (3 : Int32).toNatClampNeg) by decide) h_x3 dL_law_166 ?_
  refine z_aload_n B dL_law_167 rfl 4 rfl ?_
  refine z_iload B dL_law_168 0 rfl ?_
  refine z_iconst (v := 4) B dL_law_170 (by decide) ?_
  refine z_iadd B dL_law_171 ?_
  refine z_seti (y := 4) (by decide) ?_
  refine z_sld (j := 4) (x := x4) B hX hbl hbA (by decide) (show ¬ ((4 : Int32) < 0 ∨ 6 ≤ (4 : Int32).toNatClampNeg) by decide) h_x4 dL_law_172 ?_
  refine z_aload_n B dL_law_173 rfl 4 rfl ?_
  refine z_iload B dL_law_174 0 rfl ?_
  refine z_iconst (v := 5) B dL_law_176 (by decide) ?_
  refine z_iadd B dL_law_177 ?_
  refine z_seti (y := 5) (by decide) ?_
  refine z_sld (j := 5) (x := x5) B hX hbl hbA (by decide) (show ¬ ((5 : Int32) < 0 ∨ 6 ≤ (5 : Int32).toNatClampNeg) by decide) h_x5 dL_law_178 ?_
  refine z_aload_n B dL_law_179 rfl 1 rfl ?_
  refine z_cSWi (As := [.ref (b + 0), .int 1, .int x2, .int x3, .int x4, .int x5, .ref (b + 431)]) (rest := []) B cw_L_74 dL_law_180 (ci_L_set_162 l hlt (σ := (ap b σ [] [] [])) (b := b) (lyA hK) x2 x3 x4 x5 q1_x2 q2_x2 (rR_at 0 0 (fz_R hF 0 0 rfl rfl)) (rR_at 1 1 (fz_R hF 1 1 rfl rfl))) rfl (by decide) rfl (Nat.le_of_ble_eq_true rfl) (by decide) (fun r u hu => ?_)
  obtain ⟨hu1, z, hu⟩ := hu
  refine z_eqs (σ' := (ap b (wx_Z σ z) [] [] [])) (hu.trans az_ap) ?_
  show zx p l e _ s m _ below meth c g 8 _ _ _ _ 183 [(4, .int 0), (3, .ref (b + 431)), (2, .ref (b + 405)), (1, .ref (b + 0)), (0, .ref bS)] _
  refine z_seti (y := 1) hu1 ?_
  refine z_istore (lv' := [(5, .int 1), (4, .int 0), (3, .ref (b + 431)), (2, .ref (b + 405)), (1, .ref (b + 0)), (0, .ref bS)]) B dL_law_183 (by decide) rfl ?_
  refine z_aload_n B dL_law_185 rfl 3 rfl ?_
  refine z_aload_n B dL_law_186 rfl 5 rfl ?_
  refine z_iload B dL_law_187 1 rfl ?_
  refine z_iconst (v := 1) B dL_law_189 (by decide) ?_
  refine z_iadd B dL_law_190 ?_
  refine z_seti (y := 1) (by decide) ?_
  refine z_sld (j := 1) (x := 1) B hX hbl hbA (by decide) (show ¬ ((1 : Int32) < 0 ∨ 6 ≤ (1 : Int32).toNatClampNeg) by decide) h_x1 dL_law_191 ?_
  refine z_aload_n B dL_law_192 rfl 5 rfl ?_
  refine z_iload B dL_law_193 1 rfl ?_
  refine z_iconst (v := 2) B dL_law_195 (by decide) ?_
  refine z_iadd B dL_law_196 ?_
  refine z_seti (y := 2) (by decide) ?_
  refine z_sld (j := 2) (x := x2) B hX hbl hbA (by decide) (show ¬ ((2 : Int32) < 0 ∨ 6 ≤ (2 : Int32).toNatClampNeg) by decide) h_x2 dL_law_197 ?_
  refine z_aload_n B dL_law_198 rfl 5 rfl ?_
  refine z_iload B dL_law_199 1 rfl ?_
  refine z_iconst (v := 3) B dL_law_201 (by decide) ?_
  refine z_iadd B dL_law_202 ?_
  refine z_seti (y := 3) (by decide) ?_
  refine z_sld (j := 3) (x := x3) B hX hbl hbA (by decide) (show ¬ ((3 : Int32) < 0 ∨ 6 ≤ (3 : Int32).toNatClampNeg) by decide) h_x3 dL_law_203 ?_
  refine z_aload_n B dL_law_204 rfl 5 rfl ?_
  refine z_iload B dL_law_205 1 rfl ?_
  refine z_iconst (v := 4) B dL_law_207 (by decide) ?_
  refine z_iadd B dL_law_208 ?_
  refine z_seti (y := 4) (by decide) ?_
  refine z_sld (j := 4) (x := x4) B hX hbl hbA (by decide) (show ¬ ((4 : Int32) < 0 ∨ 6 ≤ (4 : Int32).toNatClampNeg) by decide) h_x4 dL_law_209 ?_
  refine z_aload_n B dL_law_210 rfl 5 rfl ?_
  refine z_iload B dL_law_211 1 rfl ?_
  refine z_iconst (v := 5) B dL_law_213 (by decide) ?_
  refine z_iadd B dL_law_214 ?_
  refine z_seti (y := 5) (by decide) ?_
  refine z_sld (j := 5) (x := x5) B hX hbl hbA (by decide) (show ¬ ((5 : Int32) < 0 ∨ 6 ≤ (5 : Int32).toNatClampNeg) by decide) h_x5 dL_law_215 ?_
  refine z_cVi (As := [.int 1, .int x2, .int x3, .int x4, .int x5]) (rest := []) B cw_L_79 cx_10 dL_law_216 (ci_X9_set_167 l (σ := (ap b (wx_Z σ z) [] [] [])) (b := b) (lyA (lyZ hK)) x2 x3 x4 x5 q1_x2 q2_x2 q1_x3 q2_x3 q1_x4 q2_x4 q1_x5 q2_x5) (lKA (lKZ (hk_K hK 405 rfl rfl))) rfl (by decide) rfl (Nat.le_of_ble_eq_true rfl) (by decide) (fun r u hu => ?_)
  refine z_eqs (σ' := (ap b (wx_Z σ z) [(405, 0, 1)] [] [])) (hu.2.trans ap_ap) ?_
  show zx p l e _ s m _ below meth c g 8 _ _ _ _ 219 [(5, .int 1), (4, .int 0), (3, .ref (b + 431)), (2, .ref (b + 405)), (1, .ref (b + 0)), (0, .ref bS)] _
  refine z_seti (y := 0) hu.1 ?_
  refine z_istore (lv' := [(6, .int 0), (5, .int 1), (4, .int 0), (3, .ref (b + 431)), (2, .ref (b + 405)), (1, .ref (b + 0)), (0, .ref bS)]) B dL_law_219 (by decide) rfl ?_
  refine z_aload_n B dL_law_221 rfl 4 rfl ?_
  refine z_cVi (As := []) (rest := []) B cw_L_80 cx_10 dL_law_222 (ci_X9_thrown_31 l (σ := (ap b (wx_Z σ z) [(405, 0, 1)] [] [])) (b := b) (lyA (lyZ hK)) (rI_at 405 0 rfl)) (lKA (lKZ (hk_K hK 405 rfl rfl))) rfl (by decide) rfl (Nat.le_of_ble_eq_true rfl) (by decide) (fun r u hu => ?_)
  refine z_eqs (σ' := (ap b (wx_Z σ z) [(405, 0, 1)] [] [])) hu.2 ?_
  show zx p l e _ s m _ below meth c g 8 _ _ _ _ 225 [(6, .int 0), (5, .int 1), (4, .int 0), (3, .ref (b + 431)), (2, .ref (b + 405)), (1, .ref (b + 0)), (0, .ref bS)] _
  refine z_seti (y := 1) hu.1 ?_
  refine z_iload B dL_law_225 1 rfl ?_
  refine z_icmp_eq (tgt := 232) B dL_law_227 (by decide) (fun _ => ?_) (fun h => absurd (by decide) h)
  refine z_iload B dL_law_232 1 rfl ?_
  refine z_if_ne (tgt := 249) B dL_law_234 (by decide) (fun _ => ?_) (fun h => absurd h (by decide))
  refine z_goto (tgt := 1395) B dL_law_249 (by decide) ?_
  exact z_widen (Nat.le_of_ble_eq_true rfl) (Nat.le_of_ble_eq_true rfl) (z_sub _ [2, 6] rfl (kk _))
set_option maxRecDepth 100000 in
set_option maxHeartbeats 4000000 in
theorem lf_0_46 {p : Program} {l : Launch} {e : Env} {s : State} {m : MethodId} {args : Array Value} {below : List Frame} {meth : Method} {c : Code} {g : gx_T} {Q : State → Prop} {σ : sx_T} {b t bS : Nat} {xs : Nat → Int32} (hlt : l.stackTraces = false) (B : zx_B p s m args meth c code RL 8 g) (hX : va_X bS 6 xs s s.heap) (hbl : bS < s.heap.size) (hbA : ¬ gx_b g ≤ bS) (hF : fz_P b t σ) (h_x1 : xs 1 = 1) {x2 : Int32} (h_x2 : xs 2 = x2) (q1_x2 : (20 : Int) ≤ x2.toInt) (q2_x2 : x2.toInt ≤ (2147483647 : Int)) {x3 : Int32} (h_x3 : xs 3 = x3) (q1_x3 : (0 : Int) ≤ x3.toInt) (q2_x3 : x3.toInt ≤ (17 : Int)) {x4 : Int32} (h_x4 : xs 4 = x4) (q1_x4 : (0 : Int) ≤ x4.toInt) (q2_x4 : x4.toInt ≤ (99 : Int)) {x5 : Int32} (h_x5 : xs 5 = x5) (q1_x5 : (100 : Int) ≤ x5.toInt) (q2_x5 : x5.toInt ≤ (2147483647 : Int)) (kk : ∀ σ', zx p l e room_1 s m args below meth c g 8 600002 7302232 Q σ' 1395 [(4, .int 0), (0, .ref bS)] []) : zx p l e room_1 s m args below meth c g 8 500 100000 Q σ 148 [(4, .int 0), (3, .ref (b + 431)), (2, .ref (b + 405)), (1, .ref (b + 0)), (0, .ref bS)] [] := by
  have hK := fz_lay hF
  refine z_eqs (σ' := (ap b σ [] [] [])) rfl ?_
  refine z_aload_n B dL_law_148 rfl 3 rfl ?_
  refine z_aload_n B dL_law_149 rfl 4 rfl ?_
  refine z_iload B dL_law_150 0 rfl ?_
  refine z_iconst (v := 1) B dL_law_152 (by decide) ?_
  refine z_iadd B dL_law_153 ?_
  refine z_seti (y := 1) (by decide) ?_
  refine z_sld (j := 1) (x := 1) B hX hbl hbA (by decide) (show ¬ ((1 : Int32) < 0 ∨ 6 ≤ (1 : Int32).toNatClampNeg) by decide) h_x1 dL_law_154 ?_
  refine z_aload_n B dL_law_155 rfl 4 rfl ?_
  refine z_iload B dL_law_156 0 rfl ?_
  refine z_iconst (v := 2) B dL_law_158 (by decide) ?_
  refine z_iadd B dL_law_159 ?_
  refine z_seti (y := 2) (by decide) ?_
  refine z_sld (j := 2) (x := x2) B hX hbl hbA (by decide) (show ¬ ((2 : Int32) < 0 ∨ 6 ≤ (2 : Int32).toNatClampNeg) by decide) h_x2 dL_law_160 ?_
  refine z_aload_n B dL_law_161 rfl 4 rfl ?_
  refine z_iload B dL_law_162 0 rfl ?_
  refine z_iconst (v := 3) B dL_law_164 (by decide) ?_
  refine z_iadd B dL_law_165 ?_
  refine z_seti (y := 3) (by decide) ?_
  refine z_sld (j := 3) (x := x3) B hX hbl hbA (by decide) (show ¬ ((3 : Int32) < 0 ∨ 6 ≤ (3 : Int32).toNatClampNeg) by decide) h_x3 dL_law_166 ?_
  refine z_aload_n B dL_law_167 rfl 4 rfl ?_
  refine z_iload B dL_law_168 0 rfl ?_
  refine z_iconst (v := 4) B dL_law_170 (by decide) ?_
  refine z_iadd B dL_law_171 ?_
  refine z_seti (y := 4) (by decide) ?_
  refine z_sld (j := 4) (x := x4) B hX hbl hbA (by decide) (show ¬ ((4 : Int32) < 0 ∨ 6 ≤ (4 : Int32).toNatClampNeg) by decide) h_x4 dL_law_172 ?_
  refine z_aload_n B dL_law_173 rfl 4 rfl ?_
  refine z_iload B dL_law_174 0 rfl ?_
  refine z_iconst (v := 5) B dL_law_176 (by decide) ?_
  refine z_iadd B dL_law_177 ?_
  refine z_seti (y := 5) (by decide) ?_
  refine z_sld (j := 5) (x := x5) B hX hbl hbA (by decide) (show ¬ ((5 : Int32) < 0 ∨ 6 ≤ (5 : Int32).toNatClampNeg) by decide) h_x5 dL_law_178 ?_
  refine z_aload_n B dL_law_179 rfl 1 rfl ?_
  refine z_cSWi (As := [.ref (b + 0), .int 1, .int x2, .int x3, .int x4, .int x5, .ref (b + 431)]) (rest := []) B cw_L_74 dL_law_180 (ci_L_set_162 l hlt (σ := (ap b σ [] [] [])) (b := b) (lyA hK) x2 x3 x4 x5 q1_x2 q2_x2 (rR_at 0 0 (fz_R hF 0 0 rfl rfl)) (rR_at 1 1 (fz_R hF 1 1 rfl rfl))) rfl (by decide) rfl (Nat.le_of_ble_eq_true rfl) (by decide) (fun r u hu => ?_)
  obtain ⟨hu1, z, hu⟩ := hu
  refine z_eqs (σ' := (ap b (wx_Z σ z) [] [] [])) (hu.trans az_ap) ?_
  show zx p l e _ s m _ below meth c g 8 _ _ _ _ 183 [(4, .int 0), (3, .ref (b + 431)), (2, .ref (b + 405)), (1, .ref (b + 0)), (0, .ref bS)] _
  refine z_seti (y := 1) hu1 ?_
  refine z_istore (lv' := [(5, .int 1), (4, .int 0), (3, .ref (b + 431)), (2, .ref (b + 405)), (1, .ref (b + 0)), (0, .ref bS)]) B dL_law_183 (by decide) rfl ?_
  refine z_aload_n B dL_law_185 rfl 3 rfl ?_
  refine z_aload_n B dL_law_186 rfl 5 rfl ?_
  refine z_iload B dL_law_187 1 rfl ?_
  refine z_iconst (v := 1) B dL_law_189 (by decide) ?_
  refine z_iadd B dL_law_190 ?_
  refine z_seti (y := 1) (by decide) ?_
  refine z_sld (j := 1) (x := 1) B hX hbl hbA (by decide) (show ¬ ((1 : Int32) < 0 ∨ 6 ≤ (1 : Int32).toNatClampNeg) by decide) h_x1 dL_law_191 ?_
  refine z_aload_n B dL_law_192 rfl 5 rfl ?_
  refine z_iload B dL_law_193 1 rfl ?_
  refine z_iconst (v := 2) B dL_law_195 (by decide) ?_
  refine z_iadd B dL_law_196 ?_
  refine z_seti (y := 2) (by decide) ?_
  refine z_sld (j := 2) (x := x2) B hX hbl hbA (by decide) (show ¬ ((2 : Int32) < 0 ∨ 6 ≤ (2 : Int32).toNatClampNeg) by decide) h_x2 dL_law_197 ?_
  refine z_aload_n B dL_law_198 rfl 5 rfl ?_
  refine z_iload B dL_law_199 1 rfl ?_
  refine z_iconst (v := 3) B dL_law_201 (by decide) ?_
  refine z_iadd B dL_law_202 ?_
  refine z_seti (y := 3) (by decide) ?_
  refine z_sld (j := 3) (x := x3) B hX hbl hbA (by decide) (show ¬ ((3 : Int32) < 0 ∨ 6 ≤ (3 : Int32).toNatClampNeg) by decide) h_x3 dL_law_203 ?_
  refine z_aload_n B dL_law_204 rfl 5 rfl ?_
  refine z_iload B dL_law_205 1 rfl ?_
  refine z_iconst (v := 4) B dL_law_207 (by decide) ?_
  refine z_iadd B dL_law_208 ?_
  refine z_seti (y := 4) (by decide) ?_
  refine z_sld (j := 4) (x := x4) B hX hbl hbA (by decide) (show ¬ ((4 : Int32) < 0 ∨ 6 ≤ (4 : Int32).toNatClampNeg) by decide) h_x4 dL_law_209 ?_
  refine z_aload_n B dL_law_210 rfl 5 rfl ?_
  refine z_iload B dL_law_211 1 rfl ?_
  refine z_iconst (v := 5) B dL_law_213 (by decide) ?_
  refine z_iadd B dL_law_214 ?_
  refine z_seti (y := 5) (by decide) ?_
  refine z_sld (j := 5) (x := x5) B hX hbl hbA (by decide) (show ¬ ((5 : Int32) < 0 ∨ 6 ≤ (5 : Int32).toNatClampNeg) by decide) h_x5 dL_law_215 ?_
  refine z_cVi (As := [.int 1, .int x2, .int x3, .int x4, .int x5]) (rest := []) B cw_L_79 cx_10 dL_law_216 (ci_X9_set_168 l (σ := (ap b (wx_Z σ z) [] [] [])) (b := b) (lyA (lyZ hK)) x2 x3 x4 x5 q1_x2 q2_x2 q1_x3 q2_x3 q1_x4 q2_x4 q1_x5 q2_x5) (lKA (lKZ (hk_K hK 405 rfl rfl))) rfl (by decide) rfl (Nat.le_of_ble_eq_true rfl) (by decide) (fun r u hu => ?_)
  refine z_eqs (σ' := (ap b (wx_Z σ z) [(405, 0, 1)] [] [])) (hu.2.trans ap_ap) ?_
  show zx p l e _ s m _ below meth c g 8 _ _ _ _ 219 [(5, .int 1), (4, .int 0), (3, .ref (b + 431)), (2, .ref (b + 405)), (1, .ref (b + 0)), (0, .ref bS)] _
  refine z_seti (y := 0) hu.1 ?_
  refine z_istore (lv' := [(6, .int 0), (5, .int 1), (4, .int 0), (3, .ref (b + 431)), (2, .ref (b + 405)), (1, .ref (b + 0)), (0, .ref bS)]) B dL_law_219 (by decide) rfl ?_
  refine z_aload_n B dL_law_221 rfl 4 rfl ?_
  refine z_cVi (As := []) (rest := []) B cw_L_80 cx_10 dL_law_222 (ci_X9_thrown_31 l (σ := (ap b (wx_Z σ z) [(405, 0, 1)] [] [])) (b := b) (lyA (lyZ hK)) (rI_at 405 0 rfl)) (lKA (lKZ (hk_K hK 405 rfl rfl))) rfl (by decide) rfl (Nat.le_of_ble_eq_true rfl) (by decide) (fun r u hu => ?_)
  refine z_eqs (σ' := (ap b (wx_Z σ z) [(405, 0, 1)] [] [])) hu.2 ?_
  show zx p l e _ s m _ below meth c g 8 _ _ _ _ 225 [(6, .int 0), (5, .int 1), (4, .int 0), (3, .ref (b + 431)), (2, .ref (b + 405)), (1, .ref (b + 0)), (0, .ref bS)] _
  refine z_seti (y := 1) hu.1 ?_
  refine z_iload B dL_law_225 1 rfl ?_
  refine z_icmp_eq (tgt := 232) B dL_law_227 (by decide) (fun _ => ?_) (fun h => absurd (by decide) h)
  refine z_iload B dL_law_232 1 rfl ?_
  refine z_if_ne (tgt := 249) B dL_law_234 (by decide) (fun _ => ?_) (fun h => absurd h (by decide))
  refine z_goto (tgt := 1395) B dL_law_249 (by decide) ?_
  exact z_widen (Nat.le_of_ble_eq_true rfl) (Nat.le_of_ble_eq_true rfl) (z_sub _ [2, 6] rfl (kk _))
set_option maxRecDepth 100000 in
set_option maxHeartbeats 4000000 in
theorem lf_0_47 {p : Program} {l : Launch} {e : Env} {s : State} {m : MethodId} {args : Array Value} {below : List Frame} {meth : Method} {c : Code} {g : gx_T} {Q : State → Prop} {σ : sx_T} {b t bS : Nat} {xs : Nat → Int32} (hlt : l.stackTraces = false) (B : zx_B p s m args meth c code RL 8 g) (hX : va_X bS 6 xs s s.heap) (hbl : bS < s.heap.size) (hbA : ¬ gx_b g ≤ bS) (hF : fz_P b t σ) (h_x1 : xs 1 = 1) {x2 : Int32} (h_x2 : xs 2 = x2) (q1_x2 : (20 : Int) ≤ x2.toInt) (q2_x2 : x2.toInt ≤ (2147483647 : Int)) {x3 : Int32} (h_x3 : xs 3 = x3) (q1_x3 : (0 : Int) ≤ x3.toInt) (q2_x3 : x3.toInt ≤ (17 : Int)) {x4 : Int32} (h_x4 : xs 4 = x4) (q1_x4 : (100 : Int) ≤ x4.toInt) (q2_x4 : x4.toInt ≤ (2147483647 : Int)) {x5 : Int32} (h_x5 : xs 5 = x5) (q1_x5 : (-2147483648 : Int) ≤ x5.toInt) (q2_x5 : x5.toInt ≤ (2147483647 : Int)) (kk : ∀ σ', zx p l e room_1 s m args below meth c g 8 600002 7302232 Q σ' 1395 [(4, .int 0), (0, .ref bS)] []) : zx p l e room_1 s m args below meth c g 8 500 100000 Q σ 148 [(4, .int 0), (3, .ref (b + 431)), (2, .ref (b + 405)), (1, .ref (b + 0)), (0, .ref bS)] [] := by
  have hK := fz_lay hF
  refine z_eqs (σ' := (ap b σ [] [] [])) rfl ?_
  refine z_aload_n B dL_law_148 rfl 3 rfl ?_
  refine z_aload_n B dL_law_149 rfl 4 rfl ?_
  refine z_iload B dL_law_150 0 rfl ?_
  refine z_iconst (v := 1) B dL_law_152 (by decide) ?_
  refine z_iadd B dL_law_153 ?_
  refine z_seti (y := 1) (by decide) ?_
  refine z_sld (j := 1) (x := 1) B hX hbl hbA (by decide) (show ¬ ((1 : Int32) < 0 ∨ 6 ≤ (1 : Int32).toNatClampNeg) by decide) h_x1 dL_law_154 ?_
  refine z_aload_n B dL_law_155 rfl 4 rfl ?_
  refine z_iload B dL_law_156 0 rfl ?_
  refine z_iconst (v := 2) B dL_law_158 (by decide) ?_
  refine z_iadd B dL_law_159 ?_
  refine z_seti (y := 2) (by decide) ?_
  refine z_sld (j := 2) (x := x2) B hX hbl hbA (by decide) (show ¬ ((2 : Int32) < 0 ∨ 6 ≤ (2 : Int32).toNatClampNeg) by decide) h_x2 dL_law_160 ?_
  refine z_aload_n B dL_law_161 rfl 4 rfl ?_
  refine z_iload B dL_law_162 0 rfl ?_
  refine z_iconst (v := 3) B dL_law_164 (by decide) ?_
  refine z_iadd B dL_law_165 ?_
  refine z_seti (y := 3) (by decide) ?_
  refine z_sld (j := 3) (x := x3) B hX hbl hbA (by decide) (show ¬ ((3 : Int32) < 0 ∨ 6 ≤ (3 : Int32).toNatClampNeg) by decide) h_x3 dL_law_166 ?_
  refine z_aload_n B dL_law_167 rfl 4 rfl ?_
  refine z_iload B dL_law_168 0 rfl ?_
  refine z_iconst (v := 4) B dL_law_170 (by decide) ?_
  refine z_iadd B dL_law_171 ?_
  refine z_seti (y := 4) (by decide) ?_
  refine z_sld (j := 4) (x := x4) B hX hbl hbA (by decide) (show ¬ ((4 : Int32) < 0 ∨ 6 ≤ (4 : Int32).toNatClampNeg) by decide) h_x4 dL_law_172 ?_
  refine z_aload_n B dL_law_173 rfl 4 rfl ?_
  refine z_iload B dL_law_174 0 rfl ?_
  refine z_iconst (v := 5) B dL_law_176 (by decide) ?_
  refine z_iadd B dL_law_177 ?_
  refine z_seti (y := 5) (by decide) ?_
  refine z_sld (j := 5) (x := x5) B hX hbl hbA (by decide) (show ¬ ((5 : Int32) < 0 ∨ 6 ≤ (5 : Int32).toNatClampNeg) by decide) h_x5 dL_law_178 ?_
  refine z_aload_n B dL_law_179 rfl 1 rfl ?_
  refine z_cSWi (As := [.ref (b + 0), .int 1, .int x2, .int x3, .int x4, .int x5, .ref (b + 431)]) (rest := []) B cw_L_74 dL_law_180 (ci_L_set_162 l hlt (σ := (ap b σ [] [] [])) (b := b) (lyA hK) x2 x3 x4 x5 q1_x2 q2_x2 (rR_at 0 0 (fz_R hF 0 0 rfl rfl)) (rR_at 1 1 (fz_R hF 1 1 rfl rfl))) rfl (by decide) rfl (Nat.le_of_ble_eq_true rfl) (by decide) (fun r u hu => ?_)
  obtain ⟨hu1, z, hu⟩ := hu
  refine z_eqs (σ' := (ap b (wx_Z σ z) [] [] [])) (hu.trans az_ap) ?_
  show zx p l e _ s m _ below meth c g 8 _ _ _ _ 183 [(4, .int 0), (3, .ref (b + 431)), (2, .ref (b + 405)), (1, .ref (b + 0)), (0, .ref bS)] _
  refine z_seti (y := 1) hu1 ?_
  refine z_istore (lv' := [(5, .int 1), (4, .int 0), (3, .ref (b + 431)), (2, .ref (b + 405)), (1, .ref (b + 0)), (0, .ref bS)]) B dL_law_183 (by decide) rfl ?_
  refine z_aload_n B dL_law_185 rfl 3 rfl ?_
  refine z_aload_n B dL_law_186 rfl 5 rfl ?_
  refine z_iload B dL_law_187 1 rfl ?_
  refine z_iconst (v := 1) B dL_law_189 (by decide) ?_
  refine z_iadd B dL_law_190 ?_
  refine z_seti (y := 1) (by decide) ?_
  refine z_sld (j := 1) (x := 1) B hX hbl hbA (by decide) (show ¬ ((1 : Int32) < 0 ∨ 6 ≤ (1 : Int32).toNatClampNeg) by decide) h_x1 dL_law_191 ?_
  refine z_aload_n B dL_law_192 rfl 5 rfl ?_
  refine z_iload B dL_law_193 1 rfl ?_
  refine z_iconst (v := 2) B dL_law_195 (by decide) ?_
  refine z_iadd B dL_law_196 ?_
  refine z_seti (y := 2) (by decide) ?_
  refine z_sld (j := 2) (x := x2) B hX hbl hbA (by decide) (show ¬ ((2 : Int32) < 0 ∨ 6 ≤ (2 : Int32).toNatClampNeg) by decide) h_x2 dL_law_197 ?_
  refine z_aload_n B dL_law_198 rfl 5 rfl ?_
  refine z_iload B dL_law_199 1 rfl ?_
  refine z_iconst (v := 3) B dL_law_201 (by decide) ?_
  refine z_iadd B dL_law_202 ?_
  refine z_seti (y := 3) (by decide) ?_
  refine z_sld (j := 3) (x := x3) B hX hbl hbA (by decide) (show ¬ ((3 : Int32) < 0 ∨ 6 ≤ (3 : Int32).toNatClampNeg) by decide) h_x3 dL_law_203 ?_
  refine z_aload_n B dL_law_204 rfl 5 rfl ?_
  refine z_iload B dL_law_205 1 rfl ?_
  refine z_iconst (v := 4) B dL_law_207 (by decide) ?_
  refine z_iadd B dL_law_208 ?_
  refine z_seti (y := 4) (by decide) ?_
  refine z_sld (j := 4) (x := x4) B hX hbl hbA (by decide) (show ¬ ((4 : Int32) < 0 ∨ 6 ≤ (4 : Int32).toNatClampNeg) by decide) h_x4 dL_law_209 ?_
  refine z_aload_n B dL_law_210 rfl 5 rfl ?_
  refine z_iload B dL_law_211 1 rfl ?_
  refine z_iconst (v := 5) B dL_law_213 (by decide) ?_
  refine z_iadd B dL_law_214 ?_
  refine z_seti (y := 5) (by decide) ?_
  refine z_sld (j := 5) (x := x5) B hX hbl hbA (by decide) (show ¬ ((5 : Int32) < 0 ∨ 6 ≤ (5 : Int32).toNatClampNeg) by decide) h_x5 dL_law_215 ?_
  refine z_cVi (As := [.int 1, .int x2, .int x3, .int x4, .int x5]) (rest := []) B cw_L_79 cx_10 dL_law_216 (ci_X9_set_169 l (σ := (ap b (wx_Z σ z) [] [] [])) (b := b) (lyA (lyZ hK)) x2 x3 x4 x5 q1_x2 q2_x2 q1_x3 q2_x3 q1_x4 q2_x4) (lKA (lKZ (hk_K hK 405 rfl rfl))) rfl (by decide) rfl (Nat.le_of_ble_eq_true rfl) (by decide) (fun r u hu => ?_)
  refine z_eqs (σ' := (ap b (wx_Z σ z) [(405, 0, 1)] [] [])) (hu.2.trans ap_ap) ?_
  show zx p l e _ s m _ below meth c g 8 _ _ _ _ 219 [(5, .int 1), (4, .int 0), (3, .ref (b + 431)), (2, .ref (b + 405)), (1, .ref (b + 0)), (0, .ref bS)] _
  refine z_seti (y := 0) hu.1 ?_
  refine z_istore (lv' := [(6, .int 0), (5, .int 1), (4, .int 0), (3, .ref (b + 431)), (2, .ref (b + 405)), (1, .ref (b + 0)), (0, .ref bS)]) B dL_law_219 (by decide) rfl ?_
  refine z_aload_n B dL_law_221 rfl 4 rfl ?_
  refine z_cVi (As := []) (rest := []) B cw_L_80 cx_10 dL_law_222 (ci_X9_thrown_31 l (σ := (ap b (wx_Z σ z) [(405, 0, 1)] [] [])) (b := b) (lyA (lyZ hK)) (rI_at 405 0 rfl)) (lKA (lKZ (hk_K hK 405 rfl rfl))) rfl (by decide) rfl (Nat.le_of_ble_eq_true rfl) (by decide) (fun r u hu => ?_)
  refine z_eqs (σ' := (ap b (wx_Z σ z) [(405, 0, 1)] [] [])) hu.2 ?_
  show zx p l e _ s m _ below meth c g 8 _ _ _ _ 225 [(6, .int 0), (5, .int 1), (4, .int 0), (3, .ref (b + 431)), (2, .ref (b + 405)), (1, .ref (b + 0)), (0, .ref bS)] _
  refine z_seti (y := 1) hu.1 ?_
  refine z_iload B dL_law_225 1 rfl ?_
  refine z_icmp_eq (tgt := 232) B dL_law_227 (by decide) (fun _ => ?_) (fun h => absurd (by decide) h)
  refine z_iload B dL_law_232 1 rfl ?_
  refine z_if_ne (tgt := 249) B dL_law_234 (by decide) (fun _ => ?_) (fun h => absurd h (by decide))
  refine z_goto (tgt := 1395) B dL_law_249 (by decide) ?_
  exact z_widen (Nat.le_of_ble_eq_true rfl) (Nat.le_of_ble_eq_true rfl) (z_sub _ [2, 6] rfl (kk _))
set_option maxRecDepth 100000 in
set_option maxHeartbeats 4000000 in
theorem lf_0_48 {p : Program} {l : Launch} {e : Env} {s : State} {m : MethodId} {args : Array Value} {below : List Frame} {meth : Method} {c : Code} {g : gx_T} {Q : State → Prop} {σ : sx_T} {b t bS : Nat} {xs : Nat → Int32} (hlt : l.stackTraces = false) (B : zx_B p s m args meth c code RL 8 g) (hX : va_X bS 6 xs s s.heap) (hbl : bS < s.heap.size) (hbA : ¬ gx_b g ≤ bS) (hF : fz_P b t σ) (h_x1 : xs 1 = 1) {x2 : Int32} (h_x2 : xs 2 = x2) (q1_x2 : (20 : Int) ≤ x2.toInt) (q2_x2 : x2.toInt ≤ (2147483647 : Int)) {x3 : Int32} (h_x3 : xs 3 = x3) (q1_x3 : (18 : Int) ≤ x3.toInt) (q2_x3 : x3.toInt ≤ (2147483647 : Int)) {x4 : Int32} (h_x4 : xs 4 = x4) (q1_x4 : (-2147483648 : Int) ≤ x4.toInt) (q2_x4 : x4.toInt ≤ (2147483647 : Int)) {x5 : Int32} (h_x5 : xs 5 = x5) (q1_x5 : (-2147483648 : Int) ≤ x5.toInt) (q2_x5 : x5.toInt ≤ (2147483647 : Int)) (kk : ∀ σ', zx p l e room_1 s m args below meth c g 8 600002 7302232 Q σ' 1395 [(4, .int 0), (0, .ref bS)] []) : zx p l e room_1 s m args below meth c g 8 500 100000 Q σ 148 [(4, .int 0), (3, .ref (b + 431)), (2, .ref (b + 405)), (1, .ref (b + 0)), (0, .ref bS)] [] := by
  have hK := fz_lay hF
  refine z_eqs (σ' := (ap b σ [] [] [])) rfl ?_
  refine z_aload_n B dL_law_148 rfl 3 rfl ?_
  refine z_aload_n B dL_law_149 rfl 4 rfl ?_
  refine z_iload B dL_law_150 0 rfl ?_
  refine z_iconst (v := 1) B dL_law_152 (by decide) ?_
  refine z_iadd B dL_law_153 ?_
  refine z_seti (y := 1) (by decide) ?_
  refine z_sld (j := 1) (x := 1) B hX hbl hbA (by decide) (show ¬ ((1 : Int32) < 0 ∨ 6 ≤ (1 : Int32).toNatClampNeg) by decide) h_x1 dL_law_154 ?_
  refine z_aload_n B dL_law_155 rfl 4 rfl ?_
  refine z_iload B dL_law_156 0 rfl ?_
  refine z_iconst (v := 2) B dL_law_158 (by decide) ?_
  refine z_iadd B dL_law_159 ?_
  refine z_seti (y := 2) (by decide) ?_
  refine z_sld (j := 2) (x := x2) B hX hbl hbA (by decide) (show ¬ ((2 : Int32) < 0 ∨ 6 ≤ (2 : Int32).toNatClampNeg) by decide) h_x2 dL_law_160 ?_
  refine z_aload_n B dL_law_161 rfl 4 rfl ?_
  refine z_iload B dL_law_162 0 rfl ?_
  refine z_iconst (v := 3) B dL_law_164 (by decide) ?_
  refine z_iadd B dL_law_165 ?_
  refine z_seti (y := 3) (by decide) ?_
  refine z_sld (j := 3) (x := x3) B hX hbl hbA (by decide) (show ¬ ((3 : Int32) < 0 ∨ 6 ≤ (3 : Int32).toNatClampNeg) by decide) h_x3 dL_law_166 ?_
  refine z_aload_n B dL_law_167 rfl 4 rfl ?_
  refine z_iload B dL_law_168 0 rfl ?_
  refine z_iconst (v := 4) B dL_law_170 (by decide) ?_
  refine z_iadd B dL_law_171 ?_
  refine z_seti (y := 4) (by decide) ?_
  refine z_sld (j := 4) (x := x4) B hX hbl hbA (by decide) (show ¬ ((4 : Int32) < 0 ∨ 6 ≤ (4 : Int32).toNatClampNeg) by decide) h_x4 dL_law_172 ?_
  refine z_aload_n B dL_law_173 rfl 4 rfl ?_
  refine z_iload B dL_law_174 0 rfl ?_
  refine z_iconst (v := 5) B dL_law_176 (by decide) ?_
  refine z_iadd B dL_law_177 ?_
  refine z_seti (y := 5) (by decide) ?_
  refine z_sld (j := 5) (x := x5) B hX hbl hbA (by decide) (show ¬ ((5 : Int32) < 0 ∨ 6 ≤ (5 : Int32).toNatClampNeg) by decide) h_x5 dL_law_178 ?_
  refine z_aload_n B dL_law_179 rfl 1 rfl ?_
  refine z_cSWi (As := [.ref (b + 0), .int 1, .int x2, .int x3, .int x4, .int x5, .ref (b + 431)]) (rest := []) B cw_L_74 dL_law_180 (ci_L_set_162 l hlt (σ := (ap b σ [] [] [])) (b := b) (lyA hK) x2 x3 x4 x5 q1_x2 q2_x2 (rR_at 0 0 (fz_R hF 0 0 rfl rfl)) (rR_at 1 1 (fz_R hF 1 1 rfl rfl))) rfl (by decide) rfl (Nat.le_of_ble_eq_true rfl) (by decide) (fun r u hu => ?_)
  obtain ⟨hu1, z, hu⟩ := hu
  refine z_eqs (σ' := (ap b (wx_Z σ z) [] [] [])) (hu.trans az_ap) ?_
  show zx p l e _ s m _ below meth c g 8 _ _ _ _ 183 [(4, .int 0), (3, .ref (b + 431)), (2, .ref (b + 405)), (1, .ref (b + 0)), (0, .ref bS)] _
  refine z_seti (y := 1) hu1 ?_
  refine z_istore (lv' := [(5, .int 1), (4, .int 0), (3, .ref (b + 431)), (2, .ref (b + 405)), (1, .ref (b + 0)), (0, .ref bS)]) B dL_law_183 (by decide) rfl ?_
  refine z_aload_n B dL_law_185 rfl 3 rfl ?_
  refine z_aload_n B dL_law_186 rfl 5 rfl ?_
  refine z_iload B dL_law_187 1 rfl ?_
  refine z_iconst (v := 1) B dL_law_189 (by decide) ?_
  refine z_iadd B dL_law_190 ?_
  refine z_seti (y := 1) (by decide) ?_
  refine z_sld (j := 1) (x := 1) B hX hbl hbA (by decide) (show ¬ ((1 : Int32) < 0 ∨ 6 ≤ (1 : Int32).toNatClampNeg) by decide) h_x1 dL_law_191 ?_
  refine z_aload_n B dL_law_192 rfl 5 rfl ?_
  refine z_iload B dL_law_193 1 rfl ?_
  refine z_iconst (v := 2) B dL_law_195 (by decide) ?_
  refine z_iadd B dL_law_196 ?_
  refine z_seti (y := 2) (by decide) ?_
  refine z_sld (j := 2) (x := x2) B hX hbl hbA (by decide) (show ¬ ((2 : Int32) < 0 ∨ 6 ≤ (2 : Int32).toNatClampNeg) by decide) h_x2 dL_law_197 ?_
  refine z_aload_n B dL_law_198 rfl 5 rfl ?_
  refine z_iload B dL_law_199 1 rfl ?_
  refine z_iconst (v := 3) B dL_law_201 (by decide) ?_
  refine z_iadd B dL_law_202 ?_
  refine z_seti (y := 3) (by decide) ?_
  refine z_sld (j := 3) (x := x3) B hX hbl hbA (by decide) (show ¬ ((3 : Int32) < 0 ∨ 6 ≤ (3 : Int32).toNatClampNeg) by decide) h_x3 dL_law_203 ?_
  refine z_aload_n B dL_law_204 rfl 5 rfl ?_
  refine z_iload B dL_law_205 1 rfl ?_
  refine z_iconst (v := 4) B dL_law_207 (by decide) ?_
  refine z_iadd B dL_law_208 ?_
  refine z_seti (y := 4) (by decide) ?_
  refine z_sld (j := 4) (x := x4) B hX hbl hbA (by decide) (show ¬ ((4 : Int32) < 0 ∨ 6 ≤ (4 : Int32).toNatClampNeg) by decide) h_x4 dL_law_209 ?_
  refine z_aload_n B dL_law_210 rfl 5 rfl ?_
  refine z_iload B dL_law_211 1 rfl ?_
  refine z_iconst (v := 5) B dL_law_213 (by decide) ?_
  refine z_iadd B dL_law_214 ?_
  refine z_seti (y := 5) (by decide) ?_
  refine z_sld (j := 5) (x := x5) B hX hbl hbA (by decide) (show ¬ ((5 : Int32) < 0 ∨ 6 ≤ (5 : Int32).toNatClampNeg) by decide) h_x5 dL_law_215 ?_
  refine z_cVi (As := [.int 1, .int x2, .int x3, .int x4, .int x5]) (rest := []) B cw_L_79 cx_10 dL_law_216 (ci_X9_set_170 l (σ := (ap b (wx_Z σ z) [] [] [])) (b := b) (lyA (lyZ hK)) x2 x3 x4 x5 q1_x2 q2_x2 q1_x3 q2_x3) (lKA (lKZ (hk_K hK 405 rfl rfl))) rfl (by decide) rfl (Nat.le_of_ble_eq_true rfl) (by decide) (fun r u hu => ?_)
  refine z_eqs (σ' := (ap b (wx_Z σ z) [(405, 0, 1)] [] [])) (hu.2.trans ap_ap) ?_
  show zx p l e _ s m _ below meth c g 8 _ _ _ _ 219 [(5, .int 1), (4, .int 0), (3, .ref (b + 431)), (2, .ref (b + 405)), (1, .ref (b + 0)), (0, .ref bS)] _
  refine z_seti (y := 0) hu.1 ?_
  refine z_istore (lv' := [(6, .int 0), (5, .int 1), (4, .int 0), (3, .ref (b + 431)), (2, .ref (b + 405)), (1, .ref (b + 0)), (0, .ref bS)]) B dL_law_219 (by decide) rfl ?_
  refine z_aload_n B dL_law_221 rfl 4 rfl ?_
  refine z_cVi (As := []) (rest := []) B cw_L_80 cx_10 dL_law_222 (ci_X9_thrown_31 l (σ := (ap b (wx_Z σ z) [(405, 0, 1)] [] [])) (b := b) (lyA (lyZ hK)) (rI_at 405 0 rfl)) (lKA (lKZ (hk_K hK 405 rfl rfl))) rfl (by decide) rfl (Nat.le_of_ble_eq_true rfl) (by decide) (fun r u hu => ?_)
  refine z_eqs (σ' := (ap b (wx_Z σ z) [(405, 0, 1)] [] [])) hu.2 ?_
  show zx p l e _ s m _ below meth c g 8 _ _ _ _ 225 [(6, .int 0), (5, .int 1), (4, .int 0), (3, .ref (b + 431)), (2, .ref (b + 405)), (1, .ref (b + 0)), (0, .ref bS)] _
  refine z_seti (y := 1) hu.1 ?_
  refine z_iload B dL_law_225 1 rfl ?_
  refine z_icmp_eq (tgt := 232) B dL_law_227 (by decide) (fun _ => ?_) (fun h => absurd (by decide) h)
  refine z_iload B dL_law_232 1 rfl ?_
  refine z_if_ne (tgt := 249) B dL_law_234 (by decide) (fun _ => ?_) (fun h => absurd h (by decide))
  refine z_goto (tgt := 1395) B dL_law_249 (by decide) ?_
  exact z_widen (Nat.le_of_ble_eq_true rfl) (Nat.le_of_ble_eq_true rfl) (z_sub _ [2, 6] rfl (kk _))
set_option maxRecDepth 100000 in
set_option maxHeartbeats 4000000 in
theorem lf_0_49 {p : Program} {l : Launch} {e : Env} {s : State} {m : MethodId} {args : Array Value} {below : List Frame} {meth : Method} {c : Code} {g : gx_T} {Q : State → Prop} {σ : sx_T} {b t bS : Nat} {xs : Nat → Int32} (hlt : l.stackTraces = false) (B : zx_B p s m args meth c code RL 8 g) (hX : va_X bS 6 xs s s.heap) (hbl : bS < s.heap.size) (hbA : ¬ gx_b g ≤ bS) (hF : fz_P b t σ) (h_x1 : xs 1 = 2) {x2 : Int32} (h_x2 : xs 2 = x2) (q1_x2 : (-2147483648 : Int) ≤ x2.toInt) (q2_x2 : x2.toInt ≤ (-1 : Int)) {x3 : Int32} (h_x3 : xs 3 = x3) (q1_x3 : (-2147483648 : Int) ≤ x3.toInt) (q2_x3 : x3.toInt ≤ (-1 : Int)) {x4 : Int32} (h_x4 : xs 4 = x4) (q1_x4 : (-2147483648 : Int) ≤ x4.toInt) (q2_x4 : x4.toInt ≤ (2147483647 : Int)) {x5 : Int32} (h_x5 : xs 5 = x5) (q1_x5 : (-2147483648 : Int) ≤ x5.toInt) (q2_x5 : x5.toInt ≤ (2147483647 : Int)) (kk : ∀ σ', zx p l e room_1 s m args below meth c g 8 600002 7302232 Q σ' 1395 [(4, .int 0), (0, .ref bS)] []) : zx p l e room_1 s m args below meth c g 8 500 100000 Q σ 148 [(4, .int 0), (3, .ref (b + 431)), (2, .ref (b + 405)), (1, .ref (b + 0)), (0, .ref bS)] [] := by
  have hK := fz_lay hF
  refine z_eqs (σ' := (ap b σ [] [] [])) rfl ?_
  refine z_aload_n B dL_law_148 rfl 3 rfl ?_
  refine z_aload_n B dL_law_149 rfl 4 rfl ?_
  refine z_iload B dL_law_150 0 rfl ?_
  refine z_iconst (v := 1) B dL_law_152 (by decide) ?_
  refine z_iadd B dL_law_153 ?_
  refine z_seti (y := 1) (by decide) ?_
  refine z_sld (j := 1) (x := 2) B hX hbl hbA (by decide) (show ¬ ((1 : Int32) < 0 ∨ 6 ≤ (1 : Int32).toNatClampNeg) by decide) h_x1 dL_law_154 ?_
  refine z_aload_n B dL_law_155 rfl 4 rfl ?_
  refine z_iload B dL_law_156 0 rfl ?_
  refine z_iconst (v := 2) B dL_law_158 (by decide) ?_
  refine z_iadd B dL_law_159 ?_
  refine z_seti (y := 2) (by decide) ?_
  refine z_sld (j := 2) (x := x2) B hX hbl hbA (by decide) (show ¬ ((2 : Int32) < 0 ∨ 6 ≤ (2 : Int32).toNatClampNeg) by decide) h_x2 dL_law_160 ?_
  refine z_aload_n B dL_law_161 rfl 4 rfl ?_
  refine z_iload B dL_law_162 0 rfl ?_
  refine z_iconst (v := 3) B dL_law_164 (by decide) ?_
  refine z_iadd B dL_law_165 ?_
  refine z_seti (y := 3) (by decide) ?_
  refine z_sld (j := 3) (x := x3) B hX hbl hbA (by decide) (show ¬ ((3 : Int32) < 0 ∨ 6 ≤ (3 : Int32).toNatClampNeg) by decide) h_x3 dL_law_166 ?_
  refine z_aload_n B dL_law_167 rfl 4 rfl ?_
  refine z_iload B dL_law_168 0 rfl ?_
  refine z_iconst (v := 4) B dL_law_170 (by decide) ?_
  refine z_iadd B dL_law_171 ?_
  refine z_seti (y := 4) (by decide) ?_
  refine z_sld (j := 4) (x := x4) B hX hbl hbA (by decide) (show ¬ ((4 : Int32) < 0 ∨ 6 ≤ (4 : Int32).toNatClampNeg) by decide) h_x4 dL_law_172 ?_
  refine z_aload_n B dL_law_173 rfl 4 rfl ?_
  refine z_iload B dL_law_174 0 rfl ?_
  refine z_iconst (v := 5) B dL_law_176 (by decide) ?_
  refine z_iadd B dL_law_177 ?_
  refine z_seti (y := 5) (by decide) ?_
  refine z_sld (j := 5) (x := x5) B hX hbl hbA (by decide) (show ¬ ((5 : Int32) < 0 ∨ 6 ≤ (5 : Int32).toNatClampNeg) by decide) h_x5 dL_law_178 ?_
  refine z_aload_n B dL_law_179 rfl 1 rfl ?_
  refine z_cSWi (As := [.ref (b + 0), .int 2, .int x2, .int x3, .int x4, .int x5, .ref (b + 431)]) (rest := []) B cw_L_74 dL_law_180 (ci_L_set_173 l hlt (σ := (ap b σ [] [] [])) (b := b) (lyA hK) x2 x3 x4 x5 q1_x2 q2_x2 (rR_at 0 0 (fz_R hF 0 0 rfl rfl)) (rR_at 1 2 (fz_R hF 1 2 rfl rfl))) rfl (by decide) rfl (Nat.le_of_ble_eq_true rfl) (by decide) (fun r u hu => ?_)
  obtain ⟨hu1, z, hu⟩ := hu
  refine z_eqs (σ' := (ap b (wx_Z σ z) [] [] [])) (hu.trans az_ap) ?_
  show zx p l e _ s m _ below meth c g 8 _ _ _ _ 183 [(4, .int 0), (3, .ref (b + 431)), (2, .ref (b + 405)), (1, .ref (b + 0)), (0, .ref bS)] _
  refine z_seti (y := 1) hu1 ?_
  refine z_istore (lv' := [(5, .int 1), (4, .int 0), (3, .ref (b + 431)), (2, .ref (b + 405)), (1, .ref (b + 0)), (0, .ref bS)]) B dL_law_183 (by decide) rfl ?_
  refine z_aload_n B dL_law_185 rfl 3 rfl ?_
  refine z_aload_n B dL_law_186 rfl 5 rfl ?_
  refine z_iload B dL_law_187 1 rfl ?_
  refine z_iconst (v := 1) B dL_law_189 (by decide) ?_
  refine z_iadd B dL_law_190 ?_
  refine z_seti (y := 1) (by decide) ?_
  refine z_sld (j := 1) (x := 2) B hX hbl hbA (by decide) (show ¬ ((1 : Int32) < 0 ∨ 6 ≤ (1 : Int32).toNatClampNeg) by decide) h_x1 dL_law_191 ?_
  refine z_aload_n B dL_law_192 rfl 5 rfl ?_
  refine z_iload B dL_law_193 1 rfl ?_
  refine z_iconst (v := 2) B dL_law_195 (by decide) ?_
  refine z_iadd B dL_law_196 ?_
  refine z_seti (y := 2) (by decide) ?_
  refine z_sld (j := 2) (x := x2) B hX hbl hbA (by decide) (show ¬ ((2 : Int32) < 0 ∨ 6 ≤ (2 : Int32).toNatClampNeg) by decide) h_x2 dL_law_197 ?_
  refine z_aload_n B dL_law_198 rfl 5 rfl ?_
  refine z_iload B dL_law_199 1 rfl ?_
  refine z_iconst (v := 3) B dL_law_201 (by decide) ?_
  refine z_iadd B dL_law_202 ?_
  refine z_seti (y := 3) (by decide) ?_
  refine z_sld (j := 3) (x := x3) B hX hbl hbA (by decide) (show ¬ ((3 : Int32) < 0 ∨ 6 ≤ (3 : Int32).toNatClampNeg) by decide) h_x3 dL_law_203 ?_
  refine z_aload_n B dL_law_204 rfl 5 rfl ?_
  refine z_iload B dL_law_205 1 rfl ?_
  refine z_iconst (v := 4) B dL_law_207 (by decide) ?_
  refine z_iadd B dL_law_208 ?_
  refine z_seti (y := 4) (by decide) ?_
  refine z_sld (j := 4) (x := x4) B hX hbl hbA (by decide) (show ¬ ((4 : Int32) < 0 ∨ 6 ≤ (4 : Int32).toNatClampNeg) by decide) h_x4 dL_law_209 ?_
  refine z_aload_n B dL_law_210 rfl 5 rfl ?_
  refine z_iload B dL_law_211 1 rfl ?_
  refine z_iconst (v := 5) B dL_law_213 (by decide) ?_
  refine z_iadd B dL_law_214 ?_
  refine z_seti (y := 5) (by decide) ?_
  refine z_sld (j := 5) (x := x5) B hX hbl hbA (by decide) (show ¬ ((5 : Int32) < 0 ∨ 6 ≤ (5 : Int32).toNatClampNeg) by decide) h_x5 dL_law_215 ?_
  refine z_cVi (As := [.int 2, .int x2, .int x3, .int x4, .int x5]) (rest := []) B cw_L_79 cx_10 dL_law_216 (ci_X9_set_176 l (σ := (ap b (wx_Z σ z) [] [] [])) (b := b) (lyA (lyZ hK)) x2 x3 x4 x5 q1_x2 q2_x2 q1_x3 q2_x3) (lKA (lKZ (hk_K hK 405 rfl rfl))) rfl (by decide) rfl (Nat.le_of_ble_eq_true rfl) (by decide) (fun r u hu => ?_)
  refine z_eqs (σ' := (ap b (wx_Z σ z) [(405, 0, 1)] [] [])) (hu.2.trans ap_ap) ?_
  show zx p l e _ s m _ below meth c g 8 _ _ _ _ 219 [(5, .int 1), (4, .int 0), (3, .ref (b + 431)), (2, .ref (b + 405)), (1, .ref (b + 0)), (0, .ref bS)] _
  refine z_seti (y := 0) hu.1 ?_
  refine z_istore (lv' := [(6, .int 0), (5, .int 1), (4, .int 0), (3, .ref (b + 431)), (2, .ref (b + 405)), (1, .ref (b + 0)), (0, .ref bS)]) B dL_law_219 (by decide) rfl ?_
  refine z_aload_n B dL_law_221 rfl 4 rfl ?_
  refine z_cVi (As := []) (rest := []) B cw_L_80 cx_10 dL_law_222 (ci_X9_thrown_31 l (σ := (ap b (wx_Z σ z) [(405, 0, 1)] [] [])) (b := b) (lyA (lyZ hK)) (rI_at 405 0 rfl)) (lKA (lKZ (hk_K hK 405 rfl rfl))) rfl (by decide) rfl (Nat.le_of_ble_eq_true rfl) (by decide) (fun r u hu => ?_)
  refine z_eqs (σ' := (ap b (wx_Z σ z) [(405, 0, 1)] [] [])) hu.2 ?_
  show zx p l e _ s m _ below meth c g 8 _ _ _ _ 225 [(6, .int 0), (5, .int 1), (4, .int 0), (3, .ref (b + 431)), (2, .ref (b + 405)), (1, .ref (b + 0)), (0, .ref bS)] _
  refine z_seti (y := 1) hu.1 ?_
  refine z_iload B dL_law_225 1 rfl ?_
  refine z_icmp_eq (tgt := 232) B dL_law_227 (by decide) (fun _ => ?_) (fun h => absurd (by decide) h)
  refine z_iload B dL_law_232 1 rfl ?_
  refine z_if_ne (tgt := 249) B dL_law_234 (by decide) (fun _ => ?_) (fun h => absurd h (by decide))
  refine z_goto (tgt := 1395) B dL_law_249 (by decide) ?_
  exact z_widen (Nat.le_of_ble_eq_true rfl) (Nat.le_of_ble_eq_true rfl) (z_sub _ [2, 6] rfl (kk _))
set_option maxRecDepth 100000 in
set_option maxHeartbeats 4000000 in
theorem lf_0_50 {p : Program} {l : Launch} {e : Env} {s : State} {m : MethodId} {args : Array Value} {below : List Frame} {meth : Method} {c : Code} {g : gx_T} {Q : State → Prop} {σ : sx_T} {b t bS : Nat} {xs : Nat → Int32} (hlt : l.stackTraces = false) (B : zx_B p s m args meth c code RL 8 g) (hX : va_X bS 6 xs s s.heap) (hbl : bS < s.heap.size) (hbA : ¬ gx_b g ≤ bS) (hF : fz_P b t σ) (h_x1 : xs 1 = 2) {x2 : Int32} (h_x2 : xs 2 = x2) (q1_x2 : (-2147483648 : Int) ≤ x2.toInt) (q2_x2 : x2.toInt ≤ (-1 : Int)) {x3 : Int32} (h_x3 : xs 3 = x3) (q1_x3 : (0 : Int) ≤ x3.toInt) (q2_x3 : x3.toInt ≤ (17 : Int)) {x4 : Int32} (h_x4 : xs 4 = x4) (q1_x4 : (-2147483648 : Int) ≤ x4.toInt) (q2_x4 : x4.toInt ≤ (-1 : Int)) {x5 : Int32} (h_x5 : xs 5 = x5) (q1_x5 : (-2147483648 : Int) ≤ x5.toInt) (q2_x5 : x5.toInt ≤ (2147483647 : Int)) (kk : ∀ σ', zx p l e room_1 s m args below meth c g 8 600002 7302232 Q σ' 1395 [(4, .int 0), (0, .ref bS)] []) : zx p l e room_1 s m args below meth c g 8 500 100000 Q σ 148 [(4, .int 0), (3, .ref (b + 431)), (2, .ref (b + 405)), (1, .ref (b + 0)), (0, .ref bS)] [] := by
  have hK := fz_lay hF
  refine z_eqs (σ' := (ap b σ [] [] [])) rfl ?_
  refine z_aload_n B dL_law_148 rfl 3 rfl ?_
  refine z_aload_n B dL_law_149 rfl 4 rfl ?_
  refine z_iload B dL_law_150 0 rfl ?_
  refine z_iconst (v := 1) B dL_law_152 (by decide) ?_
  refine z_iadd B dL_law_153 ?_
  refine z_seti (y := 1) (by decide) ?_
  refine z_sld (j := 1) (x := 2) B hX hbl hbA (by decide) (show ¬ ((1 : Int32) < 0 ∨ 6 ≤ (1 : Int32).toNatClampNeg) by decide) h_x1 dL_law_154 ?_
  refine z_aload_n B dL_law_155 rfl 4 rfl ?_
  refine z_iload B dL_law_156 0 rfl ?_
  refine z_iconst (v := 2) B dL_law_158 (by decide) ?_
  refine z_iadd B dL_law_159 ?_
  refine z_seti (y := 2) (by decide) ?_
  refine z_sld (j := 2) (x := x2) B hX hbl hbA (by decide) (show ¬ ((2 : Int32) < 0 ∨ 6 ≤ (2 : Int32).toNatClampNeg) by decide) h_x2 dL_law_160 ?_
  refine z_aload_n B dL_law_161 rfl 4 rfl ?_
  refine z_iload B dL_law_162 0 rfl ?_
  refine z_iconst (v := 3) B dL_law_164 (by decide) ?_
  refine z_iadd B dL_law_165 ?_
  refine z_seti (y := 3) (by decide) ?_
  refine z_sld (j := 3) (x := x3) B hX hbl hbA (by decide) (show ¬ ((3 : Int32) < 0 ∨ 6 ≤ (3 : Int32).toNatClampNeg) by decide) h_x3 dL_law_166 ?_
  refine z_aload_n B dL_law_167 rfl 4 rfl ?_
  refine z_iload B dL_law_168 0 rfl ?_
  refine z_iconst (v := 4) B dL_law_170 (by decide) ?_
  refine z_iadd B dL_law_171 ?_
  refine z_seti (y := 4) (by decide) ?_
  refine z_sld (j := 4) (x := x4) B hX hbl hbA (by decide) (show ¬ ((4 : Int32) < 0 ∨ 6 ≤ (4 : Int32).toNatClampNeg) by decide) h_x4 dL_law_172 ?_
  refine z_aload_n B dL_law_173 rfl 4 rfl ?_
  refine z_iload B dL_law_174 0 rfl ?_
  refine z_iconst (v := 5) B dL_law_176 (by decide) ?_
  refine z_iadd B dL_law_177 ?_
  refine z_seti (y := 5) (by decide) ?_
  refine z_sld (j := 5) (x := x5) B hX hbl hbA (by decide) (show ¬ ((5 : Int32) < 0 ∨ 6 ≤ (5 : Int32).toNatClampNeg) by decide) h_x5 dL_law_178 ?_
  refine z_aload_n B dL_law_179 rfl 1 rfl ?_
  refine z_cSWi (As := [.ref (b + 0), .int 2, .int x2, .int x3, .int x4, .int x5, .ref (b + 431)]) (rest := []) B cw_L_74 dL_law_180 (ci_L_set_173 l hlt (σ := (ap b σ [] [] [])) (b := b) (lyA hK) x2 x3 x4 x5 q1_x2 q2_x2 (rR_at 0 0 (fz_R hF 0 0 rfl rfl)) (rR_at 1 2 (fz_R hF 1 2 rfl rfl))) rfl (by decide) rfl (Nat.le_of_ble_eq_true rfl) (by decide) (fun r u hu => ?_)
  obtain ⟨hu1, z, hu⟩ := hu
  refine z_eqs (σ' := (ap b (wx_Z σ z) [] [] [])) (hu.trans az_ap) ?_
  show zx p l e _ s m _ below meth c g 8 _ _ _ _ 183 [(4, .int 0), (3, .ref (b + 431)), (2, .ref (b + 405)), (1, .ref (b + 0)), (0, .ref bS)] _
  refine z_seti (y := 1) hu1 ?_
  refine z_istore (lv' := [(5, .int 1), (4, .int 0), (3, .ref (b + 431)), (2, .ref (b + 405)), (1, .ref (b + 0)), (0, .ref bS)]) B dL_law_183 (by decide) rfl ?_
  refine z_aload_n B dL_law_185 rfl 3 rfl ?_
  refine z_aload_n B dL_law_186 rfl 5 rfl ?_
  refine z_iload B dL_law_187 1 rfl ?_
  refine z_iconst (v := 1) B dL_law_189 (by decide) ?_
  refine z_iadd B dL_law_190 ?_
  refine z_seti (y := 1) (by decide) ?_
  refine z_sld (j := 1) (x := 2) B hX hbl hbA (by decide) (show ¬ ((1 : Int32) < 0 ∨ 6 ≤ (1 : Int32).toNatClampNeg) by decide) h_x1 dL_law_191 ?_
  refine z_aload_n B dL_law_192 rfl 5 rfl ?_
  refine z_iload B dL_law_193 1 rfl ?_
  refine z_iconst (v := 2) B dL_law_195 (by decide) ?_
  refine z_iadd B dL_law_196 ?_
  refine z_seti (y := 2) (by decide) ?_
  refine z_sld (j := 2) (x := x2) B hX hbl hbA (by decide) (show ¬ ((2 : Int32) < 0 ∨ 6 ≤ (2 : Int32).toNatClampNeg) by decide) h_x2 dL_law_197 ?_
  refine z_aload_n B dL_law_198 rfl 5 rfl ?_
  refine z_iload B dL_law_199 1 rfl ?_
  refine z_iconst (v := 3) B dL_law_201 (by decide) ?_
  refine z_iadd B dL_law_202 ?_
  refine z_seti (y := 3) (by decide) ?_
  refine z_sld (j := 3) (x := x3) B hX hbl hbA (by decide) (show ¬ ((3 : Int32) < 0 ∨ 6 ≤ (3 : Int32).toNatClampNeg) by decide) h_x3 dL_law_203 ?_
  refine z_aload_n B dL_law_204 rfl 5 rfl ?_
  refine z_iload B dL_law_205 1 rfl ?_
  refine z_iconst (v := 4) B dL_law_207 (by decide) ?_
  refine z_iadd B dL_law_208 ?_
  refine z_seti (y := 4) (by decide) ?_
  refine z_sld (j := 4) (x := x4) B hX hbl hbA (by decide) (show ¬ ((4 : Int32) < 0 ∨ 6 ≤ (4 : Int32).toNatClampNeg) by decide) h_x4 dL_law_209 ?_
  refine z_aload_n B dL_law_210 rfl 5 rfl ?_
  refine z_iload B dL_law_211 1 rfl ?_
  refine z_iconst (v := 5) B dL_law_213 (by decide) ?_
  refine z_iadd B dL_law_214 ?_
  refine z_seti (y := 5) (by decide) ?_
  refine z_sld (j := 5) (x := x5) B hX hbl hbA (by decide) (show ¬ ((5 : Int32) < 0 ∨ 6 ≤ (5 : Int32).toNatClampNeg) by decide) h_x5 dL_law_215 ?_
  refine z_cVi (As := [.int 2, .int x2, .int x3, .int x4, .int x5]) (rest := []) B cw_L_79 cx_10 dL_law_216 (ci_X9_set_177 l (σ := (ap b (wx_Z σ z) [] [] [])) (b := b) (lyA (lyZ hK)) x2 x3 x4 x5 q1_x2 q2_x2 q1_x3 q2_x3 q1_x4 q2_x4) (lKA (lKZ (hk_K hK 405 rfl rfl))) rfl (by decide) rfl (Nat.le_of_ble_eq_true rfl) (by decide) (fun r u hu => ?_)
  refine z_eqs (σ' := (ap b (wx_Z σ z) [(405, 0, 1)] [] [])) (hu.2.trans ap_ap) ?_
  show zx p l e _ s m _ below meth c g 8 _ _ _ _ 219 [(5, .int 1), (4, .int 0), (3, .ref (b + 431)), (2, .ref (b + 405)), (1, .ref (b + 0)), (0, .ref bS)] _
  refine z_seti (y := 0) hu.1 ?_
  refine z_istore (lv' := [(6, .int 0), (5, .int 1), (4, .int 0), (3, .ref (b + 431)), (2, .ref (b + 405)), (1, .ref (b + 0)), (0, .ref bS)]) B dL_law_219 (by decide) rfl ?_
  refine z_aload_n B dL_law_221 rfl 4 rfl ?_
  refine z_cVi (As := []) (rest := []) B cw_L_80 cx_10 dL_law_222 (ci_X9_thrown_31 l (σ := (ap b (wx_Z σ z) [(405, 0, 1)] [] [])) (b := b) (lyA (lyZ hK)) (rI_at 405 0 rfl)) (lKA (lKZ (hk_K hK 405 rfl rfl))) rfl (by decide) rfl (Nat.le_of_ble_eq_true rfl) (by decide) (fun r u hu => ?_)
  refine z_eqs (σ' := (ap b (wx_Z σ z) [(405, 0, 1)] [] [])) hu.2 ?_
  show zx p l e _ s m _ below meth c g 8 _ _ _ _ 225 [(6, .int 0), (5, .int 1), (4, .int 0), (3, .ref (b + 431)), (2, .ref (b + 405)), (1, .ref (b + 0)), (0, .ref bS)] _
  refine z_seti (y := 1) hu.1 ?_
  refine z_iload B dL_law_225 1 rfl ?_
  refine z_icmp_eq (tgt := 232) B dL_law_227 (by decide) (fun _ => ?_) (fun h => absurd (by decide) h)
  refine z_iload B dL_law_232 1 rfl ?_
  refine z_if_ne (tgt := 249) B dL_law_234 (by decide) (fun _ => ?_) (fun h => absurd h (by decide))
  refine z_goto (tgt := 1395) B dL_law_249 (by decide) ?_
  exact z_widen (Nat.le_of_ble_eq_true rfl) (Nat.le_of_ble_eq_true rfl) (z_sub _ [2, 6] rfl (kk _))
set_option maxRecDepth 100000 in
set_option maxHeartbeats 4000000 in
theorem lf_0_51 {p : Program} {l : Launch} {e : Env} {s : State} {m : MethodId} {args : Array Value} {below : List Frame} {meth : Method} {c : Code} {g : gx_T} {Q : State → Prop} {σ : sx_T} {b t bS : Nat} {xs : Nat → Int32} (hlt : l.stackTraces = false) (B : zx_B p s m args meth c code RL 8 g) (hX : va_X bS 6 xs s s.heap) (hbl : bS < s.heap.size) (hbA : ¬ gx_b g ≤ bS) (hF : fz_P b t σ) (h_x1 : xs 1 = 2) {x2 : Int32} (h_x2 : xs 2 = x2) (q1_x2 : (-2147483648 : Int) ≤ x2.toInt) (q2_x2 : x2.toInt ≤ (-1 : Int)) {x3 : Int32} (h_x3 : xs 3 = x3) (q1_x3 : (0 : Int) ≤ x3.toInt) (q2_x3 : x3.toInt ≤ (17 : Int)) {x4 : Int32} (h_x4 : xs 4 = x4) (q1_x4 : (0 : Int) ≤ x4.toInt) (q2_x4 : x4.toInt ≤ (99 : Int)) {x5 : Int32} (h_x5 : xs 5 = x5) (q1_x5 : (-2147483648 : Int) ≤ x5.toInt) (q2_x5 : x5.toInt ≤ (-1 : Int)) (kk : ∀ σ', zx p l e room_1 s m args below meth c g 8 600002 7302232 Q σ' 1395 [(4, .int 0), (0, .ref bS)] []) : zx p l e room_1 s m args below meth c g 8 500 100000 Q σ 148 [(4, .int 0), (3, .ref (b + 431)), (2, .ref (b + 405)), (1, .ref (b + 0)), (0, .ref bS)] [] := by
  have hK := fz_lay hF
  refine z_eqs (σ' := (ap b σ [] [] [])) rfl ?_
  refine z_aload_n B dL_law_148 rfl 3 rfl ?_
  refine z_aload_n B dL_law_149 rfl 4 rfl ?_
  refine z_iload B dL_law_150 0 rfl ?_
  refine z_iconst (v := 1) B dL_law_152 (by decide) ?_
  refine z_iadd B dL_law_153 ?_
  refine z_seti (y := 1) (by decide) ?_
  refine z_sld (j := 1) (x := 2) B hX hbl hbA (by decide) (show ¬ ((1 : Int32) < 0 ∨ 6 ≤ (1 : Int32).toNatClampNeg) by decide) h_x1 dL_law_154 ?_
  refine z_aload_n B dL_law_155 rfl 4 rfl ?_
  refine z_iload B dL_law_156 0 rfl ?_
  refine z_iconst (v := 2) B dL_law_158 (by decide) ?_
  refine z_iadd B dL_law_159 ?_
  refine z_seti (y := 2) (by decide) ?_
  refine z_sld (j := 2) (x := x2) B hX hbl hbA (by decide) (show ¬ ((2 : Int32) < 0 ∨ 6 ≤ (2 : Int32).toNatClampNeg) by decide) h_x2 dL_law_160 ?_
  refine z_aload_n B dL_law_161 rfl 4 rfl ?_
  refine z_iload B dL_law_162 0 rfl ?_
  refine z_iconst (v := 3) B dL_law_164 (by decide) ?_
  refine z_iadd B dL_law_165 ?_
  refine z_seti (y := 3) (by decide) ?_
  refine z_sld (j := 3) (x := x3) B hX hbl hbA (by decide) (show ¬ ((3 : Int32) < 0 ∨ 6 ≤ (3 : Int32).toNatClampNeg) by decide) h_x3 dL_law_166 ?_
  refine z_aload_n B dL_law_167 rfl 4 rfl ?_
  refine z_iload B dL_law_168 0 rfl ?_
  refine z_iconst (v := 4) B dL_law_170 (by decide) ?_
  refine z_iadd B dL_law_171 ?_
  refine z_seti (y := 4) (by decide) ?_
  refine z_sld (j := 4) (x := x4) B hX hbl hbA (by decide) (show ¬ ((4 : Int32) < 0 ∨ 6 ≤ (4 : Int32).toNatClampNeg) by decide) h_x4 dL_law_172 ?_
  refine z_aload_n B dL_law_173 rfl 4 rfl ?_
  refine z_iload B dL_law_174 0 rfl ?_
  refine z_iconst (v := 5) B dL_law_176 (by decide) ?_
  refine z_iadd B dL_law_177 ?_
  refine z_seti (y := 5) (by decide) ?_
  refine z_sld (j := 5) (x := x5) B hX hbl hbA (by decide) (show ¬ ((5 : Int32) < 0 ∨ 6 ≤ (5 : Int32).toNatClampNeg) by decide) h_x5 dL_law_178 ?_
  refine z_aload_n B dL_law_179 rfl 1 rfl ?_
  refine z_cSWi (As := [.ref (b + 0), .int 2, .int x2, .int x3, .int x4, .int x5, .ref (b + 431)]) (rest := []) B cw_L_74 dL_law_180 (ci_L_set_173 l hlt (σ := (ap b σ [] [] [])) (b := b) (lyA hK) x2 x3 x4 x5 q1_x2 q2_x2 (rR_at 0 0 (fz_R hF 0 0 rfl rfl)) (rR_at 1 2 (fz_R hF 1 2 rfl rfl))) rfl (by decide) rfl (Nat.le_of_ble_eq_true rfl) (by decide) (fun r u hu => ?_)
  obtain ⟨hu1, z, hu⟩ := hu
  refine z_eqs (σ' := (ap b (wx_Z σ z) [] [] [])) (hu.trans az_ap) ?_
  show zx p l e _ s m _ below meth c g 8 _ _ _ _ 183 [(4, .int 0), (3, .ref (b + 431)), (2, .ref (b + 405)), (1, .ref (b + 0)), (0, .ref bS)] _
  refine z_seti (y := 1) hu1 ?_
  refine z_istore (lv' := [(5, .int 1), (4, .int 0), (3, .ref (b + 431)), (2, .ref (b + 405)), (1, .ref (b + 0)), (0, .ref bS)]) B dL_law_183 (by decide) rfl ?_
  refine z_aload_n B dL_law_185 rfl 3 rfl ?_
  refine z_aload_n B dL_law_186 rfl 5 rfl ?_
  refine z_iload B dL_law_187 1 rfl ?_
  refine z_iconst (v := 1) B dL_law_189 (by decide) ?_
  refine z_iadd B dL_law_190 ?_
  refine z_seti (y := 1) (by decide) ?_
  refine z_sld (j := 1) (x := 2) B hX hbl hbA (by decide) (show ¬ ((1 : Int32) < 0 ∨ 6 ≤ (1 : Int32).toNatClampNeg) by decide) h_x1 dL_law_191 ?_
  refine z_aload_n B dL_law_192 rfl 5 rfl ?_
  refine z_iload B dL_law_193 1 rfl ?_
  refine z_iconst (v := 2) B dL_law_195 (by decide) ?_
  refine z_iadd B dL_law_196 ?_
  refine z_seti (y := 2) (by decide) ?_
  refine z_sld (j := 2) (x := x2) B hX hbl hbA (by decide) (show ¬ ((2 : Int32) < 0 ∨ 6 ≤ (2 : Int32).toNatClampNeg) by decide) h_x2 dL_law_197 ?_
  refine z_aload_n B dL_law_198 rfl 5 rfl ?_
  refine z_iload B dL_law_199 1 rfl ?_
  refine z_iconst (v := 3) B dL_law_201 (by decide) ?_
  refine z_iadd B dL_law_202 ?_
  refine z_seti (y := 3) (by decide) ?_
  refine z_sld (j := 3) (x := x3) B hX hbl hbA (by decide) (show ¬ ((3 : Int32) < 0 ∨ 6 ≤ (3 : Int32).toNatClampNeg) by decide) h_x3 dL_law_203 ?_
  refine z_aload_n B dL_law_204 rfl 5 rfl ?_
  refine z_iload B dL_law_205 1 rfl ?_
  refine z_iconst (v := 4) B dL_law_207 (by decide) ?_
  refine z_iadd B dL_law_208 ?_
  refine z_seti (y := 4) (by decide) ?_
  refine z_sld (j := 4) (x := x4) B hX hbl hbA (by decide) (show ¬ ((4 : Int32) < 0 ∨ 6 ≤ (4 : Int32).toNatClampNeg) by decide) h_x4 dL_law_209 ?_
  refine z_aload_n B dL_law_210 rfl 5 rfl ?_
  refine z_iload B dL_law_211 1 rfl ?_
  refine z_iconst (v := 5) B dL_law_213 (by decide) ?_
  refine z_iadd B dL_law_214 ?_
  refine z_seti (y := 5) (by decide) ?_
  refine z_sld (j := 5) (x := x5) B hX hbl hbA (by decide) (show ¬ ((5 : Int32) < 0 ∨ 6 ≤ (5 : Int32).toNatClampNeg) by decide) h_x5 dL_law_215 ?_
  refine z_cVi (As := [.int 2, .int x2, .int x3, .int x4, .int x5]) (rest := []) B cw_L_79 cx_10 dL_law_216 (ci_X9_set_178 l (σ := (ap b (wx_Z σ z) [] [] [])) (b := b) (lyA (lyZ hK)) x2 x3 x4 x5 q1_x2 q2_x2 q1_x3 q2_x3 q1_x4 q2_x4 q1_x5 q2_x5) (lKA (lKZ (hk_K hK 405 rfl rfl))) rfl (by decide) rfl (Nat.le_of_ble_eq_true rfl) (by decide) (fun r u hu => ?_)
  refine z_eqs (σ' := (ap b (wx_Z σ z) [(405, 0, 1)] [] [])) (hu.2.trans ap_ap) ?_
  show zx p l e _ s m _ below meth c g 8 _ _ _ _ 219 [(5, .int 1), (4, .int 0), (3, .ref (b + 431)), (2, .ref (b + 405)), (1, .ref (b + 0)), (0, .ref bS)] _
  refine z_seti (y := 0) hu.1 ?_
  refine z_istore (lv' := [(6, .int 0), (5, .int 1), (4, .int 0), (3, .ref (b + 431)), (2, .ref (b + 405)), (1, .ref (b + 0)), (0, .ref bS)]) B dL_law_219 (by decide) rfl ?_
  refine z_aload_n B dL_law_221 rfl 4 rfl ?_
  refine z_cVi (As := []) (rest := []) B cw_L_80 cx_10 dL_law_222 (ci_X9_thrown_31 l (σ := (ap b (wx_Z σ z) [(405, 0, 1)] [] [])) (b := b) (lyA (lyZ hK)) (rI_at 405 0 rfl)) (lKA (lKZ (hk_K hK 405 rfl rfl))) rfl (by decide) rfl (Nat.le_of_ble_eq_true rfl) (by decide) (fun r u hu => ?_)
  refine z_eqs (σ' := (ap b (wx_Z σ z) [(405, 0, 1)] [] [])) hu.2 ?_
  show zx p l e _ s m _ below meth c g 8 _ _ _ _ 225 [(6, .int 0), (5, .int 1), (4, .int 0), (3, .ref (b + 431)), (2, .ref (b + 405)), (1, .ref (b + 0)), (0, .ref bS)] _
  refine z_seti (y := 1) hu.1 ?_
  refine z_iload B dL_law_225 1 rfl ?_
  refine z_icmp_eq (tgt := 232) B dL_law_227 (by decide) (fun _ => ?_) (fun h => absurd (by decide) h)
  refine z_iload B dL_law_232 1 rfl ?_
  refine z_if_ne (tgt := 249) B dL_law_234 (by decide) (fun _ => ?_) (fun h => absurd h (by decide))
  refine z_goto (tgt := 1395) B dL_law_249 (by decide) ?_
  exact z_widen (Nat.le_of_ble_eq_true rfl) (Nat.le_of_ble_eq_true rfl) (z_sub _ [2, 6] rfl (kk _))
set_option maxRecDepth 100000 in
set_option maxHeartbeats 4000000 in
theorem lf_0_52 {p : Program} {l : Launch} {e : Env} {s : State} {m : MethodId} {args : Array Value} {below : List Frame} {meth : Method} {c : Code} {g : gx_T} {Q : State → Prop} {σ : sx_T} {b t bS : Nat} {xs : Nat → Int32} (hlt : l.stackTraces = false) (B : zx_B p s m args meth c code RL 8 g) (hX : va_X bS 6 xs s s.heap) (hbl : bS < s.heap.size) (hbA : ¬ gx_b g ≤ bS) (hF : fz_P b t σ) (h_x1 : xs 1 = 2) {x2 : Int32} (h_x2 : xs 2 = x2) (q1_x2 : (-2147483648 : Int) ≤ x2.toInt) (q2_x2 : x2.toInt ≤ (-1 : Int)) {x3 : Int32} (h_x3 : xs 3 = x3) (q1_x3 : (0 : Int) ≤ x3.toInt) (q2_x3 : x3.toInt ≤ (17 : Int)) {x4 : Int32} (h_x4 : xs 4 = x4) (q1_x4 : (0 : Int) ≤ x4.toInt) (q2_x4 : x4.toInt ≤ (99 : Int)) {x5 : Int32} (h_x5 : xs 5 = x5) (q1_x5 : (0 : Int) ≤ x5.toInt) (q2_x5 : x5.toInt ≤ (99 : Int)) (kk : ∀ σ', zx p l e room_1 s m args below meth c g 8 600002 7302232 Q σ' 1395 [(4, .int 0), (0, .ref bS)] []) : zx p l e room_1 s m args below meth c g 8 500 100000 Q σ 148 [(4, .int 0), (3, .ref (b + 431)), (2, .ref (b + 405)), (1, .ref (b + 0)), (0, .ref bS)] [] := by
  have hK := fz_lay hF
  refine z_eqs (σ' := (ap b σ [] [] [])) rfl ?_
  refine z_aload_n B dL_law_148 rfl 3 rfl ?_
  refine z_aload_n B dL_law_149 rfl 4 rfl ?_
  refine z_iload B dL_law_150 0 rfl ?_
  refine z_iconst (v := 1) B dL_law_152 (by decide) ?_
  refine z_iadd B dL_law_153 ?_
  refine z_seti (y := 1) (by decide) ?_
  refine z_sld (j := 1) (x := 2) B hX hbl hbA (by decide) (show ¬ ((1 : Int32) < 0 ∨ 6 ≤ (1 : Int32).toNatClampNeg) by decide) h_x1 dL_law_154 ?_
  refine z_aload_n B dL_law_155 rfl 4 rfl ?_
  refine z_iload B dL_law_156 0 rfl ?_
  refine z_iconst (v := 2) B dL_law_158 (by decide) ?_
  refine z_iadd B dL_law_159 ?_
  refine z_seti (y := 2) (by decide) ?_
  refine z_sld (j := 2) (x := x2) B hX hbl hbA (by decide) (show ¬ ((2 : Int32) < 0 ∨ 6 ≤ (2 : Int32).toNatClampNeg) by decide) h_x2 dL_law_160 ?_
  refine z_aload_n B dL_law_161 rfl 4 rfl ?_
  refine z_iload B dL_law_162 0 rfl ?_
  refine z_iconst (v := 3) B dL_law_164 (by decide) ?_
  refine z_iadd B dL_law_165 ?_
  refine z_seti (y := 3) (by decide) ?_
  refine z_sld (j := 3) (x := x3) B hX hbl hbA (by decide) (show ¬ ((3 : Int32) < 0 ∨ 6 ≤ (3 : Int32).toNatClampNeg) by decide) h_x3 dL_law_166 ?_
  refine z_aload_n B dL_law_167 rfl 4 rfl ?_
  refine z_iload B dL_law_168 0 rfl ?_
  refine z_iconst (v := 4) B dL_law_170 (by decide) ?_
  refine z_iadd B dL_law_171 ?_
  refine z_seti (y := 4) (by decide) ?_
  refine z_sld (j := 4) (x := x4) B hX hbl hbA (by decide) (show ¬ ((4 : Int32) < 0 ∨ 6 ≤ (4 : Int32).toNatClampNeg) by decide) h_x4 dL_law_172 ?_
  refine z_aload_n B dL_law_173 rfl 4 rfl ?_
  refine z_iload B dL_law_174 0 rfl ?_
  refine z_iconst (v := 5) B dL_law_176 (by decide) ?_
  refine z_iadd B dL_law_177 ?_
  refine z_seti (y := 5) (by decide) ?_
  refine z_sld (j := 5) (x := x5) B hX hbl hbA (by decide) (show ¬ ((5 : Int32) < 0 ∨ 6 ≤ (5 : Int32).toNatClampNeg) by decide) h_x5 dL_law_178 ?_
  refine z_aload_n B dL_law_179 rfl 1 rfl ?_
  refine z_cSWi (As := [.ref (b + 0), .int 2, .int x2, .int x3, .int x4, .int x5, .ref (b + 431)]) (rest := []) B cw_L_74 dL_law_180 (ci_L_set_173 l hlt (σ := (ap b σ [] [] [])) (b := b) (lyA hK) x2 x3 x4 x5 q1_x2 q2_x2 (rR_at 0 0 (fz_R hF 0 0 rfl rfl)) (rR_at 1 2 (fz_R hF 1 2 rfl rfl))) rfl (by decide) rfl (Nat.le_of_ble_eq_true rfl) (by decide) (fun r u hu => ?_)
  obtain ⟨hu1, z, hu⟩ := hu
  refine z_eqs (σ' := (ap b (wx_Z σ z) [] [] [])) (hu.trans az_ap) ?_
  show zx p l e _ s m _ below meth c g 8 _ _ _ _ 183 [(4, .int 0), (3, .ref (b + 431)), (2, .ref (b + 405)), (1, .ref (b + 0)), (0, .ref bS)] _
  refine z_seti (y := 1) hu1 ?_
  refine z_istore (lv' := [(5, .int 1), (4, .int 0), (3, .ref (b + 431)), (2, .ref (b + 405)), (1, .ref (b + 0)), (0, .ref bS)]) B dL_law_183 (by decide) rfl ?_
  refine z_aload_n B dL_law_185 rfl 3 rfl ?_
  refine z_aload_n B dL_law_186 rfl 5 rfl ?_
  refine z_iload B dL_law_187 1 rfl ?_
  refine z_iconst (v := 1) B dL_law_189 (by decide) ?_
  refine z_iadd B dL_law_190 ?_
  refine z_seti (y := 1) (by decide) ?_
  refine z_sld (j := 1) (x := 2) B hX hbl hbA (by decide) (show ¬ ((1 : Int32) < 0 ∨ 6 ≤ (1 : Int32).toNatClampNeg) by decide) h_x1 dL_law_191 ?_
  refine z_aload_n B dL_law_192 rfl 5 rfl ?_
  refine z_iload B dL_law_193 1 rfl ?_
  refine z_iconst (v := 2) B dL_law_195 (by decide) ?_
  refine z_iadd B dL_law_196 ?_
  refine z_seti (y := 2) (by decide) ?_
  refine z_sld (j := 2) (x := x2) B hX hbl hbA (by decide) (show ¬ ((2 : Int32) < 0 ∨ 6 ≤ (2 : Int32).toNatClampNeg) by decide) h_x2 dL_law_197 ?_
  refine z_aload_n B dL_law_198 rfl 5 rfl ?_
  refine z_iload B dL_law_199 1 rfl ?_
  refine z_iconst (v := 3) B dL_law_201 (by decide) ?_
  refine z_iadd B dL_law_202 ?_
  refine z_seti (y := 3) (by decide) ?_
  refine z_sld (j := 3) (x := x3) B hX hbl hbA (by decide) (show ¬ ((3 : Int32) < 0 ∨ 6 ≤ (3 : Int32).toNatClampNeg) by decide) h_x3 dL_law_203 ?_
  refine z_aload_n B dL_law_204 rfl 5 rfl ?_
  refine z_iload B dL_law_205 1 rfl ?_
  refine z_iconst (v := 4) B dL_law_207 (by decide) ?_
  refine z_iadd B dL_law_208 ?_
  refine z_seti (y := 4) (by decide) ?_
  refine z_sld (j := 4) (x := x4) B hX hbl hbA (by decide) (show ¬ ((4 : Int32) < 0 ∨ 6 ≤ (4 : Int32).toNatClampNeg) by decide) h_x4 dL_law_209 ?_
  refine z_aload_n B dL_law_210 rfl 5 rfl ?_
  refine z_iload B dL_law_211 1 rfl ?_
  refine z_iconst (v := 5) B dL_law_213 (by decide) ?_
  refine z_iadd B dL_law_214 ?_
  refine z_seti (y := 5) (by decide) ?_
  refine z_sld (j := 5) (x := x5) B hX hbl hbA (by decide) (show ¬ ((5 : Int32) < 0 ∨ 6 ≤ (5 : Int32).toNatClampNeg) by decide) h_x5 dL_law_215 ?_
  refine z_cVi (As := [.int 2, .int x2, .int x3, .int x4, .int x5]) (rest := []) B cw_L_79 cx_10 dL_law_216 (ci_X9_set_179 l (σ := (ap b (wx_Z σ z) [] [] [])) (b := b) (lyA (lyZ hK)) x2 x3 x4 x5 q1_x2 q2_x2 q1_x3 q2_x3 q1_x4 q2_x4 q1_x5 q2_x5) (lKA (lKZ (hk_K hK 405 rfl rfl))) rfl (by decide) rfl (Nat.le_of_ble_eq_true rfl) (by decide) (fun r u hu => ?_)
  refine z_eqs (σ' := (ap b (wx_Z σ z) [(405, 0, 1)] [] [])) (hu.2.trans ap_ap) ?_
  show zx p l e _ s m _ below meth c g 8 _ _ _ _ 219 [(5, .int 1), (4, .int 0), (3, .ref (b + 431)), (2, .ref (b + 405)), (1, .ref (b + 0)), (0, .ref bS)] _
  refine z_seti (y := 0) hu.1 ?_
  refine z_istore (lv' := [(6, .int 0), (5, .int 1), (4, .int 0), (3, .ref (b + 431)), (2, .ref (b + 405)), (1, .ref (b + 0)), (0, .ref bS)]) B dL_law_219 (by decide) rfl ?_
  refine z_aload_n B dL_law_221 rfl 4 rfl ?_
  refine z_cVi (As := []) (rest := []) B cw_L_80 cx_10 dL_law_222 (ci_X9_thrown_31 l (σ := (ap b (wx_Z σ z) [(405, 0, 1)] [] [])) (b := b) (lyA (lyZ hK)) (rI_at 405 0 rfl)) (lKA (lKZ (hk_K hK 405 rfl rfl))) rfl (by decide) rfl (Nat.le_of_ble_eq_true rfl) (by decide) (fun r u hu => ?_)
  refine z_eqs (σ' := (ap b (wx_Z σ z) [(405, 0, 1)] [] [])) hu.2 ?_
  show zx p l e _ s m _ below meth c g 8 _ _ _ _ 225 [(6, .int 0), (5, .int 1), (4, .int 0), (3, .ref (b + 431)), (2, .ref (b + 405)), (1, .ref (b + 0)), (0, .ref bS)] _
  refine z_seti (y := 1) hu.1 ?_
  refine z_iload B dL_law_225 1 rfl ?_
  refine z_icmp_eq (tgt := 232) B dL_law_227 (by decide) (fun _ => ?_) (fun h => absurd (by decide) h)
  refine z_iload B dL_law_232 1 rfl ?_
  refine z_if_ne (tgt := 249) B dL_law_234 (by decide) (fun _ => ?_) (fun h => absurd h (by decide))
  refine z_goto (tgt := 1395) B dL_law_249 (by decide) ?_
  exact z_widen (Nat.le_of_ble_eq_true rfl) (Nat.le_of_ble_eq_true rfl) (z_sub _ [2, 6] rfl (kk _))
set_option maxRecDepth 100000 in
set_option maxHeartbeats 4000000 in
theorem lf_0_53 {p : Program} {l : Launch} {e : Env} {s : State} {m : MethodId} {args : Array Value} {below : List Frame} {meth : Method} {c : Code} {g : gx_T} {Q : State → Prop} {σ : sx_T} {b t bS : Nat} {xs : Nat → Int32} (hlt : l.stackTraces = false) (B : zx_B p s m args meth c code RL 8 g) (hX : va_X bS 6 xs s s.heap) (hbl : bS < s.heap.size) (hbA : ¬ gx_b g ≤ bS) (hF : fz_P b t σ) (h_x1 : xs 1 = 2) {x2 : Int32} (h_x2 : xs 2 = x2) (q1_x2 : (-2147483648 : Int) ≤ x2.toInt) (q2_x2 : x2.toInt ≤ (-1 : Int)) {x3 : Int32} (h_x3 : xs 3 = x3) (q1_x3 : (0 : Int) ≤ x3.toInt) (q2_x3 : x3.toInt ≤ (17 : Int)) {x4 : Int32} (h_x4 : xs 4 = x4) (q1_x4 : (0 : Int) ≤ x4.toInt) (q2_x4 : x4.toInt ≤ (99 : Int)) {x5 : Int32} (h_x5 : xs 5 = x5) (q1_x5 : (100 : Int) ≤ x5.toInt) (q2_x5 : x5.toInt ≤ (2147483647 : Int)) (kk : ∀ σ', zx p l e room_1 s m args below meth c g 8 600002 7302232 Q σ' 1395 [(4, .int 0), (0, .ref bS)] []) : zx p l e room_1 s m args below meth c g 8 500 100000 Q σ 148 [(4, .int 0), (3, .ref (b + 431)), (2, .ref (b + 405)), (1, .ref (b + 0)), (0, .ref bS)] [] := by
  have hK := fz_lay hF
  refine z_eqs (σ' := (ap b σ [] [] [])) rfl ?_
  refine z_aload_n B dL_law_148 rfl 3 rfl ?_
  refine z_aload_n B dL_law_149 rfl 4 rfl ?_
  refine z_iload B dL_law_150 0 rfl ?_
  refine z_iconst (v := 1) B dL_law_152 (by decide) ?_
  refine z_iadd B dL_law_153 ?_
  refine z_seti (y := 1) (by decide) ?_
  refine z_sld (j := 1) (x := 2) B hX hbl hbA (by decide) (show ¬ ((1 : Int32) < 0 ∨ 6 ≤ (1 : Int32).toNatClampNeg) by decide) h_x1 dL_law_154 ?_
  refine z_aload_n B dL_law_155 rfl 4 rfl ?_
  refine z_iload B dL_law_156 0 rfl ?_
  refine z_iconst (v := 2) B dL_law_158 (by decide) ?_
  refine z_iadd B dL_law_159 ?_
  refine z_seti (y := 2) (by decide) ?_
  refine z_sld (j := 2) (x := x2) B hX hbl hbA (by decide) (show ¬ ((2 : Int32) < 0 ∨ 6 ≤ (2 : Int32).toNatClampNeg) by decide) h_x2 dL_law_160 ?_
  refine z_aload_n B dL_law_161 rfl 4 rfl ?_
  refine z_iload B dL_law_162 0 rfl ?_
  refine z_iconst (v := 3) B dL_law_164 (by decide) ?_
  refine z_iadd B dL_law_165 ?_
  refine z_seti (y := 3) (by decide) ?_
  refine z_sld (j := 3) (x := x3) B hX hbl hbA (by decide) (show ¬ ((3 : Int32) < 0 ∨ 6 ≤ (3 : Int32).toNatClampNeg) by decide) h_x3 dL_law_166 ?_
  refine z_aload_n B dL_law_167 rfl 4 rfl ?_
  refine z_iload B dL_law_168 0 rfl ?_
  refine z_iconst (v := 4) B dL_law_170 (by decide) ?_
  refine z_iadd B dL_law_171 ?_
  refine z_seti (y := 4) (by decide) ?_
  refine z_sld (j := 4) (x := x4) B hX hbl hbA (by decide) (show ¬ ((4 : Int32) < 0 ∨ 6 ≤ (4 : Int32).toNatClampNeg) by decide) h_x4 dL_law_172 ?_
  refine z_aload_n B dL_law_173 rfl 4 rfl ?_
  refine z_iload B dL_law_174 0 rfl ?_
  refine z_iconst (v := 5) B dL_law_176 (by decide) ?_
  refine z_iadd B dL_law_177 ?_
  refine z_seti (y := 5) (by decide) ?_
  refine z_sld (j := 5) (x := x5) B hX hbl hbA (by decide) (show ¬ ((5 : Int32) < 0 ∨ 6 ≤ (5 : Int32).toNatClampNeg) by decide) h_x5 dL_law_178 ?_
  refine z_aload_n B dL_law_179 rfl 1 rfl ?_
  refine z_cSWi (As := [.ref (b + 0), .int 2, .int x2, .int x3, .int x4, .int x5, .ref (b + 431)]) (rest := []) B cw_L_74 dL_law_180 (ci_L_set_173 l hlt (σ := (ap b σ [] [] [])) (b := b) (lyA hK) x2 x3 x4 x5 q1_x2 q2_x2 (rR_at 0 0 (fz_R hF 0 0 rfl rfl)) (rR_at 1 2 (fz_R hF 1 2 rfl rfl))) rfl (by decide) rfl (Nat.le_of_ble_eq_true rfl) (by decide) (fun r u hu => ?_)
  obtain ⟨hu1, z, hu⟩ := hu
  refine z_eqs (σ' := (ap b (wx_Z σ z) [] [] [])) (hu.trans az_ap) ?_
  show zx p l e _ s m _ below meth c g 8 _ _ _ _ 183 [(4, .int 0), (3, .ref (b + 431)), (2, .ref (b + 405)), (1, .ref (b + 0)), (0, .ref bS)] _
  refine z_seti (y := 1) hu1 ?_
  refine z_istore (lv' := [(5, .int 1), (4, .int 0), (3, .ref (b + 431)), (2, .ref (b + 405)), (1, .ref (b + 0)), (0, .ref bS)]) B dL_law_183 (by decide) rfl ?_
  refine z_aload_n B dL_law_185 rfl 3 rfl ?_
  refine z_aload_n B dL_law_186 rfl 5 rfl ?_
  refine z_iload B dL_law_187 1 rfl ?_
  refine z_iconst (v := 1) B dL_law_189 (by decide) ?_
  refine z_iadd B dL_law_190 ?_
  refine z_seti (y := 1) (by decide) ?_
  refine z_sld (j := 1) (x := 2) B hX hbl hbA (by decide) (show ¬ ((1 : Int32) < 0 ∨ 6 ≤ (1 : Int32).toNatClampNeg) by decide) h_x1 dL_law_191 ?_
  refine z_aload_n B dL_law_192 rfl 5 rfl ?_
  refine z_iload B dL_law_193 1 rfl ?_
  refine z_iconst (v := 2) B dL_law_195 (by decide) ?_
  refine z_iadd B dL_law_196 ?_
  refine z_seti (y := 2) (by decide) ?_
  refine z_sld (j := 2) (x := x2) B hX hbl hbA (by decide) (show ¬ ((2 : Int32) < 0 ∨ 6 ≤ (2 : Int32).toNatClampNeg) by decide) h_x2 dL_law_197 ?_
  refine z_aload_n B dL_law_198 rfl 5 rfl ?_
  refine z_iload B dL_law_199 1 rfl ?_
  refine z_iconst (v := 3) B dL_law_201 (by decide) ?_
  refine z_iadd B dL_law_202 ?_
  refine z_seti (y := 3) (by decide) ?_
  refine z_sld (j := 3) (x := x3) B hX hbl hbA (by decide) (show ¬ ((3 : Int32) < 0 ∨ 6 ≤ (3 : Int32).toNatClampNeg) by decide) h_x3 dL_law_203 ?_
  refine z_aload_n B dL_law_204 rfl 5 rfl ?_
  refine z_iload B dL_law_205 1 rfl ?_
  refine z_iconst (v := 4) B dL_law_207 (by decide) ?_
  refine z_iadd B dL_law_208 ?_
  refine z_seti (y := 4) (by decide) ?_
  refine z_sld (j := 4) (x := x4) B hX hbl hbA (by decide) (show ¬ ((4 : Int32) < 0 ∨ 6 ≤ (4 : Int32).toNatClampNeg) by decide) h_x4 dL_law_209 ?_
  refine z_aload_n B dL_law_210 rfl 5 rfl ?_
  refine z_iload B dL_law_211 1 rfl ?_
  refine z_iconst (v := 5) B dL_law_213 (by decide) ?_
  refine z_iadd B dL_law_214 ?_
  refine z_seti (y := 5) (by decide) ?_
  refine z_sld (j := 5) (x := x5) B hX hbl hbA (by decide) (show ¬ ((5 : Int32) < 0 ∨ 6 ≤ (5 : Int32).toNatClampNeg) by decide) h_x5 dL_law_215 ?_
  refine z_cVi (As := [.int 2, .int x2, .int x3, .int x4, .int x5]) (rest := []) B cw_L_79 cx_10 dL_law_216 (ci_X9_set_180 l (σ := (ap b (wx_Z σ z) [] [] [])) (b := b) (lyA (lyZ hK)) x2 x3 x4 x5 q1_x2 q2_x2 q1_x3 q2_x3 q1_x4 q2_x4 q1_x5 q2_x5) (lKA (lKZ (hk_K hK 405 rfl rfl))) rfl (by decide) rfl (Nat.le_of_ble_eq_true rfl) (by decide) (fun r u hu => ?_)
  refine z_eqs (σ' := (ap b (wx_Z σ z) [(405, 0, 1)] [] [])) (hu.2.trans ap_ap) ?_
  show zx p l e _ s m _ below meth c g 8 _ _ _ _ 219 [(5, .int 1), (4, .int 0), (3, .ref (b + 431)), (2, .ref (b + 405)), (1, .ref (b + 0)), (0, .ref bS)] _
  refine z_seti (y := 0) hu.1 ?_
  refine z_istore (lv' := [(6, .int 0), (5, .int 1), (4, .int 0), (3, .ref (b + 431)), (2, .ref (b + 405)), (1, .ref (b + 0)), (0, .ref bS)]) B dL_law_219 (by decide) rfl ?_
  refine z_aload_n B dL_law_221 rfl 4 rfl ?_
  refine z_cVi (As := []) (rest := []) B cw_L_80 cx_10 dL_law_222 (ci_X9_thrown_31 l (σ := (ap b (wx_Z σ z) [(405, 0, 1)] [] [])) (b := b) (lyA (lyZ hK)) (rI_at 405 0 rfl)) (lKA (lKZ (hk_K hK 405 rfl rfl))) rfl (by decide) rfl (Nat.le_of_ble_eq_true rfl) (by decide) (fun r u hu => ?_)
  refine z_eqs (σ' := (ap b (wx_Z σ z) [(405, 0, 1)] [] [])) hu.2 ?_
  show zx p l e _ s m _ below meth c g 8 _ _ _ _ 225 [(6, .int 0), (5, .int 1), (4, .int 0), (3, .ref (b + 431)), (2, .ref (b + 405)), (1, .ref (b + 0)), (0, .ref bS)] _
  refine z_seti (y := 1) hu.1 ?_
  refine z_iload B dL_law_225 1 rfl ?_
  refine z_icmp_eq (tgt := 232) B dL_law_227 (by decide) (fun _ => ?_) (fun h => absurd (by decide) h)
  refine z_iload B dL_law_232 1 rfl ?_
  refine z_if_ne (tgt := 249) B dL_law_234 (by decide) (fun _ => ?_) (fun h => absurd h (by decide))
  refine z_goto (tgt := 1395) B dL_law_249 (by decide) ?_
  exact z_widen (Nat.le_of_ble_eq_true rfl) (Nat.le_of_ble_eq_true rfl) (z_sub _ [2, 6] rfl (kk _))
set_option maxRecDepth 100000 in
set_option maxHeartbeats 4000000 in
theorem lf_0_54 {p : Program} {l : Launch} {e : Env} {s : State} {m : MethodId} {args : Array Value} {below : List Frame} {meth : Method} {c : Code} {g : gx_T} {Q : State → Prop} {σ : sx_T} {b t bS : Nat} {xs : Nat → Int32} (hlt : l.stackTraces = false) (B : zx_B p s m args meth c code RL 8 g) (hX : va_X bS 6 xs s s.heap) (hbl : bS < s.heap.size) (hbA : ¬ gx_b g ≤ bS) (hF : fz_P b t σ) (h_x1 : xs 1 = 2) {x2 : Int32} (h_x2 : xs 2 = x2) (q1_x2 : (-2147483648 : Int) ≤ x2.toInt) (q2_x2 : x2.toInt ≤ (-1 : Int)) {x3 : Int32} (h_x3 : xs 3 = x3) (q1_x3 : (0 : Int) ≤ x3.toInt) (q2_x3 : x3.toInt ≤ (17 : Int)) {x4 : Int32} (h_x4 : xs 4 = x4) (q1_x4 : (100 : Int) ≤ x4.toInt) (q2_x4 : x4.toInt ≤ (2147483647 : Int)) {x5 : Int32} (h_x5 : xs 5 = x5) (q1_x5 : (-2147483648 : Int) ≤ x5.toInt) (q2_x5 : x5.toInt ≤ (2147483647 : Int)) (kk : ∀ σ', zx p l e room_1 s m args below meth c g 8 600002 7302232 Q σ' 1395 [(4, .int 0), (0, .ref bS)] []) : zx p l e room_1 s m args below meth c g 8 500 100000 Q σ 148 [(4, .int 0), (3, .ref (b + 431)), (2, .ref (b + 405)), (1, .ref (b + 0)), (0, .ref bS)] [] := by
  have hK := fz_lay hF
  refine z_eqs (σ' := (ap b σ [] [] [])) rfl ?_
  refine z_aload_n B dL_law_148 rfl 3 rfl ?_
  refine z_aload_n B dL_law_149 rfl 4 rfl ?_
  refine z_iload B dL_law_150 0 rfl ?_
  refine z_iconst (v := 1) B dL_law_152 (by decide) ?_
  refine z_iadd B dL_law_153 ?_
  refine z_seti (y := 1) (by decide) ?_
  refine z_sld (j := 1) (x := 2) B hX hbl hbA (by decide) (show ¬ ((1 : Int32) < 0 ∨ 6 ≤ (1 : Int32).toNatClampNeg) by decide) h_x1 dL_law_154 ?_
  refine z_aload_n B dL_law_155 rfl 4 rfl ?_
  refine z_iload B dL_law_156 0 rfl ?_
  refine z_iconst (v := 2) B dL_law_158 (by decide) ?_
  refine z_iadd B dL_law_159 ?_
  refine z_seti (y := 2) (by decide) ?_
  refine z_sld (j := 2) (x := x2) B hX hbl hbA (by decide) (show ¬ ((2 : Int32) < 0 ∨ 6 ≤ (2 : Int32).toNatClampNeg) by decide) h_x2 dL_law_160 ?_
  refine z_aload_n B dL_law_161 rfl 4 rfl ?_
  refine z_iload B dL_law_162 0 rfl ?_
  refine z_iconst (v := 3) B dL_law_164 (by decide) ?_
  refine z_iadd B dL_law_165 ?_
  refine z_seti (y := 3) (by decide) ?_
  refine z_sld (j := 3) (x := x3) B hX hbl hbA (by decide) (show ¬ ((3 : Int32) < 0 ∨ 6 ≤ (3 : Int32).toNatClampNeg) by decide) h_x3 dL_law_166 ?_
  refine z_aload_n B dL_law_167 rfl 4 rfl ?_
  refine z_iload B dL_law_168 0 rfl ?_
  refine z_iconst (v := 4) B dL_law_170 (by decide) ?_
  refine z_iadd B dL_law_171 ?_
  refine z_seti (y := 4) (by decide) ?_
  refine z_sld (j := 4) (x := x4) B hX hbl hbA (by decide) (show ¬ ((4 : Int32) < 0 ∨ 6 ≤ (4 : Int32).toNatClampNeg) by decide) h_x4 dL_law_172 ?_
  refine z_aload_n B dL_law_173 rfl 4 rfl ?_
  refine z_iload B dL_law_174 0 rfl ?_
  refine z_iconst (v := 5) B dL_law_176 (by decide) ?_
  refine z_iadd B dL_law_177 ?_
  refine z_seti (y := 5) (by decide) ?_
  refine z_sld (j := 5) (x := x5) B hX hbl hbA (by decide) (show ¬ ((5 : Int32) < 0 ∨ 6 ≤ (5 : Int32).toNatClampNeg) by decide) h_x5 dL_law_178 ?_
  refine z_aload_n B dL_law_179 rfl 1 rfl ?_
  refine z_cSWi (As := [.ref (b + 0), .int 2, .int x2, .int x3, .int x4, .int x5, .ref (b + 431)]) (rest := []) B cw_L_74 dL_law_180 (ci_L_set_173 l hlt (σ := (ap b σ [] [] [])) (b := b) (lyA hK) x2 x3 x4 x5 q1_x2 q2_x2 (rR_at 0 0 (fz_R hF 0 0 rfl rfl)) (rR_at 1 2 (fz_R hF 1 2 rfl rfl))) rfl (by decide) rfl (Nat.le_of_ble_eq_true rfl) (by decide) (fun r u hu => ?_)
  obtain ⟨hu1, z, hu⟩ := hu
  refine z_eqs (σ' := (ap b (wx_Z σ z) [] [] [])) (hu.trans az_ap) ?_
  show zx p l e _ s m _ below meth c g 8 _ _ _ _ 183 [(4, .int 0), (3, .ref (b + 431)), (2, .ref (b + 405)), (1, .ref (b + 0)), (0, .ref bS)] _
  refine z_seti (y := 1) hu1 ?_
  refine z_istore (lv' := [(5, .int 1), (4, .int 0), (3, .ref (b + 431)), (2, .ref (b + 405)), (1, .ref (b + 0)), (0, .ref bS)]) B dL_law_183 (by decide) rfl ?_
  refine z_aload_n B dL_law_185 rfl 3 rfl ?_
  refine z_aload_n B dL_law_186 rfl 5 rfl ?_
  refine z_iload B dL_law_187 1 rfl ?_
  refine z_iconst (v := 1) B dL_law_189 (by decide) ?_
  refine z_iadd B dL_law_190 ?_
  refine z_seti (y := 1) (by decide) ?_
  refine z_sld (j := 1) (x := 2) B hX hbl hbA (by decide) (show ¬ ((1 : Int32) < 0 ∨ 6 ≤ (1 : Int32).toNatClampNeg) by decide) h_x1 dL_law_191 ?_
  refine z_aload_n B dL_law_192 rfl 5 rfl ?_
  refine z_iload B dL_law_193 1 rfl ?_
  refine z_iconst (v := 2) B dL_law_195 (by decide) ?_
  refine z_iadd B dL_law_196 ?_
  refine z_seti (y := 2) (by decide) ?_
  refine z_sld (j := 2) (x := x2) B hX hbl hbA (by decide) (show ¬ ((2 : Int32) < 0 ∨ 6 ≤ (2 : Int32).toNatClampNeg) by decide) h_x2 dL_law_197 ?_
  refine z_aload_n B dL_law_198 rfl 5 rfl ?_
  refine z_iload B dL_law_199 1 rfl ?_
  refine z_iconst (v := 3) B dL_law_201 (by decide) ?_
  refine z_iadd B dL_law_202 ?_
  refine z_seti (y := 3) (by decide) ?_
  refine z_sld (j := 3) (x := x3) B hX hbl hbA (by decide) (show ¬ ((3 : Int32) < 0 ∨ 6 ≤ (3 : Int32).toNatClampNeg) by decide) h_x3 dL_law_203 ?_
  refine z_aload_n B dL_law_204 rfl 5 rfl ?_
  refine z_iload B dL_law_205 1 rfl ?_
  refine z_iconst (v := 4) B dL_law_207 (by decide) ?_
  refine z_iadd B dL_law_208 ?_
  refine z_seti (y := 4) (by decide) ?_
  refine z_sld (j := 4) (x := x4) B hX hbl hbA (by decide) (show ¬ ((4 : Int32) < 0 ∨ 6 ≤ (4 : Int32).toNatClampNeg) by decide) h_x4 dL_law_209 ?_
  refine z_aload_n B dL_law_210 rfl 5 rfl ?_
  refine z_iload B dL_law_211 1 rfl ?_
  refine z_iconst (v := 5) B dL_law_213 (by decide) ?_
  refine z_iadd B dL_law_214 ?_
  refine z_seti (y := 5) (by decide) ?_
  refine z_sld (j := 5) (x := x5) B hX hbl hbA (by decide) (show ¬ ((5 : Int32) < 0 ∨ 6 ≤ (5 : Int32).toNatClampNeg) by decide) h_x5 dL_law_215 ?_
  refine z_cVi (As := [.int 2, .int x2, .int x3, .int x4, .int x5]) (rest := []) B cw_L_79 cx_10 dL_law_216 (ci_X9_set_181 l (σ := (ap b (wx_Z σ z) [] [] [])) (b := b) (lyA (lyZ hK)) x2 x3 x4 x5 q1_x2 q2_x2 q1_x3 q2_x3 q1_x4 q2_x4) (lKA (lKZ (hk_K hK 405 rfl rfl))) rfl (by decide) rfl (Nat.le_of_ble_eq_true rfl) (by decide) (fun r u hu => ?_)
  refine z_eqs (σ' := (ap b (wx_Z σ z) [(405, 0, 1)] [] [])) (hu.2.trans ap_ap) ?_
  show zx p l e _ s m _ below meth c g 8 _ _ _ _ 219 [(5, .int 1), (4, .int 0), (3, .ref (b + 431)), (2, .ref (b + 405)), (1, .ref (b + 0)), (0, .ref bS)] _
  refine z_seti (y := 0) hu.1 ?_
  refine z_istore (lv' := [(6, .int 0), (5, .int 1), (4, .int 0), (3, .ref (b + 431)), (2, .ref (b + 405)), (1, .ref (b + 0)), (0, .ref bS)]) B dL_law_219 (by decide) rfl ?_
  refine z_aload_n B dL_law_221 rfl 4 rfl ?_
  refine z_cVi (As := []) (rest := []) B cw_L_80 cx_10 dL_law_222 (ci_X9_thrown_31 l (σ := (ap b (wx_Z σ z) [(405, 0, 1)] [] [])) (b := b) (lyA (lyZ hK)) (rI_at 405 0 rfl)) (lKA (lKZ (hk_K hK 405 rfl rfl))) rfl (by decide) rfl (Nat.le_of_ble_eq_true rfl) (by decide) (fun r u hu => ?_)
  refine z_eqs (σ' := (ap b (wx_Z σ z) [(405, 0, 1)] [] [])) hu.2 ?_
  show zx p l e _ s m _ below meth c g 8 _ _ _ _ 225 [(6, .int 0), (5, .int 1), (4, .int 0), (3, .ref (b + 431)), (2, .ref (b + 405)), (1, .ref (b + 0)), (0, .ref bS)] _
  refine z_seti (y := 1) hu.1 ?_
  refine z_iload B dL_law_225 1 rfl ?_
  refine z_icmp_eq (tgt := 232) B dL_law_227 (by decide) (fun _ => ?_) (fun h => absurd (by decide) h)
  refine z_iload B dL_law_232 1 rfl ?_
  refine z_if_ne (tgt := 249) B dL_law_234 (by decide) (fun _ => ?_) (fun h => absurd h (by decide))
  refine z_goto (tgt := 1395) B dL_law_249 (by decide) ?_
  exact z_widen (Nat.le_of_ble_eq_true rfl) (Nat.le_of_ble_eq_true rfl) (z_sub _ [2, 6] rfl (kk _))
set_option maxRecDepth 100000 in
set_option maxHeartbeats 4000000 in
theorem lf_0_55 {p : Program} {l : Launch} {e : Env} {s : State} {m : MethodId} {args : Array Value} {below : List Frame} {meth : Method} {c : Code} {g : gx_T} {Q : State → Prop} {σ : sx_T} {b t bS : Nat} {xs : Nat → Int32} (hlt : l.stackTraces = false) (B : zx_B p s m args meth c code RL 8 g) (hX : va_X bS 6 xs s s.heap) (hbl : bS < s.heap.size) (hbA : ¬ gx_b g ≤ bS) (hF : fz_P b t σ) (h_x1 : xs 1 = 2) {x2 : Int32} (h_x2 : xs 2 = x2) (q1_x2 : (-2147483648 : Int) ≤ x2.toInt) (q2_x2 : x2.toInt ≤ (-1 : Int)) {x3 : Int32} (h_x3 : xs 3 = x3) (q1_x3 : (18 : Int) ≤ x3.toInt) (q2_x3 : x3.toInt ≤ (2147483647 : Int)) {x4 : Int32} (h_x4 : xs 4 = x4) (q1_x4 : (-2147483648 : Int) ≤ x4.toInt) (q2_x4 : x4.toInt ≤ (2147483647 : Int)) {x5 : Int32} (h_x5 : xs 5 = x5) (q1_x5 : (-2147483648 : Int) ≤ x5.toInt) (q2_x5 : x5.toInt ≤ (2147483647 : Int)) (kk : ∀ σ', zx p l e room_1 s m args below meth c g 8 600002 7302232 Q σ' 1395 [(4, .int 0), (0, .ref bS)] []) : zx p l e room_1 s m args below meth c g 8 500 100000 Q σ 148 [(4, .int 0), (3, .ref (b + 431)), (2, .ref (b + 405)), (1, .ref (b + 0)), (0, .ref bS)] [] := by
  have hK := fz_lay hF
  refine z_eqs (σ' := (ap b σ [] [] [])) rfl ?_
  refine z_aload_n B dL_law_148 rfl 3 rfl ?_
  refine z_aload_n B dL_law_149 rfl 4 rfl ?_
  refine z_iload B dL_law_150 0 rfl ?_
  refine z_iconst (v := 1) B dL_law_152 (by decide) ?_
  refine z_iadd B dL_law_153 ?_
  refine z_seti (y := 1) (by decide) ?_
  refine z_sld (j := 1) (x := 2) B hX hbl hbA (by decide) (show ¬ ((1 : Int32) < 0 ∨ 6 ≤ (1 : Int32).toNatClampNeg) by decide) h_x1 dL_law_154 ?_
  refine z_aload_n B dL_law_155 rfl 4 rfl ?_
  refine z_iload B dL_law_156 0 rfl ?_
  refine z_iconst (v := 2) B dL_law_158 (by decide) ?_
  refine z_iadd B dL_law_159 ?_
  refine z_seti (y := 2) (by decide) ?_
  refine z_sld (j := 2) (x := x2) B hX hbl hbA (by decide) (show ¬ ((2 : Int32) < 0 ∨ 6 ≤ (2 : Int32).toNatClampNeg) by decide) h_x2 dL_law_160 ?_
  refine z_aload_n B dL_law_161 rfl 4 rfl ?_
  refine z_iload B dL_law_162 0 rfl ?_
  refine z_iconst (v := 3) B dL_law_164 (by decide) ?_
  refine z_iadd B dL_law_165 ?_
  refine z_seti (y := 3) (by decide) ?_
  refine z_sld (j := 3) (x := x3) B hX hbl hbA (by decide) (show ¬ ((3 : Int32) < 0 ∨ 6 ≤ (3 : Int32).toNatClampNeg) by decide) h_x3 dL_law_166 ?_
  refine z_aload_n B dL_law_167 rfl 4 rfl ?_
  refine z_iload B dL_law_168 0 rfl ?_
  refine z_iconst (v := 4) B dL_law_170 (by decide) ?_
  refine z_iadd B dL_law_171 ?_
  refine z_seti (y := 4) (by decide) ?_
  refine z_sld (j := 4) (x := x4) B hX hbl hbA (by decide) (show ¬ ((4 : Int32) < 0 ∨ 6 ≤ (4 : Int32).toNatClampNeg) by decide) h_x4 dL_law_172 ?_
  refine z_aload_n B dL_law_173 rfl 4 rfl ?_
  refine z_iload B dL_law_174 0 rfl ?_
  refine z_iconst (v := 5) B dL_law_176 (by decide) ?_
  refine z_iadd B dL_law_177 ?_
  refine z_seti (y := 5) (by decide) ?_
  refine z_sld (j := 5) (x := x5) B hX hbl hbA (by decide) (show ¬ ((5 : Int32) < 0 ∨ 6 ≤ (5 : Int32).toNatClampNeg) by decide) h_x5 dL_law_178 ?_
  refine z_aload_n B dL_law_179 rfl 1 rfl ?_
  refine z_cSWi (As := [.ref (b + 0), .int 2, .int x2, .int x3, .int x4, .int x5, .ref (b + 431)]) (rest := []) B cw_L_74 dL_law_180 (ci_L_set_173 l hlt (σ := (ap b σ [] [] [])) (b := b) (lyA hK) x2 x3 x4 x5 q1_x2 q2_x2 (rR_at 0 0 (fz_R hF 0 0 rfl rfl)) (rR_at 1 2 (fz_R hF 1 2 rfl rfl))) rfl (by decide) rfl (Nat.le_of_ble_eq_true rfl) (by decide) (fun r u hu => ?_)
  obtain ⟨hu1, z, hu⟩ := hu
  refine z_eqs (σ' := (ap b (wx_Z σ z) [] [] [])) (hu.trans az_ap) ?_
  show zx p l e _ s m _ below meth c g 8 _ _ _ _ 183 [(4, .int 0), (3, .ref (b + 431)), (2, .ref (b + 405)), (1, .ref (b + 0)), (0, .ref bS)] _
  refine z_seti (y := 1) hu1 ?_
  refine z_istore (lv' := [(5, .int 1), (4, .int 0), (3, .ref (b + 431)), (2, .ref (b + 405)), (1, .ref (b + 0)), (0, .ref bS)]) B dL_law_183 (by decide) rfl ?_
  refine z_aload_n B dL_law_185 rfl 3 rfl ?_
  refine z_aload_n B dL_law_186 rfl 5 rfl ?_
  refine z_iload B dL_law_187 1 rfl ?_
  refine z_iconst (v := 1) B dL_law_189 (by decide) ?_
  refine z_iadd B dL_law_190 ?_
  refine z_seti (y := 1) (by decide) ?_
  refine z_sld (j := 1) (x := 2) B hX hbl hbA (by decide) (show ¬ ((1 : Int32) < 0 ∨ 6 ≤ (1 : Int32).toNatClampNeg) by decide) h_x1 dL_law_191 ?_
  refine z_aload_n B dL_law_192 rfl 5 rfl ?_
  refine z_iload B dL_law_193 1 rfl ?_
  refine z_iconst (v := 2) B dL_law_195 (by decide) ?_
  refine z_iadd B dL_law_196 ?_
  refine z_seti (y := 2) (by decide) ?_
  refine z_sld (j := 2) (x := x2) B hX hbl hbA (by decide) (show ¬ ((2 : Int32) < 0 ∨ 6 ≤ (2 : Int32).toNatClampNeg) by decide) h_x2 dL_law_197 ?_
  refine z_aload_n B dL_law_198 rfl 5 rfl ?_
  refine z_iload B dL_law_199 1 rfl ?_
  refine z_iconst (v := 3) B dL_law_201 (by decide) ?_
  refine z_iadd B dL_law_202 ?_
  refine z_seti (y := 3) (by decide) ?_
  refine z_sld (j := 3) (x := x3) B hX hbl hbA (by decide) (show ¬ ((3 : Int32) < 0 ∨ 6 ≤ (3 : Int32).toNatClampNeg) by decide) h_x3 dL_law_203 ?_
  refine z_aload_n B dL_law_204 rfl 5 rfl ?_
  refine z_iload B dL_law_205 1 rfl ?_
  refine z_iconst (v := 4) B dL_law_207 (by decide) ?_
  refine z_iadd B dL_law_208 ?_
  refine z_seti (y := 4) (by decide) ?_
  refine z_sld (j := 4) (x := x4) B hX hbl hbA (by decide) (show ¬ ((4 : Int32) < 0 ∨ 6 ≤ (4 : Int32).toNatClampNeg) by decide) h_x4 dL_law_209 ?_
  refine z_aload_n B dL_law_210 rfl 5 rfl ?_
  refine z_iload B dL_law_211 1 rfl ?_
  refine z_iconst (v := 5) B dL_law_213 (by decide) ?_
  refine z_iadd B dL_law_214 ?_
  refine z_seti (y := 5) (by decide) ?_
  refine z_sld (j := 5) (x := x5) B hX hbl hbA (by decide) (show ¬ ((5 : Int32) < 0 ∨ 6 ≤ (5 : Int32).toNatClampNeg) by decide) h_x5 dL_law_215 ?_
  refine z_cVi (As := [.int 2, .int x2, .int x3, .int x4, .int x5]) (rest := []) B cw_L_79 cx_10 dL_law_216 (ci_X9_set_182 l (σ := (ap b (wx_Z σ z) [] [] [])) (b := b) (lyA (lyZ hK)) x2 x3 x4 x5 q1_x2 q2_x2 q1_x3 q2_x3) (lKA (lKZ (hk_K hK 405 rfl rfl))) rfl (by decide) rfl (Nat.le_of_ble_eq_true rfl) (by decide) (fun r u hu => ?_)
  refine z_eqs (σ' := (ap b (wx_Z σ z) [(405, 0, 1)] [] [])) (hu.2.trans ap_ap) ?_
  show zx p l e _ s m _ below meth c g 8 _ _ _ _ 219 [(5, .int 1), (4, .int 0), (3, .ref (b + 431)), (2, .ref (b + 405)), (1, .ref (b + 0)), (0, .ref bS)] _
  refine z_seti (y := 0) hu.1 ?_
  refine z_istore (lv' := [(6, .int 0), (5, .int 1), (4, .int 0), (3, .ref (b + 431)), (2, .ref (b + 405)), (1, .ref (b + 0)), (0, .ref bS)]) B dL_law_219 (by decide) rfl ?_
  refine z_aload_n B dL_law_221 rfl 4 rfl ?_
  refine z_cVi (As := []) (rest := []) B cw_L_80 cx_10 dL_law_222 (ci_X9_thrown_31 l (σ := (ap b (wx_Z σ z) [(405, 0, 1)] [] [])) (b := b) (lyA (lyZ hK)) (rI_at 405 0 rfl)) (lKA (lKZ (hk_K hK 405 rfl rfl))) rfl (by decide) rfl (Nat.le_of_ble_eq_true rfl) (by decide) (fun r u hu => ?_)
  refine z_eqs (σ' := (ap b (wx_Z σ z) [(405, 0, 1)] [] [])) hu.2 ?_
  show zx p l e _ s m _ below meth c g 8 _ _ _ _ 225 [(6, .int 0), (5, .int 1), (4, .int 0), (3, .ref (b + 431)), (2, .ref (b + 405)), (1, .ref (b + 0)), (0, .ref bS)] _
  refine z_seti (y := 1) hu.1 ?_
  refine z_iload B dL_law_225 1 rfl ?_
  refine z_icmp_eq (tgt := 232) B dL_law_227 (by decide) (fun _ => ?_) (fun h => absurd (by decide) h)
  refine z_iload B dL_law_232 1 rfl ?_
  refine z_if_ne (tgt := 249) B dL_law_234 (by decide) (fun _ => ?_) (fun h => absurd h (by decide))
  refine z_goto (tgt := 1395) B dL_law_249 (by decide) ?_
  exact z_widen (Nat.le_of_ble_eq_true rfl) (Nat.le_of_ble_eq_true rfl) (z_sub _ [2, 6] rfl (kk _))
set_option maxRecDepth 100000 in
set_option maxHeartbeats 4000000 in
theorem lf_0_56 {p : Program} {l : Launch} {e : Env} {s : State} {m : MethodId} {args : Array Value} {below : List Frame} {meth : Method} {c : Code} {g : gx_T} {Q : State → Prop} {σ : sx_T} {b t bS : Nat} {xs : Nat → Int32} (hlt : l.stackTraces = false) (B : zx_B p s m args meth c code RL 8 g) (hX : va_X bS 6 xs s s.heap) (hbl : bS < s.heap.size) (hbA : ¬ gx_b g ≤ bS) (hF : fz_P b t σ) (h_x1 : xs 1 = 2) {x2 : Int32} (h_x2 : xs 2 = x2) (q1_x2 : (0 : Int) ≤ x2.toInt) (q2_x2 : x2.toInt ≤ (19 : Int)) {x3 : Int32} (h_x3 : xs 3 = x3) (q1_x3 : (-2147483648 : Int) ≤ x3.toInt) (q2_x3 : x3.toInt ≤ (-1 : Int)) {x4 : Int32} (h_x4 : xs 4 = x4) (q1_x4 : (-2147483648 : Int) ≤ x4.toInt) (q2_x4 : x4.toInt ≤ (2147483647 : Int)) {x5 : Int32} (h_x5 : xs 5 = x5) (q1_x5 : (-2147483648 : Int) ≤ x5.toInt) (q2_x5 : x5.toInt ≤ (2147483647 : Int)) (kk : ∀ σ', zx p l e room_1 s m args below meth c g 8 600002 7302232 Q σ' 1395 [(4, .int 0), (0, .ref bS)] []) : zx p l e room_1 s m args below meth c g 8 500 100000 Q σ 148 [(4, .int 0), (3, .ref (b + 431)), (2, .ref (b + 405)), (1, .ref (b + 0)), (0, .ref bS)] [] := by
  have hK := fz_lay hF
  refine z_eqs (σ' := (ap b σ [] [] [])) rfl ?_
  refine z_aload_n B dL_law_148 rfl 3 rfl ?_
  refine z_aload_n B dL_law_149 rfl 4 rfl ?_
  refine z_iload B dL_law_150 0 rfl ?_
  refine z_iconst (v := 1) B dL_law_152 (by decide) ?_
  refine z_iadd B dL_law_153 ?_
  refine z_seti (y := 1) (by decide) ?_
  refine z_sld (j := 1) (x := 2) B hX hbl hbA (by decide) (show ¬ ((1 : Int32) < 0 ∨ 6 ≤ (1 : Int32).toNatClampNeg) by decide) h_x1 dL_law_154 ?_
  refine z_aload_n B dL_law_155 rfl 4 rfl ?_
  refine z_iload B dL_law_156 0 rfl ?_
  refine z_iconst (v := 2) B dL_law_158 (by decide) ?_
  refine z_iadd B dL_law_159 ?_
  refine z_seti (y := 2) (by decide) ?_
  refine z_sld (j := 2) (x := x2) B hX hbl hbA (by decide) (show ¬ ((2 : Int32) < 0 ∨ 6 ≤ (2 : Int32).toNatClampNeg) by decide) h_x2 dL_law_160 ?_
  refine z_aload_n B dL_law_161 rfl 4 rfl ?_
  refine z_iload B dL_law_162 0 rfl ?_
  refine z_iconst (v := 3) B dL_law_164 (by decide) ?_
  refine z_iadd B dL_law_165 ?_
  refine z_seti (y := 3) (by decide) ?_
  refine z_sld (j := 3) (x := x3) B hX hbl hbA (by decide) (show ¬ ((3 : Int32) < 0 ∨ 6 ≤ (3 : Int32).toNatClampNeg) by decide) h_x3 dL_law_166 ?_
  refine z_aload_n B dL_law_167 rfl 4 rfl ?_
  refine z_iload B dL_law_168 0 rfl ?_
  refine z_iconst (v := 4) B dL_law_170 (by decide) ?_
  refine z_iadd B dL_law_171 ?_
  refine z_seti (y := 4) (by decide) ?_
  refine z_sld (j := 4) (x := x4) B hX hbl hbA (by decide) (show ¬ ((4 : Int32) < 0 ∨ 6 ≤ (4 : Int32).toNatClampNeg) by decide) h_x4 dL_law_172 ?_
  refine z_aload_n B dL_law_173 rfl 4 rfl ?_
  refine z_iload B dL_law_174 0 rfl ?_
  refine z_iconst (v := 5) B dL_law_176 (by decide) ?_
  refine z_iadd B dL_law_177 ?_
  refine z_seti (y := 5) (by decide) ?_
  refine z_sld (j := 5) (x := x5) B hX hbl hbA (by decide) (show ¬ ((5 : Int32) < 0 ∨ 6 ≤ (5 : Int32).toNatClampNeg) by decide) h_x5 dL_law_178 ?_
  refine z_aload_n B dL_law_179 rfl 1 rfl ?_
  refine z_cSWi (As := [.ref (b + 0), .int 2, .int x2, .int x3, .int x4, .int x5, .ref (b + 431)]) (rest := []) B cw_L_74 dL_law_180 (ci_L_set_184 l hlt (σ := (ap b σ [] [] [])) (b := b) (lyA hK) x2 x3 x4 x5 q1_x2 q2_x2 q1_x3 q2_x3 (rR_at 0 0 (fz_R hF 0 0 rfl rfl)) (rR_at 1 2 (fz_R hF 1 2 rfl rfl))) rfl (by decide) rfl (Nat.le_of_ble_eq_true rfl) (by decide) (fun r u hu => ?_)
  obtain ⟨hu1, z, hu⟩ := hu
  refine z_eqs (σ' := (ap b (wx_Z σ z) [] [] [])) (hu.trans az_ap) ?_
  show zx p l e _ s m _ below meth c g 8 _ _ _ _ 183 [(4, .int 0), (3, .ref (b + 431)), (2, .ref (b + 405)), (1, .ref (b + 0)), (0, .ref bS)] _
  refine z_seti (y := 2) hu1 ?_
  refine z_istore (lv' := [(5, .int 2), (4, .int 0), (3, .ref (b + 431)), (2, .ref (b + 405)), (1, .ref (b + 0)), (0, .ref bS)]) B dL_law_183 (by decide) rfl ?_
  refine z_aload_n B dL_law_185 rfl 3 rfl ?_
  refine z_aload_n B dL_law_186 rfl 5 rfl ?_
  refine z_iload B dL_law_187 1 rfl ?_
  refine z_iconst (v := 1) B dL_law_189 (by decide) ?_
  refine z_iadd B dL_law_190 ?_
  refine z_seti (y := 1) (by decide) ?_
  refine z_sld (j := 1) (x := 2) B hX hbl hbA (by decide) (show ¬ ((1 : Int32) < 0 ∨ 6 ≤ (1 : Int32).toNatClampNeg) by decide) h_x1 dL_law_191 ?_
  refine z_aload_n B dL_law_192 rfl 5 rfl ?_
  refine z_iload B dL_law_193 1 rfl ?_
  refine z_iconst (v := 2) B dL_law_195 (by decide) ?_
  refine z_iadd B dL_law_196 ?_
  refine z_seti (y := 2) (by decide) ?_
  refine z_sld (j := 2) (x := x2) B hX hbl hbA (by decide) (show ¬ ((2 : Int32) < 0 ∨ 6 ≤ (2 : Int32).toNatClampNeg) by decide) h_x2 dL_law_197 ?_
  refine z_aload_n B dL_law_198 rfl 5 rfl ?_
  refine z_iload B dL_law_199 1 rfl ?_
  refine z_iconst (v := 3) B dL_law_201 (by decide) ?_
  refine z_iadd B dL_law_202 ?_
  refine z_seti (y := 3) (by decide) ?_
  refine z_sld (j := 3) (x := x3) B hX hbl hbA (by decide) (show ¬ ((3 : Int32) < 0 ∨ 6 ≤ (3 : Int32).toNatClampNeg) by decide) h_x3 dL_law_203 ?_
  refine z_aload_n B dL_law_204 rfl 5 rfl ?_
  refine z_iload B dL_law_205 1 rfl ?_
  refine z_iconst (v := 4) B dL_law_207 (by decide) ?_
  refine z_iadd B dL_law_208 ?_
  refine z_seti (y := 4) (by decide) ?_
  refine z_sld (j := 4) (x := x4) B hX hbl hbA (by decide) (show ¬ ((4 : Int32) < 0 ∨ 6 ≤ (4 : Int32).toNatClampNeg) by decide) h_x4 dL_law_209 ?_
  refine z_aload_n B dL_law_210 rfl 5 rfl ?_
  refine z_iload B dL_law_211 1 rfl ?_
  refine z_iconst (v := 5) B dL_law_213 (by decide) ?_
  refine z_iadd B dL_law_214 ?_
  refine z_seti (y := 5) (by decide) ?_
  refine z_sld (j := 5) (x := x5) B hX hbl hbA (by decide) (show ¬ ((5 : Int32) < 0 ∨ 6 ≤ (5 : Int32).toNatClampNeg) by decide) h_x5 dL_law_215 ?_
  refine z_cVi (As := [.int 2, .int x2, .int x3, .int x4, .int x5]) (rest := []) B cw_L_79 cx_10 dL_law_216 (ci_X9_set_186 l (σ := (ap b (wx_Z σ z) [] [] [])) (b := b) (lyA (lyZ hK)) x2 x3 x4 x5 q1_x2 q2_x2 q1_x3 q2_x3) (lKA (lKZ (hk_K hK 405 rfl rfl))) rfl (by decide) rfl (Nat.le_of_ble_eq_true rfl) (by decide) (fun r u hu => ?_)
  refine z_eqs (σ' := (ap b (wx_Z σ z) [(405, 0, 2)] [] [])) (hu.2.trans ap_ap) ?_
  show zx p l e _ s m _ below meth c g 8 _ _ _ _ 219 [(5, .int 2), (4, .int 0), (3, .ref (b + 431)), (2, .ref (b + 405)), (1, .ref (b + 0)), (0, .ref bS)] _
  refine z_seti (y := 0) hu.1 ?_
  refine z_istore (lv' := [(6, .int 0), (5, .int 2), (4, .int 0), (3, .ref (b + 431)), (2, .ref (b + 405)), (1, .ref (b + 0)), (0, .ref bS)]) B dL_law_219 (by decide) rfl ?_
  refine z_aload_n B dL_law_221 rfl 4 rfl ?_
  refine z_cVi (As := []) (rest := []) B cw_L_80 cx_10 dL_law_222 (ci_X9_thrown_73 l (σ := (ap b (wx_Z σ z) [(405, 0, 2)] [] [])) (b := b) (lyA (lyZ hK)) (rI_at 405 0 rfl)) (lKA (lKZ (hk_K hK 405 rfl rfl))) rfl (by decide) rfl (Nat.le_of_ble_eq_true rfl) (by decide) (fun r u hu => ?_)
  refine z_eqs (σ' := (ap b (wx_Z σ z) [(405, 0, 2)] [] [])) hu.2 ?_
  show zx p l e _ s m _ below meth c g 8 _ _ _ _ 225 [(6, .int 0), (5, .int 2), (4, .int 0), (3, .ref (b + 431)), (2, .ref (b + 405)), (1, .ref (b + 0)), (0, .ref bS)] _
  refine z_seti (y := 2) hu.1 ?_
  refine z_iload B dL_law_225 1 rfl ?_
  refine z_icmp_eq (tgt := 232) B dL_law_227 (by decide) (fun _ => ?_) (fun h => absurd (by decide) h)
  refine z_iload B dL_law_232 1 rfl ?_
  refine z_if_ne (tgt := 249) B dL_law_234 (by decide) (fun _ => ?_) (fun h => absurd h (by decide))
  refine z_goto (tgt := 1395) B dL_law_249 (by decide) ?_
  exact z_widen (Nat.le_of_ble_eq_true rfl) (Nat.le_of_ble_eq_true rfl) (z_sub _ [2, 6] rfl (kk _))
set_option maxRecDepth 100000 in
set_option maxHeartbeats 4000000 in
theorem lf_0_57 {p : Program} {l : Launch} {e : Env} {s : State} {m : MethodId} {args : Array Value} {below : List Frame} {meth : Method} {c : Code} {g : gx_T} {Q : State → Prop} {σ : sx_T} {b t bS : Nat} {xs : Nat → Int32} (hlt : l.stackTraces = false) (B : zx_B p s m args meth c code RL 8 g) (hX : va_X bS 6 xs s s.heap) (hbl : bS < s.heap.size) (hbA : ¬ gx_b g ≤ bS) (hF : fz_P b t σ) (h_x1 : xs 1 = 2) {x2 : Int32} (h_x2 : xs 2 = x2) (q1_x2 : (0 : Int) ≤ x2.toInt) (q2_x2 : x2.toInt ≤ (19 : Int)) {x3 : Int32} (h_x3 : xs 3 = x3) (q1_x3 : (0 : Int) ≤ x3.toInt) (q2_x3 : x3.toInt ≤ (17 : Int)) {x4 : Int32} (h_x4 : xs 4 = x4) (q1_x4 : (-2147483648 : Int) ≤ x4.toInt) (q2_x4 : x4.toInt ≤ (-1 : Int)) {x5 : Int32} (h_x5 : xs 5 = x5) (q1_x5 : (-2147483648 : Int) ≤ x5.toInt) (q2_x5 : x5.toInt ≤ (2147483647 : Int)) (kk : ∀ σ', zx p l e room_1 s m args below meth c g 8 600002 7302232 Q σ' 1395 [(4, .int 0), (0, .ref bS)] []) : zx p l e room_1 s m args below meth c g 8 500 100000 Q σ 148 [(4, .int 0), (3, .ref (b + 431)), (2, .ref (b + 405)), (1, .ref (b + 0)), (0, .ref bS)] [] := by
  have hK := fz_lay hF
  refine z_eqs (σ' := (ap b σ [] [] [])) rfl ?_
  refine z_aload_n B dL_law_148 rfl 3 rfl ?_
  refine z_aload_n B dL_law_149 rfl 4 rfl ?_
  refine z_iload B dL_law_150 0 rfl ?_
  refine z_iconst (v := 1) B dL_law_152 (by decide) ?_
  refine z_iadd B dL_law_153 ?_
  refine z_seti (y := 1) (by decide) ?_
  refine z_sld (j := 1) (x := 2) B hX hbl hbA (by decide) (show ¬ ((1 : Int32) < 0 ∨ 6 ≤ (1 : Int32).toNatClampNeg) by decide) h_x1 dL_law_154 ?_
  refine z_aload_n B dL_law_155 rfl 4 rfl ?_
  refine z_iload B dL_law_156 0 rfl ?_
  refine z_iconst (v := 2) B dL_law_158 (by decide) ?_
  refine z_iadd B dL_law_159 ?_
  refine z_seti (y := 2) (by decide) ?_
  refine z_sld (j := 2) (x := x2) B hX hbl hbA (by decide) (show ¬ ((2 : Int32) < 0 ∨ 6 ≤ (2 : Int32).toNatClampNeg) by decide) h_x2 dL_law_160 ?_
  refine z_aload_n B dL_law_161 rfl 4 rfl ?_
  refine z_iload B dL_law_162 0 rfl ?_
  refine z_iconst (v := 3) B dL_law_164 (by decide) ?_
  refine z_iadd B dL_law_165 ?_
  refine z_seti (y := 3) (by decide) ?_
  refine z_sld (j := 3) (x := x3) B hX hbl hbA (by decide) (show ¬ ((3 : Int32) < 0 ∨ 6 ≤ (3 : Int32).toNatClampNeg) by decide) h_x3 dL_law_166 ?_
  refine z_aload_n B dL_law_167 rfl 4 rfl ?_
  refine z_iload B dL_law_168 0 rfl ?_
  refine z_iconst (v := 4) B dL_law_170 (by decide) ?_
  refine z_iadd B dL_law_171 ?_
  refine z_seti (y := 4) (by decide) ?_
  refine z_sld (j := 4) (x := x4) B hX hbl hbA (by decide) (show ¬ ((4 : Int32) < 0 ∨ 6 ≤ (4 : Int32).toNatClampNeg) by decide) h_x4 dL_law_172 ?_
  refine z_aload_n B dL_law_173 rfl 4 rfl ?_
  refine z_iload B dL_law_174 0 rfl ?_
  refine z_iconst (v := 5) B dL_law_176 (by decide) ?_
  refine z_iadd B dL_law_177 ?_
  refine z_seti (y := 5) (by decide) ?_
  refine z_sld (j := 5) (x := x5) B hX hbl hbA (by decide) (show ¬ ((5 : Int32) < 0 ∨ 6 ≤ (5 : Int32).toNatClampNeg) by decide) h_x5 dL_law_178 ?_
  refine z_aload_n B dL_law_179 rfl 1 rfl ?_
  refine z_cSWi (As := [.ref (b + 0), .int 2, .int x2, .int x3, .int x4, .int x5, .ref (b + 431)]) (rest := []) B cw_L_74 dL_law_180 (ci_L_set_188 l hlt (σ := (ap b σ [] [] [])) (b := b) (lyA hK) x2 x3 x4 x5 q1_x2 q2_x2 q1_x3 q2_x3 q1_x4 q2_x4 (rR_at 0 0 (fz_R hF 0 0 rfl rfl)) (rR_at 1 2 (fz_R hF 1 2 rfl rfl))) rfl (by decide) rfl (Nat.le_of_ble_eq_true rfl) (by decide) (fun r u hu => ?_)
  obtain ⟨hu1, z, hu⟩ := hu
  refine z_eqs (σ' := (ap b (wx_Z σ z) [] [] [])) (hu.trans az_ap) ?_
  show zx p l e _ s m _ below meth c g 8 _ _ _ _ 183 [(4, .int 0), (3, .ref (b + 431)), (2, .ref (b + 405)), (1, .ref (b + 0)), (0, .ref bS)] _
  refine z_seti (y := 2) hu1 ?_
  refine z_istore (lv' := [(5, .int 2), (4, .int 0), (3, .ref (b + 431)), (2, .ref (b + 405)), (1, .ref (b + 0)), (0, .ref bS)]) B dL_law_183 (by decide) rfl ?_
  refine z_aload_n B dL_law_185 rfl 3 rfl ?_
  refine z_aload_n B dL_law_186 rfl 5 rfl ?_
  refine z_iload B dL_law_187 1 rfl ?_
  refine z_iconst (v := 1) B dL_law_189 (by decide) ?_
  refine z_iadd B dL_law_190 ?_
  refine z_seti (y := 1) (by decide) ?_
  refine z_sld (j := 1) (x := 2) B hX hbl hbA (by decide) (show ¬ ((1 : Int32) < 0 ∨ 6 ≤ (1 : Int32).toNatClampNeg) by decide) h_x1 dL_law_191 ?_
  refine z_aload_n B dL_law_192 rfl 5 rfl ?_
  refine z_iload B dL_law_193 1 rfl ?_
  refine z_iconst (v := 2) B dL_law_195 (by decide) ?_
  refine z_iadd B dL_law_196 ?_
  refine z_seti (y := 2) (by decide) ?_
  refine z_sld (j := 2) (x := x2) B hX hbl hbA (by decide) (show ¬ ((2 : Int32) < 0 ∨ 6 ≤ (2 : Int32).toNatClampNeg) by decide) h_x2 dL_law_197 ?_
  refine z_aload_n B dL_law_198 rfl 5 rfl ?_
  refine z_iload B dL_law_199 1 rfl ?_
  refine z_iconst (v := 3) B dL_law_201 (by decide) ?_
  refine z_iadd B dL_law_202 ?_
  refine z_seti (y := 3) (by decide) ?_
  refine z_sld (j := 3) (x := x3) B hX hbl hbA (by decide) (show ¬ ((3 : Int32) < 0 ∨ 6 ≤ (3 : Int32).toNatClampNeg) by decide) h_x3 dL_law_203 ?_
  refine z_aload_n B dL_law_204 rfl 5 rfl ?_
  refine z_iload B dL_law_205 1 rfl ?_
  refine z_iconst (v := 4) B dL_law_207 (by decide) ?_
  refine z_iadd B dL_law_208 ?_
  refine z_seti (y := 4) (by decide) ?_
  refine z_sld (j := 4) (x := x4) B hX hbl hbA (by decide) (show ¬ ((4 : Int32) < 0 ∨ 6 ≤ (4 : Int32).toNatClampNeg) by decide) h_x4 dL_law_209 ?_
  refine z_aload_n B dL_law_210 rfl 5 rfl ?_
  refine z_iload B dL_law_211 1 rfl ?_
  refine z_iconst (v := 5) B dL_law_213 (by decide) ?_
  refine z_iadd B dL_law_214 ?_
  refine z_seti (y := 5) (by decide) ?_
  refine z_sld (j := 5) (x := x5) B hX hbl hbA (by decide) (show ¬ ((5 : Int32) < 0 ∨ 6 ≤ (5 : Int32).toNatClampNeg) by decide) h_x5 dL_law_215 ?_
  refine z_cVi (As := [.int 2, .int x2, .int x3, .int x4, .int x5]) (rest := []) B cw_L_79 cx_10 dL_law_216 (ci_X9_set_189 l (σ := (ap b (wx_Z σ z) [] [] [])) (b := b) (lyA (lyZ hK)) x2 x3 x4 x5 q1_x2 q2_x2 q1_x3 q2_x3 q1_x4 q2_x4) (lKA (lKZ (hk_K hK 405 rfl rfl))) rfl (by decide) rfl (Nat.le_of_ble_eq_true rfl) (by decide) (fun r u hu => ?_)
  refine z_eqs (σ' := (ap b (wx_Z σ z) [(405, 0, 2)] [] [])) (hu.2.trans ap_ap) ?_
  show zx p l e _ s m _ below meth c g 8 _ _ _ _ 219 [(5, .int 2), (4, .int 0), (3, .ref (b + 431)), (2, .ref (b + 405)), (1, .ref (b + 0)), (0, .ref bS)] _
  refine z_seti (y := 0) hu.1 ?_
  refine z_istore (lv' := [(6, .int 0), (5, .int 2), (4, .int 0), (3, .ref (b + 431)), (2, .ref (b + 405)), (1, .ref (b + 0)), (0, .ref bS)]) B dL_law_219 (by decide) rfl ?_
  refine z_aload_n B dL_law_221 rfl 4 rfl ?_
  refine z_cVi (As := []) (rest := []) B cw_L_80 cx_10 dL_law_222 (ci_X9_thrown_73 l (σ := (ap b (wx_Z σ z) [(405, 0, 2)] [] [])) (b := b) (lyA (lyZ hK)) (rI_at 405 0 rfl)) (lKA (lKZ (hk_K hK 405 rfl rfl))) rfl (by decide) rfl (Nat.le_of_ble_eq_true rfl) (by decide) (fun r u hu => ?_)
  refine z_eqs (σ' := (ap b (wx_Z σ z) [(405, 0, 2)] [] [])) hu.2 ?_
  show zx p l e _ s m _ below meth c g 8 _ _ _ _ 225 [(6, .int 0), (5, .int 2), (4, .int 0), (3, .ref (b + 431)), (2, .ref (b + 405)), (1, .ref (b + 0)), (0, .ref bS)] _
  refine z_seti (y := 2) hu.1 ?_
  refine z_iload B dL_law_225 1 rfl ?_
  refine z_icmp_eq (tgt := 232) B dL_law_227 (by decide) (fun _ => ?_) (fun h => absurd (by decide) h)
  refine z_iload B dL_law_232 1 rfl ?_
  refine z_if_ne (tgt := 249) B dL_law_234 (by decide) (fun _ => ?_) (fun h => absurd h (by decide))
  refine z_goto (tgt := 1395) B dL_law_249 (by decide) ?_
  exact z_widen (Nat.le_of_ble_eq_true rfl) (Nat.le_of_ble_eq_true rfl) (z_sub _ [2, 6] rfl (kk _))
set_option maxRecDepth 100000 in
set_option maxHeartbeats 4000000 in
theorem lf_0_58 {p : Program} {l : Launch} {e : Env} {s : State} {m : MethodId} {args : Array Value} {below : List Frame} {meth : Method} {c : Code} {g : gx_T} {Q : State → Prop} {σ : sx_T} {b t bS : Nat} {xs : Nat → Int32} (hlt : l.stackTraces = false) (B : zx_B p s m args meth c code RL 8 g) (hX : va_X bS 6 xs s s.heap) (hbl : bS < s.heap.size) (hbA : ¬ gx_b g ≤ bS) (hF : fz_P b t σ) (h_x1 : xs 1 = 2) {x2 : Int32} (h_x2 : xs 2 = x2) (q1_x2 : (0 : Int) ≤ x2.toInt) (q2_x2 : x2.toInt ≤ (19 : Int)) {x3 : Int32} (h_x3 : xs 3 = x3) (q1_x3 : (0 : Int) ≤ x3.toInt) (q2_x3 : x3.toInt ≤ (17 : Int)) {x4 : Int32} (h_x4 : xs 4 = x4) (q1_x4 : (0 : Int) ≤ x4.toInt) (q2_x4 : x4.toInt ≤ (99 : Int)) {x5 : Int32} (h_x5 : xs 5 = x5) (q1_x5 : (-2147483648 : Int) ≤ x5.toInt) (q2_x5 : x5.toInt ≤ (-1 : Int)) (kk : ∀ σ', zx p l e room_1 s m args below meth c g 8 600002 7302232 Q σ' 1395 [(4, .int 0), (0, .ref bS)] []) : zx p l e room_1 s m args below meth c g 8 500 100000 Q σ 148 [(4, .int 0), (3, .ref (b + 431)), (2, .ref (b + 405)), (1, .ref (b + 0)), (0, .ref bS)] [] := by
  have hK := fz_lay hF
  refine z_eqs (σ' := (ap b σ [] [] [])) rfl ?_
  refine z_aload_n B dL_law_148 rfl 3 rfl ?_
  refine z_aload_n B dL_law_149 rfl 4 rfl ?_
  refine z_iload B dL_law_150 0 rfl ?_
  refine z_iconst (v := 1) B dL_law_152 (by decide) ?_
  refine z_iadd B dL_law_153 ?_
  refine z_seti (y := 1) (by decide) ?_
  refine z_sld (j := 1) (x := 2) B hX hbl hbA (by decide) (show ¬ ((1 : Int32) < 0 ∨ 6 ≤ (1 : Int32).toNatClampNeg) by decide) h_x1 dL_law_154 ?_
  refine z_aload_n B dL_law_155 rfl 4 rfl ?_
  refine z_iload B dL_law_156 0 rfl ?_
  refine z_iconst (v := 2) B dL_law_158 (by decide) ?_
  refine z_iadd B dL_law_159 ?_
  refine z_seti (y := 2) (by decide) ?_
  refine z_sld (j := 2) (x := x2) B hX hbl hbA (by decide) (show ¬ ((2 : Int32) < 0 ∨ 6 ≤ (2 : Int32).toNatClampNeg) by decide) h_x2 dL_law_160 ?_
  refine z_aload_n B dL_law_161 rfl 4 rfl ?_
  refine z_iload B dL_law_162 0 rfl ?_
  refine z_iconst (v := 3) B dL_law_164 (by decide) ?_
  refine z_iadd B dL_law_165 ?_
  refine z_seti (y := 3) (by decide) ?_
  refine z_sld (j := 3) (x := x3) B hX hbl hbA (by decide) (show ¬ ((3 : Int32) < 0 ∨ 6 ≤ (3 : Int32).toNatClampNeg) by decide) h_x3 dL_law_166 ?_
  refine z_aload_n B dL_law_167 rfl 4 rfl ?_
  refine z_iload B dL_law_168 0 rfl ?_
  refine z_iconst (v := 4) B dL_law_170 (by decide) ?_
  refine z_iadd B dL_law_171 ?_
  refine z_seti (y := 4) (by decide) ?_
  refine z_sld (j := 4) (x := x4) B hX hbl hbA (by decide) (show ¬ ((4 : Int32) < 0 ∨ 6 ≤ (4 : Int32).toNatClampNeg) by decide) h_x4 dL_law_172 ?_
  refine z_aload_n B dL_law_173 rfl 4 rfl ?_
  refine z_iload B dL_law_174 0 rfl ?_
  refine z_iconst (v := 5) B dL_law_176 (by decide) ?_
  refine z_iadd B dL_law_177 ?_
  refine z_seti (y := 5) (by decide) ?_
  refine z_sld (j := 5) (x := x5) B hX hbl hbA (by decide) (show ¬ ((5 : Int32) < 0 ∨ 6 ≤ (5 : Int32).toNatClampNeg) by decide) h_x5 dL_law_178 ?_
  refine z_aload_n B dL_law_179 rfl 1 rfl ?_
  refine z_cSWi (As := [.ref (b + 0), .int 2, .int x2, .int x3, .int x4, .int x5, .ref (b + 431)]) (rest := []) B cw_L_74 dL_law_180 (ci_L_set_191 l hlt (σ := (ap b σ [] [] [])) (b := b) (lyA hK) x2 x3 x4 x5 q1_x2 q2_x2 q1_x3 q2_x3 q1_x4 q2_x4 q1_x5 q2_x5 (rR_at 0 0 (fz_R hF 0 0 rfl rfl)) (rR_at 1 2 (fz_R hF 1 2 rfl rfl))) rfl (by decide) rfl (Nat.le_of_ble_eq_true rfl) (by decide) (fun r u hu => ?_)
  obtain ⟨hu1, z, hu⟩ := hu
  refine z_eqs (σ' := (ap b (wx_Z σ z) [] [] [])) (hu.trans az_ap) ?_
  show zx p l e _ s m _ below meth c g 8 _ _ _ _ 183 [(4, .int 0), (3, .ref (b + 431)), (2, .ref (b + 405)), (1, .ref (b + 0)), (0, .ref bS)] _
  refine z_seti (y := 2) hu1 ?_
  refine z_istore (lv' := [(5, .int 2), (4, .int 0), (3, .ref (b + 431)), (2, .ref (b + 405)), (1, .ref (b + 0)), (0, .ref bS)]) B dL_law_183 (by decide) rfl ?_
  refine z_aload_n B dL_law_185 rfl 3 rfl ?_
  refine z_aload_n B dL_law_186 rfl 5 rfl ?_
  refine z_iload B dL_law_187 1 rfl ?_
  refine z_iconst (v := 1) B dL_law_189 (by decide) ?_
  refine z_iadd B dL_law_190 ?_
  refine z_seti (y := 1) (by decide) ?_
  refine z_sld (j := 1) (x := 2) B hX hbl hbA (by decide) (show ¬ ((1 : Int32) < 0 ∨ 6 ≤ (1 : Int32).toNatClampNeg) by decide) h_x1 dL_law_191 ?_
  refine z_aload_n B dL_law_192 rfl 5 rfl ?_
  refine z_iload B dL_law_193 1 rfl ?_
  refine z_iconst (v := 2) B dL_law_195 (by decide) ?_
  refine z_iadd B dL_law_196 ?_
  refine z_seti (y := 2) (by decide) ?_
  refine z_sld (j := 2) (x := x2) B hX hbl hbA (by decide) (show ¬ ((2 : Int32) < 0 ∨ 6 ≤ (2 : Int32).toNatClampNeg) by decide) h_x2 dL_law_197 ?_
  refine z_aload_n B dL_law_198 rfl 5 rfl ?_
  refine z_iload B dL_law_199 1 rfl ?_
  refine z_iconst (v := 3) B dL_law_201 (by decide) ?_
  refine z_iadd B dL_law_202 ?_
  refine z_seti (y := 3) (by decide) ?_
  refine z_sld (j := 3) (x := x3) B hX hbl hbA (by decide) (show ¬ ((3 : Int32) < 0 ∨ 6 ≤ (3 : Int32).toNatClampNeg) by decide) h_x3 dL_law_203 ?_
  refine z_aload_n B dL_law_204 rfl 5 rfl ?_
  refine z_iload B dL_law_205 1 rfl ?_
  refine z_iconst (v := 4) B dL_law_207 (by decide) ?_
  refine z_iadd B dL_law_208 ?_
  refine z_seti (y := 4) (by decide) ?_
  refine z_sld (j := 4) (x := x4) B hX hbl hbA (by decide) (show ¬ ((4 : Int32) < 0 ∨ 6 ≤ (4 : Int32).toNatClampNeg) by decide) h_x4 dL_law_209 ?_
  refine z_aload_n B dL_law_210 rfl 5 rfl ?_
  refine z_iload B dL_law_211 1 rfl ?_
  refine z_iconst (v := 5) B dL_law_213 (by decide) ?_
  refine z_iadd B dL_law_214 ?_
  refine z_seti (y := 5) (by decide) ?_
  refine z_sld (j := 5) (x := x5) B hX hbl hbA (by decide) (show ¬ ((5 : Int32) < 0 ∨ 6 ≤ (5 : Int32).toNatClampNeg) by decide) h_x5 dL_law_215 ?_
  refine z_cVi (As := [.int 2, .int x2, .int x3, .int x4, .int x5]) (rest := []) B cw_L_79 cx_10 dL_law_216 (ci_X9_set_192 l (σ := (ap b (wx_Z σ z) [] [] [])) (b := b) (lyA (lyZ hK)) x2 x3 x4 x5 q1_x2 q2_x2 q1_x3 q2_x3 q1_x4 q2_x4 q1_x5 q2_x5) (lKA (lKZ (hk_K hK 405 rfl rfl))) rfl (by decide) rfl (Nat.le_of_ble_eq_true rfl) (by decide) (fun r u hu => ?_)
  refine z_eqs (σ' := (ap b (wx_Z σ z) [(405, 0, 2)] [] [])) (hu.2.trans ap_ap) ?_
  show zx p l e _ s m _ below meth c g 8 _ _ _ _ 219 [(5, .int 2), (4, .int 0), (3, .ref (b + 431)), (2, .ref (b + 405)), (1, .ref (b + 0)), (0, .ref bS)] _
  refine z_seti (y := 0) hu.1 ?_
  refine z_istore (lv' := [(6, .int 0), (5, .int 2), (4, .int 0), (3, .ref (b + 431)), (2, .ref (b + 405)), (1, .ref (b + 0)), (0, .ref bS)]) B dL_law_219 (by decide) rfl ?_
  refine z_aload_n B dL_law_221 rfl 4 rfl ?_
  refine z_cVi (As := []) (rest := []) B cw_L_80 cx_10 dL_law_222 (ci_X9_thrown_73 l (σ := (ap b (wx_Z σ z) [(405, 0, 2)] [] [])) (b := b) (lyA (lyZ hK)) (rI_at 405 0 rfl)) (lKA (lKZ (hk_K hK 405 rfl rfl))) rfl (by decide) rfl (Nat.le_of_ble_eq_true rfl) (by decide) (fun r u hu => ?_)
  refine z_eqs (σ' := (ap b (wx_Z σ z) [(405, 0, 2)] [] [])) hu.2 ?_
  show zx p l e _ s m _ below meth c g 8 _ _ _ _ 225 [(6, .int 0), (5, .int 2), (4, .int 0), (3, .ref (b + 431)), (2, .ref (b + 405)), (1, .ref (b + 0)), (0, .ref bS)] _
  refine z_seti (y := 2) hu.1 ?_
  refine z_iload B dL_law_225 1 rfl ?_
  refine z_icmp_eq (tgt := 232) B dL_law_227 (by decide) (fun _ => ?_) (fun h => absurd (by decide) h)
  refine z_iload B dL_law_232 1 rfl ?_
  refine z_if_ne (tgt := 249) B dL_law_234 (by decide) (fun _ => ?_) (fun h => absurd h (by decide))
  refine z_goto (tgt := 1395) B dL_law_249 (by decide) ?_
  exact z_widen (Nat.le_of_ble_eq_true rfl) (Nat.le_of_ble_eq_true rfl) (z_sub _ [2, 6] rfl (kk _))
set_option maxRecDepth 100000 in
set_option maxHeartbeats 4000000 in
theorem lf_0_59 {p : Program} {l : Launch} {e : Env} {s : State} {m : MethodId} {args : Array Value} {below : List Frame} {meth : Method} {c : Code} {g : gx_T} {Q : State → Prop} {σ : sx_T} {b t bS : Nat} {xs : Nat → Int32} (hlt : l.stackTraces = false) (B : zx_B p s m args meth c code RL 8 g) (hX : va_X bS 6 xs s s.heap) (hbl : bS < s.heap.size) (hbA : ¬ gx_b g ≤ bS) (hF : fz_P b t σ) (h_x1 : xs 1 = 2) {x2 : Int32} (h_x2 : xs 2 = x2) (q1_x2 : (0 : Int) ≤ x2.toInt) (q2_x2 : x2.toInt ≤ (19 : Int)) {x3 : Int32} (h_x3 : xs 3 = x3) (q1_x3 : (0 : Int) ≤ x3.toInt) (q2_x3 : x3.toInt ≤ (17 : Int)) {x4 : Int32} (h_x4 : xs 4 = x4) (q1_x4 : (0 : Int) ≤ x4.toInt) (q2_x4 : x4.toInt ≤ (99 : Int)) {x5 : Int32} (h_x5 : xs 5 = x5) (q1_x5 : (0 : Int) ≤ x5.toInt) (q2_x5 : x5.toInt ≤ (99 : Int)) (kk : ∀ σ', zx p l e room_1 s m args below meth c g 8 600002 7302232 Q σ' 1395 [(4, .int 0), (0, .ref bS)] []) : zx p l e room_1 s m args below meth c g 8 500 100000 Q σ 148 [(4, .int 0), (3, .ref (b + 431)), (2, .ref (b + 405)), (1, .ref (b + 0)), (0, .ref bS)] [] := by
  have hK := fz_lay hF
  refine z_eqs (σ' := (ap b σ [] [] [])) rfl ?_
  refine z_aload_n B dL_law_148 rfl 3 rfl ?_
  refine z_aload_n B dL_law_149 rfl 4 rfl ?_
  refine z_iload B dL_law_150 0 rfl ?_
  refine z_iconst (v := 1) B dL_law_152 (by decide) ?_
  refine z_iadd B dL_law_153 ?_
  refine z_seti (y := 1) (by decide) ?_
  refine z_sld (j := 1) (x := 2) B hX hbl hbA (by decide) (show ¬ ((1 : Int32) < 0 ∨ 6 ≤ (1 : Int32).toNatClampNeg) by decide) h_x1 dL_law_154 ?_
  refine z_aload_n B dL_law_155 rfl 4 rfl ?_
  refine z_iload B dL_law_156 0 rfl ?_
  refine z_iconst (v := 2) B dL_law_158 (by decide) ?_
  refine z_iadd B dL_law_159 ?_
  refine z_seti (y := 2) (by decide) ?_
  refine z_sld (j := 2) (x := x2) B hX hbl hbA (by decide) (show ¬ ((2 : Int32) < 0 ∨ 6 ≤ (2 : Int32).toNatClampNeg) by decide) h_x2 dL_law_160 ?_
  refine z_aload_n B dL_law_161 rfl 4 rfl ?_
  refine z_iload B dL_law_162 0 rfl ?_
  refine z_iconst (v := 3) B dL_law_164 (by decide) ?_
  refine z_iadd B dL_law_165 ?_
  refine z_seti (y := 3) (by decide) ?_
  refine z_sld (j := 3) (x := x3) B hX hbl hbA (by decide) (show ¬ ((3 : Int32) < 0 ∨ 6 ≤ (3 : Int32).toNatClampNeg) by decide) h_x3 dL_law_166 ?_
  refine z_aload_n B dL_law_167 rfl 4 rfl ?_
  refine z_iload B dL_law_168 0 rfl ?_
  refine z_iconst (v := 4) B dL_law_170 (by decide) ?_
  refine z_iadd B dL_law_171 ?_
  refine z_seti (y := 4) (by decide) ?_
  refine z_sld (j := 4) (x := x4) B hX hbl hbA (by decide) (show ¬ ((4 : Int32) < 0 ∨ 6 ≤ (4 : Int32).toNatClampNeg) by decide) h_x4 dL_law_172 ?_
  refine z_aload_n B dL_law_173 rfl 4 rfl ?_
  refine z_iload B dL_law_174 0 rfl ?_
  refine z_iconst (v := 5) B dL_law_176 (by decide) ?_
  refine z_iadd B dL_law_177 ?_
  refine z_seti (y := 5) (by decide) ?_
  refine z_sld (j := 5) (x := x5) B hX hbl hbA (by decide) (show ¬ ((5 : Int32) < 0 ∨ 6 ≤ (5 : Int32).toNatClampNeg) by decide) h_x5 dL_law_178 ?_
  refine z_aload_n B dL_law_179 rfl 1 rfl ?_
  refine z_cSWi (As := [.ref (b + 0), .int 2, .int x2, .int x3, .int x4, .int x5, .ref (b + 431)]) (rest := []) B cw_L_74 dL_law_180 (ci_L_set_197 l (σ := (ap b σ [] [] [])) (b := b) (lyA hK) x2 x3 x4 x5 q1_x2 q2_x2 q1_x3 q2_x3 q1_x4 q2_x4 q1_x5 q2_x5 (rI_at 0 7 (fz_I hF 0 7 rfl rfl)) (rR_at 0 0 (fz_R hF 0 0 rfl rfl)) (rR_at 1 2 (fz_R hF 1 2 rfl rfl)) (rR_at 17 1 (fz_R hF 17 1 rfl rfl)) (rR_at 17 2 (fz_R hF 17 2 rfl rfl)) (rR_at 17 3 (fz_R hF 17 3 rfl rfl))) rfl (by decide) rfl (Nat.le_of_ble_eq_true rfl) (by decide) (fun r u hu => ?_)
  refine z_eqs (σ' := (ap b (wx_I (ap b (wx_I (ap b (wx_I (ap b (ap b (ap b (ap b σ [] [] []) [] [] []) [] [] []) [] [] []) (b + 18) x2.toNatClampNeg x3) [] [] []) (b + 19) x2.toNatClampNeg x4) [] [] []) (b + 20) x2.toNatClampNeg x5) [] [(431, 0, 0)] [])) hu.2 ?_
  show zx p l e _ s m _ below meth c g 8 _ _ _ _ 183 [(4, .int 0), (3, .ref (b + 431)), (2, .ref (b + 405)), (1, .ref (b + 0)), (0, .ref bS)] _
  refine z_seti (y := 0) hu.1 ?_
  refine z_istore (lv' := [(5, .int 0), (4, .int 0), (3, .ref (b + 431)), (2, .ref (b + 405)), (1, .ref (b + 0)), (0, .ref bS)]) B dL_law_183 (by decide) rfl ?_
  refine z_aload_n B dL_law_185 rfl 3 rfl ?_
  refine z_aload_n B dL_law_186 rfl 5 rfl ?_
  refine z_iload B dL_law_187 1 rfl ?_
  refine z_iconst (v := 1) B dL_law_189 (by decide) ?_
  refine z_iadd B dL_law_190 ?_
  refine z_seti (y := 1) (by decide) ?_
  refine z_sld (j := 1) (x := 2) B hX hbl hbA (by decide) (show ¬ ((1 : Int32) < 0 ∨ 6 ≤ (1 : Int32).toNatClampNeg) by decide) h_x1 dL_law_191 ?_
  refine z_aload_n B dL_law_192 rfl 5 rfl ?_
  refine z_iload B dL_law_193 1 rfl ?_
  refine z_iconst (v := 2) B dL_law_195 (by decide) ?_
  refine z_iadd B dL_law_196 ?_
  refine z_seti (y := 2) (by decide) ?_
  refine z_sld (j := 2) (x := x2) B hX hbl hbA (by decide) (show ¬ ((2 : Int32) < 0 ∨ 6 ≤ (2 : Int32).toNatClampNeg) by decide) h_x2 dL_law_197 ?_
  refine z_aload_n B dL_law_198 rfl 5 rfl ?_
  refine z_iload B dL_law_199 1 rfl ?_
  refine z_iconst (v := 3) B dL_law_201 (by decide) ?_
  refine z_iadd B dL_law_202 ?_
  refine z_seti (y := 3) (by decide) ?_
  refine z_sld (j := 3) (x := x3) B hX hbl hbA (by decide) (show ¬ ((3 : Int32) < 0 ∨ 6 ≤ (3 : Int32).toNatClampNeg) by decide) h_x3 dL_law_203 ?_
  refine z_aload_n B dL_law_204 rfl 5 rfl ?_
  refine z_iload B dL_law_205 1 rfl ?_
  refine z_iconst (v := 4) B dL_law_207 (by decide) ?_
  refine z_iadd B dL_law_208 ?_
  refine z_seti (y := 4) (by decide) ?_
  refine z_sld (j := 4) (x := x4) B hX hbl hbA (by decide) (show ¬ ((4 : Int32) < 0 ∨ 6 ≤ (4 : Int32).toNatClampNeg) by decide) h_x4 dL_law_209 ?_
  refine z_aload_n B dL_law_210 rfl 5 rfl ?_
  refine z_iload B dL_law_211 1 rfl ?_
  refine z_iconst (v := 5) B dL_law_213 (by decide) ?_
  refine z_iadd B dL_law_214 ?_
  refine z_seti (y := 5) (by decide) ?_
  refine z_sld (j := 5) (x := x5) B hX hbl hbA (by decide) (show ¬ ((5 : Int32) < 0 ∨ 6 ≤ (5 : Int32).toNatClampNeg) by decide) h_x5 dL_law_215 ?_
  refine z_cVi (As := [.int 2, .int x2, .int x3, .int x4, .int x5]) (rest := []) B cw_L_79 cx_10 dL_law_216 (ci_X9_set_200 l (σ := (ap b (wx_I (ap b (wx_I (ap b (wx_I (ap b (ap b (ap b (ap b σ [] [] []) [] [] []) [] [] []) [] [] []) (b + 18) x2.toNatClampNeg x3) [] [] []) (b + 19) x2.toNatClampNeg x4) [] [] []) (b + 20) x2.toNatClampNeg x5) [] [(431, 0, 0)] [])) (b := b) (lyA (lyW (lyA (lyW (lyA (lyW (lyA (lyA (lyA (lyA hK)))))))))) x2 x3 x4 x5 q1_x2 q2_x2 q1_x3 q2_x3 q1_x4 q2_x4 q1_x5 q2_x5 (rI_at 405 6 ((ux_a (by omega)).trans (rI_at 405 6 ((ux_a (by omega)).trans (rI_at 405 6 ((ux_a (by omega)).trans (rI_at 405 6 (rI_at 405 6 (rI_at 405 6 (rI_at 405 6 (fz_I hF 405 6 rfl rfl))))))))))) (rR_at 405 3 (rR_w (rR_at 405 3 (rR_w (rR_at 405 3 (rR_w (rR_at 405 3 (rR_at 405 3 (rR_at 405 3 (rR_at 405 3 (fz_R hF 405 3 rfl rfl))))))))))) (rR_at 405 4 (rR_w (rR_at 405 4 (rR_w (rR_at 405 4 (rR_w (rR_at 405 4 (rR_at 405 4 (rR_at 405 4 (rR_at 405 4 (fz_R hF 405 4 rfl rfl))))))))))) (rR_at 405 5 (rR_w (rR_at 405 5 (rR_w (rR_at 405 5 (rR_w (rR_at 405 5 (rR_at 405 5 (rR_at 405 5 (rR_at 405 5 (fz_R hF 405 5 rfl rfl)))))))))))) (lKA (lKW (lKA (lKW (lKA (lKW (lKA (lKA (lKA (lKA (hk_K hK 405 rfl rfl))))))))))) rfl (by decide) rfl (Nat.le_of_ble_eq_true rfl) (by decide) (fun r u hu => ?_)
  refine z_eqs (σ' := (ap b (wx_I (ap b (wx_I (ap b (wx_I (ap b (ap b (ap b (wx_I (ap b (wx_I (ap b (wx_I (ap b (ap b (ap b (ap b σ [] [] []) [] [] []) [] [] []) [] [] []) (b + 18) x2.toNatClampNeg x3) [] [] []) (b + 19) x2.toNatClampNeg x4) [] [] []) (b + 20) x2.toNatClampNeg x5) [] [(431, 0, 0)] []) [(405, 0, 0)] [] []) [] [] []) (b + 406) (40 + x2).toNatClampNeg x3) [] [] []) (b + 407) (40 + x2).toNatClampNeg x4) [] [] []) (b + 408) (40 + x2).toNatClampNeg x5) [] [] [])) hu.2 ?_
  show zx p l e _ s m _ below meth c g 8 _ _ _ _ 219 [(5, .int 0), (4, .int 0), (3, .ref (b + 431)), (2, .ref (b + 405)), (1, .ref (b + 0)), (0, .ref bS)] _
  refine z_seti (y := 0) hu.1 ?_
  refine z_istore (lv' := [(6, .int 0), (5, .int 0), (4, .int 0), (3, .ref (b + 431)), (2, .ref (b + 405)), (1, .ref (b + 0)), (0, .ref bS)]) B dL_law_219 (by decide) rfl ?_
  refine z_aload_n B dL_law_221 rfl 4 rfl ?_
  refine z_cVi (As := []) (rest := []) B cw_L_80 cx_10 dL_law_222 (ci_X9_thrown_95 l (σ := (ap b (wx_I (ap b (wx_I (ap b (wx_I (ap b (ap b (ap b (wx_I (ap b (wx_I (ap b (wx_I (ap b (ap b (ap b (ap b σ [] [] []) [] [] []) [] [] []) [] [] []) (b + 18) x2.toNatClampNeg x3) [] [] []) (b + 19) x2.toNatClampNeg x4) [] [] []) (b + 20) x2.toNatClampNeg x5) [] [(431, 0, 0)] []) [(405, 0, 0)] [] []) [] [] []) (b + 406) (40 + x2).toNatClampNeg x3) [] [] []) (b + 407) (40 + x2).toNatClampNeg x4) [] [] []) (b + 408) (40 + x2).toNatClampNeg x5) [] [] [])) (b := b) (lyA (lyW (lyA (lyW (lyA (lyW (lyA (lyA (lyA (lyW (lyA (lyW (lyA (lyW (lyA (lyA (lyA (lyA hK)))))))))))))))))) (rI_at 405 0 ((ux_a (by omega)).trans (rI_at 405 0 ((ux_a (by omega)).trans (rI_at 405 0 ((ux_a (by omega)).trans (rI_at 405 0 (rI_at 405 0 rfl))))))))) (lKA (lKW (lKA (lKW (lKA (lKW (lKA (lKA (lKA (lKW (lKA (lKW (lKA (lKW (lKA (lKA (lKA (lKA (hk_K hK 405 rfl rfl))))))))))))))))))) rfl (by decide) rfl (Nat.le_of_ble_eq_true rfl) (by decide) (fun r u hu => ?_)
  refine z_eqs (σ' := (ap b (wx_I (ap b (wx_I (ap b (wx_I (ap b (ap b (ap b (wx_I (ap b (wx_I (ap b (wx_I (ap b (ap b (ap b (ap b σ [] [] []) [] [] []) [] [] []) [] [] []) (b + 18) x2.toNatClampNeg x3) [] [] []) (b + 19) x2.toNatClampNeg x4) [] [] []) (b + 20) x2.toNatClampNeg x5) [] [(431, 0, 0)] []) [(405, 0, 0)] [] []) [] [] []) (b + 406) (40 + x2).toNatClampNeg x3) [] [] []) (b + 407) (40 + x2).toNatClampNeg x4) [] [] []) (b + 408) (40 + x2).toNatClampNeg x5) [] [] [])) hu.2 ?_
  show zx p l e _ s m _ below meth c g 8 _ _ _ _ 225 [(6, .int 0), (5, .int 0), (4, .int 0), (3, .ref (b + 431)), (2, .ref (b + 405)), (1, .ref (b + 0)), (0, .ref bS)] _
  refine z_seti (y := 0) hu.1 ?_
  refine z_iload B dL_law_225 1 rfl ?_
  refine z_icmp_eq (tgt := 232) B dL_law_227 (by decide) (fun _ => ?_) (fun h => absurd (by decide) h)
  refine z_iload B dL_law_232 1 rfl ?_
  refine z_if_ne (tgt := 249) B dL_law_234 (by decide) (fun h => absurd (by decide) h) (fun _ => ?_)
  refine z_aload_n B dL_law_237 rfl 3 rfl ?_
  refine z_iconst (v := 0) B dL_law_238 (by decide) ?_
  refine z_lald (j := 0) (x := 0) B (lKA (lKW (lKA (lKW (lKA (lKW (lKA (lKA (lKA (lKW (lKA (lKW (lKA (lKW (lKA (lKA (lKA (lKA (hk_K hK 431 rfl rfl))))))))))))))))))) (by decide) (in_of (lNA (lNW (lNA (lNW (lNA (lNW (lNA (lNA (lNA (lNW (lNA (lNW (lNA (lNW (lNA (lNA (lNA (lNA (hk_N hK 431 rfl rfl))))))))))))))))))) (show ¬ ((0 : Int32) < 0 ∨ 1 ≤ (0 : Int32).toNatClampNeg) by decide)) (rJ_at 431 0 (rJ_w (rJ_at 431 0 (rJ_w (rJ_at 431 0 (rJ_w (rJ_at 431 0 (rJ_at 431 0 (rJ_at 431 0 rfl))))))))) dL_law_239 ?_
  refine z_iload B dL_law_240 0 rfl ?_
  refine z_i2l (v := 0) B dL_law_242 (by decide) ?_
  refine z_lcmp (v := 0) B dL_law_243 (by decide) ?_
  refine z_if_eq (tgt := 249) B dL_law_244 (by decide) (fun _ => ?_) (fun h => absurd (by decide) h)
  refine z_goto (tgt := 1395) B dL_law_249 (by decide) ?_
  exact z_widen (Nat.le_of_ble_eq_true rfl) (Nat.le_of_ble_eq_true rfl) (z_sub _ [2, 6] rfl (kk _))
set_option maxRecDepth 100000 in
set_option maxHeartbeats 4000000 in
theorem lf_0_60 {p : Program} {l : Launch} {e : Env} {s : State} {m : MethodId} {args : Array Value} {below : List Frame} {meth : Method} {c : Code} {g : gx_T} {Q : State → Prop} {σ : sx_T} {b t bS : Nat} {xs : Nat → Int32} (hlt : l.stackTraces = false) (B : zx_B p s m args meth c code RL 8 g) (hX : va_X bS 6 xs s s.heap) (hbl : bS < s.heap.size) (hbA : ¬ gx_b g ≤ bS) (hF : fz_P b t σ) (h_x1 : xs 1 = 2) {x2 : Int32} (h_x2 : xs 2 = x2) (q1_x2 : (0 : Int) ≤ x2.toInt) (q2_x2 : x2.toInt ≤ (19 : Int)) {x3 : Int32} (h_x3 : xs 3 = x3) (q1_x3 : (0 : Int) ≤ x3.toInt) (q2_x3 : x3.toInt ≤ (17 : Int)) {x4 : Int32} (h_x4 : xs 4 = x4) (q1_x4 : (0 : Int) ≤ x4.toInt) (q2_x4 : x4.toInt ≤ (99 : Int)) {x5 : Int32} (h_x5 : xs 5 = x5) (q1_x5 : (100 : Int) ≤ x5.toInt) (q2_x5 : x5.toInt ≤ (2147483647 : Int)) (kk : ∀ σ', zx p l e room_1 s m args below meth c g 8 600002 7302232 Q σ' 1395 [(4, .int 0), (0, .ref bS)] []) : zx p l e room_1 s m args below meth c g 8 500 100000 Q σ 148 [(4, .int 0), (3, .ref (b + 431)), (2, .ref (b + 405)), (1, .ref (b + 0)), (0, .ref bS)] [] := by
  have hK := fz_lay hF
  refine z_eqs (σ' := (ap b σ [] [] [])) rfl ?_
  refine z_aload_n B dL_law_148 rfl 3 rfl ?_
  refine z_aload_n B dL_law_149 rfl 4 rfl ?_
  refine z_iload B dL_law_150 0 rfl ?_
  refine z_iconst (v := 1) B dL_law_152 (by decide) ?_
  refine z_iadd B dL_law_153 ?_
  refine z_seti (y := 1) (by decide) ?_
  refine z_sld (j := 1) (x := 2) B hX hbl hbA (by decide) (show ¬ ((1 : Int32) < 0 ∨ 6 ≤ (1 : Int32).toNatClampNeg) by decide) h_x1 dL_law_154 ?_
  refine z_aload_n B dL_law_155 rfl 4 rfl ?_
  refine z_iload B dL_law_156 0 rfl ?_
  refine z_iconst (v := 2) B dL_law_158 (by decide) ?_
  refine z_iadd B dL_law_159 ?_
  refine z_seti (y := 2) (by decide) ?_
  refine z_sld (j := 2) (x := x2) B hX hbl hbA (by decide) (show ¬ ((2 : Int32) < 0 ∨ 6 ≤ (2 : Int32).toNatClampNeg) by decide) h_x2 dL_law_160 ?_
  refine z_aload_n B dL_law_161 rfl 4 rfl ?_
  refine z_iload B dL_law_162 0 rfl ?_
  refine z_iconst (v := 3) B dL_law_164 (by decide) ?_
  refine z_iadd B dL_law_165 ?_
  refine z_seti (y := 3) (by decide) ?_
  refine z_sld (j := 3) (x := x3) B hX hbl hbA (by decide) (show ¬ ((3 : Int32) < 0 ∨ 6 ≤ (3 : Int32).toNatClampNeg) by decide) h_x3 dL_law_166 ?_
  refine z_aload_n B dL_law_167 rfl 4 rfl ?_
  refine z_iload B dL_law_168 0 rfl ?_
  refine z_iconst (v := 4) B dL_law_170 (by decide) ?_
  refine z_iadd B dL_law_171 ?_
  refine z_seti (y := 4) (by decide) ?_
  refine z_sld (j := 4) (x := x4) B hX hbl hbA (by decide) (show ¬ ((4 : Int32) < 0 ∨ 6 ≤ (4 : Int32).toNatClampNeg) by decide) h_x4 dL_law_172 ?_
  refine z_aload_n B dL_law_173 rfl 4 rfl ?_
  refine z_iload B dL_law_174 0 rfl ?_
  refine z_iconst (v := 5) B dL_law_176 (by decide) ?_
  refine z_iadd B dL_law_177 ?_
  refine z_seti (y := 5) (by decide) ?_
  refine z_sld (j := 5) (x := x5) B hX hbl hbA (by decide) (show ¬ ((5 : Int32) < 0 ∨ 6 ≤ (5 : Int32).toNatClampNeg) by decide) h_x5 dL_law_178 ?_
  refine z_aload_n B dL_law_179 rfl 1 rfl ?_
  refine z_cSWi (As := [.ref (b + 0), .int 2, .int x2, .int x3, .int x4, .int x5, .ref (b + 431)]) (rest := []) B cw_L_74 dL_law_180 (ci_L_set_202 l hlt (σ := (ap b σ [] [] [])) (b := b) (lyA hK) x2 x3 x4 x5 q1_x2 q2_x2 q1_x3 q2_x3 q1_x4 q2_x4 q1_x5 q2_x5 (rR_at 0 0 (fz_R hF 0 0 rfl rfl)) (rR_at 1 2 (fz_R hF 1 2 rfl rfl))) rfl (by decide) rfl (Nat.le_of_ble_eq_true rfl) (by decide) (fun r u hu => ?_)
  obtain ⟨hu1, z, hu⟩ := hu
  refine z_eqs (σ' := (ap b (wx_Z σ z) [] [] [])) (hu.trans az_ap) ?_
  show zx p l e _ s m _ below meth c g 8 _ _ _ _ 183 [(4, .int 0), (3, .ref (b + 431)), (2, .ref (b + 405)), (1, .ref (b + 0)), (0, .ref bS)] _
  refine z_seti (y := 2) hu1 ?_
  refine z_istore (lv' := [(5, .int 2), (4, .int 0), (3, .ref (b + 431)), (2, .ref (b + 405)), (1, .ref (b + 0)), (0, .ref bS)]) B dL_law_183 (by decide) rfl ?_
  refine z_aload_n B dL_law_185 rfl 3 rfl ?_
  refine z_aload_n B dL_law_186 rfl 5 rfl ?_
  refine z_iload B dL_law_187 1 rfl ?_
  refine z_iconst (v := 1) B dL_law_189 (by decide) ?_
  refine z_iadd B dL_law_190 ?_
  refine z_seti (y := 1) (by decide) ?_
  refine z_sld (j := 1) (x := 2) B hX hbl hbA (by decide) (show ¬ ((1 : Int32) < 0 ∨ 6 ≤ (1 : Int32).toNatClampNeg) by decide) h_x1 dL_law_191 ?_
  refine z_aload_n B dL_law_192 rfl 5 rfl ?_
  refine z_iload B dL_law_193 1 rfl ?_
  refine z_iconst (v := 2) B dL_law_195 (by decide) ?_
  refine z_iadd B dL_law_196 ?_
  refine z_seti (y := 2) (by decide) ?_
  refine z_sld (j := 2) (x := x2) B hX hbl hbA (by decide) (show ¬ ((2 : Int32) < 0 ∨ 6 ≤ (2 : Int32).toNatClampNeg) by decide) h_x2 dL_law_197 ?_
  refine z_aload_n B dL_law_198 rfl 5 rfl ?_
  refine z_iload B dL_law_199 1 rfl ?_
  refine z_iconst (v := 3) B dL_law_201 (by decide) ?_
  refine z_iadd B dL_law_202 ?_
  refine z_seti (y := 3) (by decide) ?_
  refine z_sld (j := 3) (x := x3) B hX hbl hbA (by decide) (show ¬ ((3 : Int32) < 0 ∨ 6 ≤ (3 : Int32).toNatClampNeg) by decide) h_x3 dL_law_203 ?_
  refine z_aload_n B dL_law_204 rfl 5 rfl ?_
  refine z_iload B dL_law_205 1 rfl ?_
  refine z_iconst (v := 4) B dL_law_207 (by decide) ?_
  refine z_iadd B dL_law_208 ?_
  refine z_seti (y := 4) (by decide) ?_
  refine z_sld (j := 4) (x := x4) B hX hbl hbA (by decide) (show ¬ ((4 : Int32) < 0 ∨ 6 ≤ (4 : Int32).toNatClampNeg) by decide) h_x4 dL_law_209 ?_
  refine z_aload_n B dL_law_210 rfl 5 rfl ?_
  refine z_iload B dL_law_211 1 rfl ?_
  refine z_iconst (v := 5) B dL_law_213 (by decide) ?_
  refine z_iadd B dL_law_214 ?_
  refine z_seti (y := 5) (by decide) ?_
  refine z_sld (j := 5) (x := x5) B hX hbl hbA (by decide) (show ¬ ((5 : Int32) < 0 ∨ 6 ≤ (5 : Int32).toNatClampNeg) by decide) h_x5 dL_law_215 ?_
  refine z_cVi (As := [.int 2, .int x2, .int x3, .int x4, .int x5]) (rest := []) B cw_L_79 cx_10 dL_law_216 (ci_X9_set_203 l (σ := (ap b (wx_Z σ z) [] [] [])) (b := b) (lyA (lyZ hK)) x2 x3 x4 x5 q1_x2 q2_x2 q1_x3 q2_x3 q1_x4 q2_x4 q1_x5 q2_x5) (lKA (lKZ (hk_K hK 405 rfl rfl))) rfl (by decide) rfl (Nat.le_of_ble_eq_true rfl) (by decide) (fun r u hu => ?_)
  refine z_eqs (σ' := (ap b (wx_Z σ z) [(405, 0, 2)] [] [])) (hu.2.trans ap_ap) ?_
  show zx p l e _ s m _ below meth c g 8 _ _ _ _ 219 [(5, .int 2), (4, .int 0), (3, .ref (b + 431)), (2, .ref (b + 405)), (1, .ref (b + 0)), (0, .ref bS)] _
  refine z_seti (y := 0) hu.1 ?_
  refine z_istore (lv' := [(6, .int 0), (5, .int 2), (4, .int 0), (3, .ref (b + 431)), (2, .ref (b + 405)), (1, .ref (b + 0)), (0, .ref bS)]) B dL_law_219 (by decide) rfl ?_
  refine z_aload_n B dL_law_221 rfl 4 rfl ?_
  refine z_cVi (As := []) (rest := []) B cw_L_80 cx_10 dL_law_222 (ci_X9_thrown_73 l (σ := (ap b (wx_Z σ z) [(405, 0, 2)] [] [])) (b := b) (lyA (lyZ hK)) (rI_at 405 0 rfl)) (lKA (lKZ (hk_K hK 405 rfl rfl))) rfl (by decide) rfl (Nat.le_of_ble_eq_true rfl) (by decide) (fun r u hu => ?_)
  refine z_eqs (σ' := (ap b (wx_Z σ z) [(405, 0, 2)] [] [])) hu.2 ?_
  show zx p l e _ s m _ below meth c g 8 _ _ _ _ 225 [(6, .int 0), (5, .int 2), (4, .int 0), (3, .ref (b + 431)), (2, .ref (b + 405)), (1, .ref (b + 0)), (0, .ref bS)] _
  refine z_seti (y := 2) hu.1 ?_
  refine z_iload B dL_law_225 1 rfl ?_
  refine z_icmp_eq (tgt := 232) B dL_law_227 (by decide) (fun _ => ?_) (fun h => absurd (by decide) h)
  refine z_iload B dL_law_232 1 rfl ?_
  refine z_if_ne (tgt := 249) B dL_law_234 (by decide) (fun _ => ?_) (fun h => absurd h (by decide))
  refine z_goto (tgt := 1395) B dL_law_249 (by decide) ?_
  exact z_widen (Nat.le_of_ble_eq_true rfl) (Nat.le_of_ble_eq_true rfl) (z_sub _ [2, 6] rfl (kk _))
set_option maxRecDepth 100000 in
set_option maxHeartbeats 4000000 in
theorem lf_0_61 {p : Program} {l : Launch} {e : Env} {s : State} {m : MethodId} {args : Array Value} {below : List Frame} {meth : Method} {c : Code} {g : gx_T} {Q : State → Prop} {σ : sx_T} {b t bS : Nat} {xs : Nat → Int32} (hlt : l.stackTraces = false) (B : zx_B p s m args meth c code RL 8 g) (hX : va_X bS 6 xs s s.heap) (hbl : bS < s.heap.size) (hbA : ¬ gx_b g ≤ bS) (hF : fz_P b t σ) (h_x1 : xs 1 = 2) {x2 : Int32} (h_x2 : xs 2 = x2) (q1_x2 : (0 : Int) ≤ x2.toInt) (q2_x2 : x2.toInt ≤ (19 : Int)) {x3 : Int32} (h_x3 : xs 3 = x3) (q1_x3 : (0 : Int) ≤ x3.toInt) (q2_x3 : x3.toInt ≤ (17 : Int)) {x4 : Int32} (h_x4 : xs 4 = x4) (q1_x4 : (100 : Int) ≤ x4.toInt) (q2_x4 : x4.toInt ≤ (2147483647 : Int)) {x5 : Int32} (h_x5 : xs 5 = x5) (q1_x5 : (-2147483648 : Int) ≤ x5.toInt) (q2_x5 : x5.toInt ≤ (2147483647 : Int)) (kk : ∀ σ', zx p l e room_1 s m args below meth c g 8 600002 7302232 Q σ' 1395 [(4, .int 0), (0, .ref bS)] []) : zx p l e room_1 s m args below meth c g 8 500 100000 Q σ 148 [(4, .int 0), (3, .ref (b + 431)), (2, .ref (b + 405)), (1, .ref (b + 0)), (0, .ref bS)] [] := by
  have hK := fz_lay hF
  refine z_eqs (σ' := (ap b σ [] [] [])) rfl ?_
  refine z_aload_n B dL_law_148 rfl 3 rfl ?_
  refine z_aload_n B dL_law_149 rfl 4 rfl ?_
  refine z_iload B dL_law_150 0 rfl ?_
  refine z_iconst (v := 1) B dL_law_152 (by decide) ?_
  refine z_iadd B dL_law_153 ?_
  refine z_seti (y := 1) (by decide) ?_
  refine z_sld (j := 1) (x := 2) B hX hbl hbA (by decide) (show ¬ ((1 : Int32) < 0 ∨ 6 ≤ (1 : Int32).toNatClampNeg) by decide) h_x1 dL_law_154 ?_
  refine z_aload_n B dL_law_155 rfl 4 rfl ?_
  refine z_iload B dL_law_156 0 rfl ?_
  refine z_iconst (v := 2) B dL_law_158 (by decide) ?_
  refine z_iadd B dL_law_159 ?_
  refine z_seti (y := 2) (by decide) ?_
  refine z_sld (j := 2) (x := x2) B hX hbl hbA (by decide) (show ¬ ((2 : Int32) < 0 ∨ 6 ≤ (2 : Int32).toNatClampNeg) by decide) h_x2 dL_law_160 ?_
  refine z_aload_n B dL_law_161 rfl 4 rfl ?_
  refine z_iload B dL_law_162 0 rfl ?_
  refine z_iconst (v := 3) B dL_law_164 (by decide) ?_
  refine z_iadd B dL_law_165 ?_
  refine z_seti (y := 3) (by decide) ?_
  refine z_sld (j := 3) (x := x3) B hX hbl hbA (by decide) (show ¬ ((3 : Int32) < 0 ∨ 6 ≤ (3 : Int32).toNatClampNeg) by decide) h_x3 dL_law_166 ?_
  refine z_aload_n B dL_law_167 rfl 4 rfl ?_
  refine z_iload B dL_law_168 0 rfl ?_
  refine z_iconst (v := 4) B dL_law_170 (by decide) ?_
  refine z_iadd B dL_law_171 ?_
  refine z_seti (y := 4) (by decide) ?_
  refine z_sld (j := 4) (x := x4) B hX hbl hbA (by decide) (show ¬ ((4 : Int32) < 0 ∨ 6 ≤ (4 : Int32).toNatClampNeg) by decide) h_x4 dL_law_172 ?_
  refine z_aload_n B dL_law_173 rfl 4 rfl ?_
  refine z_iload B dL_law_174 0 rfl ?_
  refine z_iconst (v := 5) B dL_law_176 (by decide) ?_
  refine z_iadd B dL_law_177 ?_
  refine z_seti (y := 5) (by decide) ?_
  refine z_sld (j := 5) (x := x5) B hX hbl hbA (by decide) (show ¬ ((5 : Int32) < 0 ∨ 6 ≤ (5 : Int32).toNatClampNeg) by decide) h_x5 dL_law_178 ?_
  refine z_aload_n B dL_law_179 rfl 1 rfl ?_
  refine z_cSWi (As := [.ref (b + 0), .int 2, .int x2, .int x3, .int x4, .int x5, .ref (b + 431)]) (rest := []) B cw_L_74 dL_law_180 (ci_L_set_205 l hlt (σ := (ap b σ [] [] [])) (b := b) (lyA hK) x2 x3 x4 x5 q1_x2 q2_x2 q1_x3 q2_x3 q1_x4 q2_x4 (rR_at 0 0 (fz_R hF 0 0 rfl rfl)) (rR_at 1 2 (fz_R hF 1 2 rfl rfl))) rfl (by decide) rfl (Nat.le_of_ble_eq_true rfl) (by decide) (fun r u hu => ?_)
  obtain ⟨hu1, z, hu⟩ := hu
  refine z_eqs (σ' := (ap b (wx_Z σ z) [] [] [])) (hu.trans az_ap) ?_
  show zx p l e _ s m _ below meth c g 8 _ _ _ _ 183 [(4, .int 0), (3, .ref (b + 431)), (2, .ref (b + 405)), (1, .ref (b + 0)), (0, .ref bS)] _
  refine z_seti (y := 2) hu1 ?_
  refine z_istore (lv' := [(5, .int 2), (4, .int 0), (3, .ref (b + 431)), (2, .ref (b + 405)), (1, .ref (b + 0)), (0, .ref bS)]) B dL_law_183 (by decide) rfl ?_
  refine z_aload_n B dL_law_185 rfl 3 rfl ?_
  refine z_aload_n B dL_law_186 rfl 5 rfl ?_
  refine z_iload B dL_law_187 1 rfl ?_
  refine z_iconst (v := 1) B dL_law_189 (by decide) ?_
  refine z_iadd B dL_law_190 ?_
  refine z_seti (y := 1) (by decide) ?_
  refine z_sld (j := 1) (x := 2) B hX hbl hbA (by decide) (show ¬ ((1 : Int32) < 0 ∨ 6 ≤ (1 : Int32).toNatClampNeg) by decide) h_x1 dL_law_191 ?_
  refine z_aload_n B dL_law_192 rfl 5 rfl ?_
  refine z_iload B dL_law_193 1 rfl ?_
  refine z_iconst (v := 2) B dL_law_195 (by decide) ?_
  refine z_iadd B dL_law_196 ?_
  refine z_seti (y := 2) (by decide) ?_
  refine z_sld (j := 2) (x := x2) B hX hbl hbA (by decide) (show ¬ ((2 : Int32) < 0 ∨ 6 ≤ (2 : Int32).toNatClampNeg) by decide) h_x2 dL_law_197 ?_
  refine z_aload_n B dL_law_198 rfl 5 rfl ?_
  refine z_iload B dL_law_199 1 rfl ?_
  refine z_iconst (v := 3) B dL_law_201 (by decide) ?_
  refine z_iadd B dL_law_202 ?_
  refine z_seti (y := 3) (by decide) ?_
  refine z_sld (j := 3) (x := x3) B hX hbl hbA (by decide) (show ¬ ((3 : Int32) < 0 ∨ 6 ≤ (3 : Int32).toNatClampNeg) by decide) h_x3 dL_law_203 ?_
  refine z_aload_n B dL_law_204 rfl 5 rfl ?_
  refine z_iload B dL_law_205 1 rfl ?_
  refine z_iconst (v := 4) B dL_law_207 (by decide) ?_
  refine z_iadd B dL_law_208 ?_
  refine z_seti (y := 4) (by decide) ?_
  refine z_sld (j := 4) (x := x4) B hX hbl hbA (by decide) (show ¬ ((4 : Int32) < 0 ∨ 6 ≤ (4 : Int32).toNatClampNeg) by decide) h_x4 dL_law_209 ?_
  refine z_aload_n B dL_law_210 rfl 5 rfl ?_
  refine z_iload B dL_law_211 1 rfl ?_
  refine z_iconst (v := 5) B dL_law_213 (by decide) ?_
  refine z_iadd B dL_law_214 ?_
  refine z_seti (y := 5) (by decide) ?_
  refine z_sld (j := 5) (x := x5) B hX hbl hbA (by decide) (show ¬ ((5 : Int32) < 0 ∨ 6 ≤ (5 : Int32).toNatClampNeg) by decide) h_x5 dL_law_215 ?_
  refine z_cVi (As := [.int 2, .int x2, .int x3, .int x4, .int x5]) (rest := []) B cw_L_79 cx_10 dL_law_216 (ci_X9_set_206 l (σ := (ap b (wx_Z σ z) [] [] [])) (b := b) (lyA (lyZ hK)) x2 x3 x4 x5 q1_x2 q2_x2 q1_x3 q2_x3 q1_x4 q2_x4) (lKA (lKZ (hk_K hK 405 rfl rfl))) rfl (by decide) rfl (Nat.le_of_ble_eq_true rfl) (by decide) (fun r u hu => ?_)
  refine z_eqs (σ' := (ap b (wx_Z σ z) [(405, 0, 2)] [] [])) (hu.2.trans ap_ap) ?_
  show zx p l e _ s m _ below meth c g 8 _ _ _ _ 219 [(5, .int 2), (4, .int 0), (3, .ref (b + 431)), (2, .ref (b + 405)), (1, .ref (b + 0)), (0, .ref bS)] _
  refine z_seti (y := 0) hu.1 ?_
  refine z_istore (lv' := [(6, .int 0), (5, .int 2), (4, .int 0), (3, .ref (b + 431)), (2, .ref (b + 405)), (1, .ref (b + 0)), (0, .ref bS)]) B dL_law_219 (by decide) rfl ?_
  refine z_aload_n B dL_law_221 rfl 4 rfl ?_
  refine z_cVi (As := []) (rest := []) B cw_L_80 cx_10 dL_law_222 (ci_X9_thrown_73 l (σ := (ap b (wx_Z σ z) [(405, 0, 2)] [] [])) (b := b) (lyA (lyZ hK)) (rI_at 405 0 rfl)) (lKA (lKZ (hk_K hK 405 rfl rfl))) rfl (by decide) rfl (Nat.le_of_ble_eq_true rfl) (by decide) (fun r u hu => ?_)
  refine z_eqs (σ' := (ap b (wx_Z σ z) [(405, 0, 2)] [] [])) hu.2 ?_
  show zx p l e _ s m _ below meth c g 8 _ _ _ _ 225 [(6, .int 0), (5, .int 2), (4, .int 0), (3, .ref (b + 431)), (2, .ref (b + 405)), (1, .ref (b + 0)), (0, .ref bS)] _
  refine z_seti (y := 2) hu.1 ?_
  refine z_iload B dL_law_225 1 rfl ?_
  refine z_icmp_eq (tgt := 232) B dL_law_227 (by decide) (fun _ => ?_) (fun h => absurd (by decide) h)
  refine z_iload B dL_law_232 1 rfl ?_
  refine z_if_ne (tgt := 249) B dL_law_234 (by decide) (fun _ => ?_) (fun h => absurd h (by decide))
  refine z_goto (tgt := 1395) B dL_law_249 (by decide) ?_
  exact z_widen (Nat.le_of_ble_eq_true rfl) (Nat.le_of_ble_eq_true rfl) (z_sub _ [2, 6] rfl (kk _))
set_option maxRecDepth 100000 in
set_option maxHeartbeats 4000000 in
theorem lf_0_62 {p : Program} {l : Launch} {e : Env} {s : State} {m : MethodId} {args : Array Value} {below : List Frame} {meth : Method} {c : Code} {g : gx_T} {Q : State → Prop} {σ : sx_T} {b t bS : Nat} {xs : Nat → Int32} (hlt : l.stackTraces = false) (B : zx_B p s m args meth c code RL 8 g) (hX : va_X bS 6 xs s s.heap) (hbl : bS < s.heap.size) (hbA : ¬ gx_b g ≤ bS) (hF : fz_P b t σ) (h_x1 : xs 1 = 2) {x2 : Int32} (h_x2 : xs 2 = x2) (q1_x2 : (0 : Int) ≤ x2.toInt) (q2_x2 : x2.toInt ≤ (19 : Int)) {x3 : Int32} (h_x3 : xs 3 = x3) (q1_x3 : (18 : Int) ≤ x3.toInt) (q2_x3 : x3.toInt ≤ (2147483647 : Int)) {x4 : Int32} (h_x4 : xs 4 = x4) (q1_x4 : (-2147483648 : Int) ≤ x4.toInt) (q2_x4 : x4.toInt ≤ (2147483647 : Int)) {x5 : Int32} (h_x5 : xs 5 = x5) (q1_x5 : (-2147483648 : Int) ≤ x5.toInt) (q2_x5 : x5.toInt ≤ (2147483647 : Int)) (kk : ∀ σ', zx p l e room_1 s m args below meth c g 8 600002 7302232 Q σ' 1395 [(4, .int 0), (0, .ref bS)] []) : zx p l e room_1 s m args below meth c g 8 500 100000 Q σ 148 [(4, .int 0), (3, .ref (b + 431)), (2, .ref (b + 405)), (1, .ref (b + 0)), (0, .ref bS)] [] := by
  have hK := fz_lay hF
  refine z_eqs (σ' := (ap b σ [] [] [])) rfl ?_
  refine z_aload_n B dL_law_148 rfl 3 rfl ?_
  refine z_aload_n B dL_law_149 rfl 4 rfl ?_
  refine z_iload B dL_law_150 0 rfl ?_
  refine z_iconst (v := 1) B dL_law_152 (by decide) ?_
  refine z_iadd B dL_law_153 ?_
  refine z_seti (y := 1) (by decide) ?_
  refine z_sld (j := 1) (x := 2) B hX hbl hbA (by decide) (show ¬ ((1 : Int32) < 0 ∨ 6 ≤ (1 : Int32).toNatClampNeg) by decide) h_x1 dL_law_154 ?_
  refine z_aload_n B dL_law_155 rfl 4 rfl ?_
  refine z_iload B dL_law_156 0 rfl ?_
  refine z_iconst (v := 2) B dL_law_158 (by decide) ?_
  refine z_iadd B dL_law_159 ?_
  refine z_seti (y := 2) (by decide) ?_
  refine z_sld (j := 2) (x := x2) B hX hbl hbA (by decide) (show ¬ ((2 : Int32) < 0 ∨ 6 ≤ (2 : Int32).toNatClampNeg) by decide) h_x2 dL_law_160 ?_
  refine z_aload_n B dL_law_161 rfl 4 rfl ?_
  refine z_iload B dL_law_162 0 rfl ?_
  refine z_iconst (v := 3) B dL_law_164 (by decide) ?_
  refine z_iadd B dL_law_165 ?_
  refine z_seti (y := 3) (by decide) ?_
  refine z_sld (j := 3) (x := x3) B hX hbl hbA (by decide) (show ¬ ((3 : Int32) < 0 ∨ 6 ≤ (3 : Int32).toNatClampNeg) by decide) h_x3 dL_law_166 ?_
  refine z_aload_n B dL_law_167 rfl 4 rfl ?_
  refine z_iload B dL_law_168 0 rfl ?_
  refine z_iconst (v := 4) B dL_law_170 (by decide) ?_
  refine z_iadd B dL_law_171 ?_
  refine z_seti (y := 4) (by decide) ?_
  refine z_sld (j := 4) (x := x4) B hX hbl hbA (by decide) (show ¬ ((4 : Int32) < 0 ∨ 6 ≤ (4 : Int32).toNatClampNeg) by decide) h_x4 dL_law_172 ?_
  refine z_aload_n B dL_law_173 rfl 4 rfl ?_
  refine z_iload B dL_law_174 0 rfl ?_
  refine z_iconst (v := 5) B dL_law_176 (by decide) ?_
  refine z_iadd B dL_law_177 ?_
  refine z_seti (y := 5) (by decide) ?_
  refine z_sld (j := 5) (x := x5) B hX hbl hbA (by decide) (show ¬ ((5 : Int32) < 0 ∨ 6 ≤ (5 : Int32).toNatClampNeg) by decide) h_x5 dL_law_178 ?_
  refine z_aload_n B dL_law_179 rfl 1 rfl ?_
  refine z_cSWi (As := [.ref (b + 0), .int 2, .int x2, .int x3, .int x4, .int x5, .ref (b + 431)]) (rest := []) B cw_L_74 dL_law_180 (ci_L_set_208 l hlt (σ := (ap b σ [] [] [])) (b := b) (lyA hK) x2 x3 x4 x5 q1_x2 q2_x2 q1_x3 q2_x3 (rR_at 0 0 (fz_R hF 0 0 rfl rfl)) (rR_at 1 2 (fz_R hF 1 2 rfl rfl))) rfl (by decide) rfl (Nat.le_of_ble_eq_true rfl) (by decide) (fun r u hu => ?_)
  obtain ⟨hu1, z, hu⟩ := hu
  refine z_eqs (σ' := (ap b (wx_Z σ z) [] [] [])) (hu.trans az_ap) ?_
  show zx p l e _ s m _ below meth c g 8 _ _ _ _ 183 [(4, .int 0), (3, .ref (b + 431)), (2, .ref (b + 405)), (1, .ref (b + 0)), (0, .ref bS)] _
  refine z_seti (y := 2) hu1 ?_
  refine z_istore (lv' := [(5, .int 2), (4, .int 0), (3, .ref (b + 431)), (2, .ref (b + 405)), (1, .ref (b + 0)), (0, .ref bS)]) B dL_law_183 (by decide) rfl ?_
  refine z_aload_n B dL_law_185 rfl 3 rfl ?_
  refine z_aload_n B dL_law_186 rfl 5 rfl ?_
  refine z_iload B dL_law_187 1 rfl ?_
  refine z_iconst (v := 1) B dL_law_189 (by decide) ?_
  refine z_iadd B dL_law_190 ?_
  refine z_seti (y := 1) (by decide) ?_
  refine z_sld (j := 1) (x := 2) B hX hbl hbA (by decide) (show ¬ ((1 : Int32) < 0 ∨ 6 ≤ (1 : Int32).toNatClampNeg) by decide) h_x1 dL_law_191 ?_
  refine z_aload_n B dL_law_192 rfl 5 rfl ?_
  refine z_iload B dL_law_193 1 rfl ?_
  refine z_iconst (v := 2) B dL_law_195 (by decide) ?_
  refine z_iadd B dL_law_196 ?_
  refine z_seti (y := 2) (by decide) ?_
  refine z_sld (j := 2) (x := x2) B hX hbl hbA (by decide) (show ¬ ((2 : Int32) < 0 ∨ 6 ≤ (2 : Int32).toNatClampNeg) by decide) h_x2 dL_law_197 ?_
  refine z_aload_n B dL_law_198 rfl 5 rfl ?_
  refine z_iload B dL_law_199 1 rfl ?_
  refine z_iconst (v := 3) B dL_law_201 (by decide) ?_
  refine z_iadd B dL_law_202 ?_
  refine z_seti (y := 3) (by decide) ?_
  refine z_sld (j := 3) (x := x3) B hX hbl hbA (by decide) (show ¬ ((3 : Int32) < 0 ∨ 6 ≤ (3 : Int32).toNatClampNeg) by decide) h_x3 dL_law_203 ?_
  refine z_aload_n B dL_law_204 rfl 5 rfl ?_
  refine z_iload B dL_law_205 1 rfl ?_
  refine z_iconst (v := 4) B dL_law_207 (by decide) ?_
  refine z_iadd B dL_law_208 ?_
  refine z_seti (y := 4) (by decide) ?_
  refine z_sld (j := 4) (x := x4) B hX hbl hbA (by decide) (show ¬ ((4 : Int32) < 0 ∨ 6 ≤ (4 : Int32).toNatClampNeg) by decide) h_x4 dL_law_209 ?_
  refine z_aload_n B dL_law_210 rfl 5 rfl ?_
  refine z_iload B dL_law_211 1 rfl ?_
  refine z_iconst (v := 5) B dL_law_213 (by decide) ?_
  refine z_iadd B dL_law_214 ?_
  refine z_seti (y := 5) (by decide) ?_
  refine z_sld (j := 5) (x := x5) B hX hbl hbA (by decide) (show ¬ ((5 : Int32) < 0 ∨ 6 ≤ (5 : Int32).toNatClampNeg) by decide) h_x5 dL_law_215 ?_
  refine z_cVi (As := [.int 2, .int x2, .int x3, .int x4, .int x5]) (rest := []) B cw_L_79 cx_10 dL_law_216 (ci_X9_set_209 l (σ := (ap b (wx_Z σ z) [] [] [])) (b := b) (lyA (lyZ hK)) x2 x3 x4 x5 q1_x2 q2_x2 q1_x3 q2_x3) (lKA (lKZ (hk_K hK 405 rfl rfl))) rfl (by decide) rfl (Nat.le_of_ble_eq_true rfl) (by decide) (fun r u hu => ?_)
  refine z_eqs (σ' := (ap b (wx_Z σ z) [(405, 0, 2)] [] [])) (hu.2.trans ap_ap) ?_
  show zx p l e _ s m _ below meth c g 8 _ _ _ _ 219 [(5, .int 2), (4, .int 0), (3, .ref (b + 431)), (2, .ref (b + 405)), (1, .ref (b + 0)), (0, .ref bS)] _
  refine z_seti (y := 0) hu.1 ?_
  refine z_istore (lv' := [(6, .int 0), (5, .int 2), (4, .int 0), (3, .ref (b + 431)), (2, .ref (b + 405)), (1, .ref (b + 0)), (0, .ref bS)]) B dL_law_219 (by decide) rfl ?_
  refine z_aload_n B dL_law_221 rfl 4 rfl ?_
  refine z_cVi (As := []) (rest := []) B cw_L_80 cx_10 dL_law_222 (ci_X9_thrown_73 l (σ := (ap b (wx_Z σ z) [(405, 0, 2)] [] [])) (b := b) (lyA (lyZ hK)) (rI_at 405 0 rfl)) (lKA (lKZ (hk_K hK 405 rfl rfl))) rfl (by decide) rfl (Nat.le_of_ble_eq_true rfl) (by decide) (fun r u hu => ?_)
  refine z_eqs (σ' := (ap b (wx_Z σ z) [(405, 0, 2)] [] [])) hu.2 ?_
  show zx p l e _ s m _ below meth c g 8 _ _ _ _ 225 [(6, .int 0), (5, .int 2), (4, .int 0), (3, .ref (b + 431)), (2, .ref (b + 405)), (1, .ref (b + 0)), (0, .ref bS)] _
  refine z_seti (y := 2) hu.1 ?_
  refine z_iload B dL_law_225 1 rfl ?_
  refine z_icmp_eq (tgt := 232) B dL_law_227 (by decide) (fun _ => ?_) (fun h => absurd (by decide) h)
  refine z_iload B dL_law_232 1 rfl ?_
  refine z_if_ne (tgt := 249) B dL_law_234 (by decide) (fun _ => ?_) (fun h => absurd h (by decide))
  refine z_goto (tgt := 1395) B dL_law_249 (by decide) ?_
  exact z_widen (Nat.le_of_ble_eq_true rfl) (Nat.le_of_ble_eq_true rfl) (z_sub _ [2, 6] rfl (kk _))
set_option maxRecDepth 100000 in
set_option maxHeartbeats 4000000 in
theorem lf_0_63 {p : Program} {l : Launch} {e : Env} {s : State} {m : MethodId} {args : Array Value} {below : List Frame} {meth : Method} {c : Code} {g : gx_T} {Q : State → Prop} {σ : sx_T} {b t bS : Nat} {xs : Nat → Int32} (hlt : l.stackTraces = false) (B : zx_B p s m args meth c code RL 8 g) (hX : va_X bS 6 xs s s.heap) (hbl : bS < s.heap.size) (hbA : ¬ gx_b g ≤ bS) (hF : fz_P b t σ) (h_x1 : xs 1 = 2) {x2 : Int32} (h_x2 : xs 2 = x2) (q1_x2 : (20 : Int) ≤ x2.toInt) (q2_x2 : x2.toInt ≤ (2147483647 : Int)) {x3 : Int32} (h_x3 : xs 3 = x3) (q1_x3 : (-2147483648 : Int) ≤ x3.toInt) (q2_x3 : x3.toInt ≤ (-1 : Int)) {x4 : Int32} (h_x4 : xs 4 = x4) (q1_x4 : (-2147483648 : Int) ≤ x4.toInt) (q2_x4 : x4.toInt ≤ (2147483647 : Int)) {x5 : Int32} (h_x5 : xs 5 = x5) (q1_x5 : (-2147483648 : Int) ≤ x5.toInt) (q2_x5 : x5.toInt ≤ (2147483647 : Int)) (kk : ∀ σ', zx p l e room_1 s m args below meth c g 8 600002 7302232 Q σ' 1395 [(4, .int 0), (0, .ref bS)] []) : zx p l e room_1 s m args below meth c g 8 500 100000 Q σ 148 [(4, .int 0), (3, .ref (b + 431)), (2, .ref (b + 405)), (1, .ref (b + 0)), (0, .ref bS)] [] := by
  have hK := fz_lay hF
  refine z_eqs (σ' := (ap b σ [] [] [])) rfl ?_
  refine z_aload_n B dL_law_148 rfl 3 rfl ?_
  refine z_aload_n B dL_law_149 rfl 4 rfl ?_
  refine z_iload B dL_law_150 0 rfl ?_
  refine z_iconst (v := 1) B dL_law_152 (by decide) ?_
  refine z_iadd B dL_law_153 ?_
  refine z_seti (y := 1) (by decide) ?_
  refine z_sld (j := 1) (x := 2) B hX hbl hbA (by decide) (show ¬ ((1 : Int32) < 0 ∨ 6 ≤ (1 : Int32).toNatClampNeg) by decide) h_x1 dL_law_154 ?_
  refine z_aload_n B dL_law_155 rfl 4 rfl ?_
  refine z_iload B dL_law_156 0 rfl ?_
  refine z_iconst (v := 2) B dL_law_158 (by decide) ?_
  refine z_iadd B dL_law_159 ?_
  refine z_seti (y := 2) (by decide) ?_
  refine z_sld (j := 2) (x := x2) B hX hbl hbA (by decide) (show ¬ ((2 : Int32) < 0 ∨ 6 ≤ (2 : Int32).toNatClampNeg) by decide) h_x2 dL_law_160 ?_
  refine z_aload_n B dL_law_161 rfl 4 rfl ?_
  refine z_iload B dL_law_162 0 rfl ?_
  refine z_iconst (v := 3) B dL_law_164 (by decide) ?_
  refine z_iadd B dL_law_165 ?_
  refine z_seti (y := 3) (by decide) ?_
  refine z_sld (j := 3) (x := x3) B hX hbl hbA (by decide) (show ¬ ((3 : Int32) < 0 ∨ 6 ≤ (3 : Int32).toNatClampNeg) by decide) h_x3 dL_law_166 ?_
  refine z_aload_n B dL_law_167 rfl 4 rfl ?_
  refine z_iload B dL_law_168 0 rfl ?_
  refine z_iconst (v := 4) B dL_law_170 (by decide) ?_
  refine z_iadd B dL_law_171 ?_
  refine z_seti (y := 4) (by decide) ?_
  refine z_sld (j := 4) (x := x4) B hX hbl hbA (by decide) (show ¬ ((4 : Int32) < 0 ∨ 6 ≤ (4 : Int32).toNatClampNeg) by decide) h_x4 dL_law_172 ?_
  refine z_aload_n B dL_law_173 rfl 4 rfl ?_
  refine z_iload B dL_law_174 0 rfl ?_
  refine z_iconst (v := 5) B dL_law_176 (by decide) ?_
  refine z_iadd B dL_law_177 ?_
  refine z_seti (y := 5) (by decide) ?_
  refine z_sld (j := 5) (x := x5) B hX hbl hbA (by decide) (show ¬ ((5 : Int32) < 0 ∨ 6 ≤ (5 : Int32).toNatClampNeg) by decide) h_x5 dL_law_178 ?_
  refine z_aload_n B dL_law_179 rfl 1 rfl ?_
  refine z_cSWi (As := [.ref (b + 0), .int 2, .int x2, .int x3, .int x4, .int x5, .ref (b + 431)]) (rest := []) B cw_L_74 dL_law_180 (ci_L_set_211 l hlt (σ := (ap b σ [] [] [])) (b := b) (lyA hK) x2 x3 x4 x5 q1_x2 q2_x2 (rR_at 0 0 (fz_R hF 0 0 rfl rfl)) (rR_at 1 2 (fz_R hF 1 2 rfl rfl))) rfl (by decide) rfl (Nat.le_of_ble_eq_true rfl) (by decide) (fun r u hu => ?_)
  obtain ⟨hu1, z, hu⟩ := hu
  refine z_eqs (σ' := (ap b (wx_Z σ z) [] [] [])) (hu.trans az_ap) ?_
  show zx p l e _ s m _ below meth c g 8 _ _ _ _ 183 [(4, .int 0), (3, .ref (b + 431)), (2, .ref (b + 405)), (1, .ref (b + 0)), (0, .ref bS)] _
  refine z_seti (y := 1) hu1 ?_
  refine z_istore (lv' := [(5, .int 1), (4, .int 0), (3, .ref (b + 431)), (2, .ref (b + 405)), (1, .ref (b + 0)), (0, .ref bS)]) B dL_law_183 (by decide) rfl ?_
  refine z_aload_n B dL_law_185 rfl 3 rfl ?_
  refine z_aload_n B dL_law_186 rfl 5 rfl ?_
  refine z_iload B dL_law_187 1 rfl ?_
  refine z_iconst (v := 1) B dL_law_189 (by decide) ?_
  refine z_iadd B dL_law_190 ?_
  refine z_seti (y := 1) (by decide) ?_
  refine z_sld (j := 1) (x := 2) B hX hbl hbA (by decide) (show ¬ ((1 : Int32) < 0 ∨ 6 ≤ (1 : Int32).toNatClampNeg) by decide) h_x1 dL_law_191 ?_
  refine z_aload_n B dL_law_192 rfl 5 rfl ?_
  refine z_iload B dL_law_193 1 rfl ?_
  refine z_iconst (v := 2) B dL_law_195 (by decide) ?_
  refine z_iadd B dL_law_196 ?_
  refine z_seti (y := 2) (by decide) ?_
  refine z_sld (j := 2) (x := x2) B hX hbl hbA (by decide) (show ¬ ((2 : Int32) < 0 ∨ 6 ≤ (2 : Int32).toNatClampNeg) by decide) h_x2 dL_law_197 ?_
  refine z_aload_n B dL_law_198 rfl 5 rfl ?_
  refine z_iload B dL_law_199 1 rfl ?_
  refine z_iconst (v := 3) B dL_law_201 (by decide) ?_
  refine z_iadd B dL_law_202 ?_
  refine z_seti (y := 3) (by decide) ?_
  refine z_sld (j := 3) (x := x3) B hX hbl hbA (by decide) (show ¬ ((3 : Int32) < 0 ∨ 6 ≤ (3 : Int32).toNatClampNeg) by decide) h_x3 dL_law_203 ?_
  refine z_aload_n B dL_law_204 rfl 5 rfl ?_
  refine z_iload B dL_law_205 1 rfl ?_
  refine z_iconst (v := 4) B dL_law_207 (by decide) ?_
  refine z_iadd B dL_law_208 ?_
  refine z_seti (y := 4) (by decide) ?_
  refine z_sld (j := 4) (x := x4) B hX hbl hbA (by decide) (show ¬ ((4 : Int32) < 0 ∨ 6 ≤ (4 : Int32).toNatClampNeg) by decide) h_x4 dL_law_209 ?_
  refine z_aload_n B dL_law_210 rfl 5 rfl ?_
  refine z_iload B dL_law_211 1 rfl ?_
  refine z_iconst (v := 5) B dL_law_213 (by decide) ?_
  refine z_iadd B dL_law_214 ?_
  refine z_seti (y := 5) (by decide) ?_
  refine z_sld (j := 5) (x := x5) B hX hbl hbA (by decide) (show ¬ ((5 : Int32) < 0 ∨ 6 ≤ (5 : Int32).toNatClampNeg) by decide) h_x5 dL_law_215 ?_
  refine z_cVi (As := [.int 2, .int x2, .int x3, .int x4, .int x5]) (rest := []) B cw_L_79 cx_10 dL_law_216 (ci_X9_set_213 l (σ := (ap b (wx_Z σ z) [] [] [])) (b := b) (lyA (lyZ hK)) x2 x3 x4 x5 q1_x2 q2_x2 q1_x3 q2_x3) (lKA (lKZ (hk_K hK 405 rfl rfl))) rfl (by decide) rfl (Nat.le_of_ble_eq_true rfl) (by decide) (fun r u hu => ?_)
  refine z_eqs (σ' := (ap b (wx_Z σ z) [(405, 0, 1)] [] [])) (hu.2.trans ap_ap) ?_
  show zx p l e _ s m _ below meth c g 8 _ _ _ _ 219 [(5, .int 1), (4, .int 0), (3, .ref (b + 431)), (2, .ref (b + 405)), (1, .ref (b + 0)), (0, .ref bS)] _
  refine z_seti (y := 0) hu.1 ?_
  refine z_istore (lv' := [(6, .int 0), (5, .int 1), (4, .int 0), (3, .ref (b + 431)), (2, .ref (b + 405)), (1, .ref (b + 0)), (0, .ref bS)]) B dL_law_219 (by decide) rfl ?_
  refine z_aload_n B dL_law_221 rfl 4 rfl ?_
  refine z_cVi (As := []) (rest := []) B cw_L_80 cx_10 dL_law_222 (ci_X9_thrown_31 l (σ := (ap b (wx_Z σ z) [(405, 0, 1)] [] [])) (b := b) (lyA (lyZ hK)) (rI_at 405 0 rfl)) (lKA (lKZ (hk_K hK 405 rfl rfl))) rfl (by decide) rfl (Nat.le_of_ble_eq_true rfl) (by decide) (fun r u hu => ?_)
  refine z_eqs (σ' := (ap b (wx_Z σ z) [(405, 0, 1)] [] [])) hu.2 ?_
  show zx p l e _ s m _ below meth c g 8 _ _ _ _ 225 [(6, .int 0), (5, .int 1), (4, .int 0), (3, .ref (b + 431)), (2, .ref (b + 405)), (1, .ref (b + 0)), (0, .ref bS)] _
  refine z_seti (y := 1) hu.1 ?_
  refine z_iload B dL_law_225 1 rfl ?_
  refine z_icmp_eq (tgt := 232) B dL_law_227 (by decide) (fun _ => ?_) (fun h => absurd (by decide) h)
  refine z_iload B dL_law_232 1 rfl ?_
  refine z_if_ne (tgt := 249) B dL_law_234 (by decide) (fun _ => ?_) (fun h => absurd h (by decide))
  refine z_goto (tgt := 1395) B dL_law_249 (by decide) ?_
  exact z_widen (Nat.le_of_ble_eq_true rfl) (Nat.le_of_ble_eq_true rfl) (z_sub _ [2, 6] rfl (kk _))
set_option maxRecDepth 100000 in
set_option maxHeartbeats 4000000 in
theorem lf_0_64 {p : Program} {l : Launch} {e : Env} {s : State} {m : MethodId} {args : Array Value} {below : List Frame} {meth : Method} {c : Code} {g : gx_T} {Q : State → Prop} {σ : sx_T} {b t bS : Nat} {xs : Nat → Int32} (hlt : l.stackTraces = false) (B : zx_B p s m args meth c code RL 8 g) (hX : va_X bS 6 xs s s.heap) (hbl : bS < s.heap.size) (hbA : ¬ gx_b g ≤ bS) (hF : fz_P b t σ) (h_x1 : xs 1 = 2) {x2 : Int32} (h_x2 : xs 2 = x2) (q1_x2 : (20 : Int) ≤ x2.toInt) (q2_x2 : x2.toInt ≤ (2147483647 : Int)) {x3 : Int32} (h_x3 : xs 3 = x3) (q1_x3 : (0 : Int) ≤ x3.toInt) (q2_x3 : x3.toInt ≤ (17 : Int)) {x4 : Int32} (h_x4 : xs 4 = x4) (q1_x4 : (-2147483648 : Int) ≤ x4.toInt) (q2_x4 : x4.toInt ≤ (-1 : Int)) {x5 : Int32} (h_x5 : xs 5 = x5) (q1_x5 : (-2147483648 : Int) ≤ x5.toInt) (q2_x5 : x5.toInt ≤ (2147483647 : Int)) (kk : ∀ σ', zx p l e room_1 s m args below meth c g 8 600002 7302232 Q σ' 1395 [(4, .int 0), (0, .ref bS)] []) : zx p l e room_1 s m args below meth c g 8 500 100000 Q σ 148 [(4, .int 0), (3, .ref (b + 431)), (2, .ref (b + 405)), (1, .ref (b + 0)), (0, .ref bS)] [] := by
  have hK := fz_lay hF
  refine z_eqs (σ' := (ap b σ [] [] [])) rfl ?_
  refine z_aload_n B dL_law_148 rfl 3 rfl ?_
  refine z_aload_n B dL_law_149 rfl 4 rfl ?_
  refine z_iload B dL_law_150 0 rfl ?_
  refine z_iconst (v := 1) B dL_law_152 (by decide) ?_
  refine z_iadd B dL_law_153 ?_
  refine z_seti (y := 1) (by decide) ?_
  refine z_sld (j := 1) (x := 2) B hX hbl hbA (by decide) (show ¬ ((1 : Int32) < 0 ∨ 6 ≤ (1 : Int32).toNatClampNeg) by decide) h_x1 dL_law_154 ?_
  refine z_aload_n B dL_law_155 rfl 4 rfl ?_
  refine z_iload B dL_law_156 0 rfl ?_
  refine z_iconst (v := 2) B dL_law_158 (by decide) ?_
  refine z_iadd B dL_law_159 ?_
  refine z_seti (y := 2) (by decide) ?_
  refine z_sld (j := 2) (x := x2) B hX hbl hbA (by decide) (show ¬ ((2 : Int32) < 0 ∨ 6 ≤ (2 : Int32).toNatClampNeg) by decide) h_x2 dL_law_160 ?_
  refine z_aload_n B dL_law_161 rfl 4 rfl ?_
  refine z_iload B dL_law_162 0 rfl ?_
  refine z_iconst (v := 3) B dL_law_164 (by decide) ?_
  refine z_iadd B dL_law_165 ?_
  refine z_seti (y := 3) (by decide) ?_
  refine z_sld (j := 3) (x := x3) B hX hbl hbA (by decide) (show ¬ ((3 : Int32) < 0 ∨ 6 ≤ (3 : Int32).toNatClampNeg) by decide) h_x3 dL_law_166 ?_
  refine z_aload_n B dL_law_167 rfl 4 rfl ?_
  refine z_iload B dL_law_168 0 rfl ?_
  refine z_iconst (v := 4) B dL_law_170 (by decide) ?_
  refine z_iadd B dL_law_171 ?_
  refine z_seti (y := 4) (by decide) ?_
  refine z_sld (j := 4) (x := x4) B hX hbl hbA (by decide) (show ¬ ((4 : Int32) < 0 ∨ 6 ≤ (4 : Int32).toNatClampNeg) by decide) h_x4 dL_law_172 ?_
  refine z_aload_n B dL_law_173 rfl 4 rfl ?_
  refine z_iload B dL_law_174 0 rfl ?_
  refine z_iconst (v := 5) B dL_law_176 (by decide) ?_
  refine z_iadd B dL_law_177 ?_
  refine z_seti (y := 5) (by decide) ?_
  refine z_sld (j := 5) (x := x5) B hX hbl hbA (by decide) (show ¬ ((5 : Int32) < 0 ∨ 6 ≤ (5 : Int32).toNatClampNeg) by decide) h_x5 dL_law_178 ?_
  refine z_aload_n B dL_law_179 rfl 1 rfl ?_
  refine z_cSWi (As := [.ref (b + 0), .int 2, .int x2, .int x3, .int x4, .int x5, .ref (b + 431)]) (rest := []) B cw_L_74 dL_law_180 (ci_L_set_211 l hlt (σ := (ap b σ [] [] [])) (b := b) (lyA hK) x2 x3 x4 x5 q1_x2 q2_x2 (rR_at 0 0 (fz_R hF 0 0 rfl rfl)) (rR_at 1 2 (fz_R hF 1 2 rfl rfl))) rfl (by decide) rfl (Nat.le_of_ble_eq_true rfl) (by decide) (fun r u hu => ?_)
  obtain ⟨hu1, z, hu⟩ := hu
  refine z_eqs (σ' := (ap b (wx_Z σ z) [] [] [])) (hu.trans az_ap) ?_
  show zx p l e _ s m _ below meth c g 8 _ _ _ _ 183 [(4, .int 0), (3, .ref (b + 431)), (2, .ref (b + 405)), (1, .ref (b + 0)), (0, .ref bS)] _
  refine z_seti (y := 1) hu1 ?_
  refine z_istore (lv' := [(5, .int 1), (4, .int 0), (3, .ref (b + 431)), (2, .ref (b + 405)), (1, .ref (b + 0)), (0, .ref bS)]) B dL_law_183 (by decide) rfl ?_
  refine z_aload_n B dL_law_185 rfl 3 rfl ?_
  refine z_aload_n B dL_law_186 rfl 5 rfl ?_
  refine z_iload B dL_law_187 1 rfl ?_
  refine z_iconst (v := 1) B dL_law_189 (by decide) ?_
  refine z_iadd B dL_law_190 ?_
  refine z_seti (y := 1) (by decide) ?_
  refine z_sld (j := 1) (x := 2) B hX hbl hbA (by decide) (show ¬ ((1 : Int32) < 0 ∨ 6 ≤ (1 : Int32).toNatClampNeg) by decide) h_x1 dL_law_191 ?_
  refine z_aload_n B dL_law_192 rfl 5 rfl ?_
  refine z_iload B dL_law_193 1 rfl ?_
  refine z_iconst (v := 2) B dL_law_195 (by decide) ?_
  refine z_iadd B dL_law_196 ?_
  refine z_seti (y := 2) (by decide) ?_
  refine z_sld (j := 2) (x := x2) B hX hbl hbA (by decide) (show ¬ ((2 : Int32) < 0 ∨ 6 ≤ (2 : Int32).toNatClampNeg) by decide) h_x2 dL_law_197 ?_
  refine z_aload_n B dL_law_198 rfl 5 rfl ?_
  refine z_iload B dL_law_199 1 rfl ?_
  refine z_iconst (v := 3) B dL_law_201 (by decide) ?_
  refine z_iadd B dL_law_202 ?_
  refine z_seti (y := 3) (by decide) ?_
  refine z_sld (j := 3) (x := x3) B hX hbl hbA (by decide) (show ¬ ((3 : Int32) < 0 ∨ 6 ≤ (3 : Int32).toNatClampNeg) by decide) h_x3 dL_law_203 ?_
  refine z_aload_n B dL_law_204 rfl 5 rfl ?_
  refine z_iload B dL_law_205 1 rfl ?_
  refine z_iconst (v := 4) B dL_law_207 (by decide) ?_
  refine z_iadd B dL_law_208 ?_
  refine z_seti (y := 4) (by decide) ?_
  refine z_sld (j := 4) (x := x4) B hX hbl hbA (by decide) (show ¬ ((4 : Int32) < 0 ∨ 6 ≤ (4 : Int32).toNatClampNeg) by decide) h_x4 dL_law_209 ?_
  refine z_aload_n B dL_law_210 rfl 5 rfl ?_
  refine z_iload B dL_law_211 1 rfl ?_
  refine z_iconst (v := 5) B dL_law_213 (by decide) ?_
  refine z_iadd B dL_law_214 ?_
  refine z_seti (y := 5) (by decide) ?_
  refine z_sld (j := 5) (x := x5) B hX hbl hbA (by decide) (show ¬ ((5 : Int32) < 0 ∨ 6 ≤ (5 : Int32).toNatClampNeg) by decide) h_x5 dL_law_215 ?_
  refine z_cVi (As := [.int 2, .int x2, .int x3, .int x4, .int x5]) (rest := []) B cw_L_79 cx_10 dL_law_216 (ci_X9_set_214 l (σ := (ap b (wx_Z σ z) [] [] [])) (b := b) (lyA (lyZ hK)) x2 x3 x4 x5 q1_x2 q2_x2 q1_x3 q2_x3 q1_x4 q2_x4) (lKA (lKZ (hk_K hK 405 rfl rfl))) rfl (by decide) rfl (Nat.le_of_ble_eq_true rfl) (by decide) (fun r u hu => ?_)
  refine z_eqs (σ' := (ap b (wx_Z σ z) [(405, 0, 1)] [] [])) (hu.2.trans ap_ap) ?_
  show zx p l e _ s m _ below meth c g 8 _ _ _ _ 219 [(5, .int 1), (4, .int 0), (3, .ref (b + 431)), (2, .ref (b + 405)), (1, .ref (b + 0)), (0, .ref bS)] _
  refine z_seti (y := 0) hu.1 ?_
  refine z_istore (lv' := [(6, .int 0), (5, .int 1), (4, .int 0), (3, .ref (b + 431)), (2, .ref (b + 405)), (1, .ref (b + 0)), (0, .ref bS)]) B dL_law_219 (by decide) rfl ?_
  refine z_aload_n B dL_law_221 rfl 4 rfl ?_
  refine z_cVi (As := []) (rest := []) B cw_L_80 cx_10 dL_law_222 (ci_X9_thrown_31 l (σ := (ap b (wx_Z σ z) [(405, 0, 1)] [] [])) (b := b) (lyA (lyZ hK)) (rI_at 405 0 rfl)) (lKA (lKZ (hk_K hK 405 rfl rfl))) rfl (by decide) rfl (Nat.le_of_ble_eq_true rfl) (by decide) (fun r u hu => ?_)
  refine z_eqs (σ' := (ap b (wx_Z σ z) [(405, 0, 1)] [] [])) hu.2 ?_
  show zx p l e _ s m _ below meth c g 8 _ _ _ _ 225 [(6, .int 0), (5, .int 1), (4, .int 0), (3, .ref (b + 431)), (2, .ref (b + 405)), (1, .ref (b + 0)), (0, .ref bS)] _
  refine z_seti (y := 1) hu.1 ?_
  refine z_iload B dL_law_225 1 rfl ?_
  refine z_icmp_eq (tgt := 232) B dL_law_227 (by decide) (fun _ => ?_) (fun h => absurd (by decide) h)
  refine z_iload B dL_law_232 1 rfl ?_
  refine z_if_ne (tgt := 249) B dL_law_234 (by decide) (fun _ => ?_) (fun h => absurd h (by decide))
  refine z_goto (tgt := 1395) B dL_law_249 (by decide) ?_
  exact z_widen (Nat.le_of_ble_eq_true rfl) (Nat.le_of_ble_eq_true rfl) (z_sub _ [2, 6] rfl (kk _))
set_option maxRecDepth 100000 in
set_option maxHeartbeats 4000000 in
theorem lf_0_65 {p : Program} {l : Launch} {e : Env} {s : State} {m : MethodId} {args : Array Value} {below : List Frame} {meth : Method} {c : Code} {g : gx_T} {Q : State → Prop} {σ : sx_T} {b t bS : Nat} {xs : Nat → Int32} (hlt : l.stackTraces = false) (B : zx_B p s m args meth c code RL 8 g) (hX : va_X bS 6 xs s s.heap) (hbl : bS < s.heap.size) (hbA : ¬ gx_b g ≤ bS) (hF : fz_P b t σ) (h_x1 : xs 1 = 2) {x2 : Int32} (h_x2 : xs 2 = x2) (q1_x2 : (20 : Int) ≤ x2.toInt) (q2_x2 : x2.toInt ≤ (2147483647 : Int)) {x3 : Int32} (h_x3 : xs 3 = x3) (q1_x3 : (0 : Int) ≤ x3.toInt) (q2_x3 : x3.toInt ≤ (17 : Int)) {x4 : Int32} (h_x4 : xs 4 = x4) (q1_x4 : (0 : Int) ≤ x4.toInt) (q2_x4 : x4.toInt ≤ (99 : Int)) {x5 : Int32} (h_x5 : xs 5 = x5) (q1_x5 : (-2147483648 : Int) ≤ x5.toInt) (q2_x5 : x5.toInt ≤ (-1 : Int)) (kk : ∀ σ', zx p l e room_1 s m args below meth c g 8 600002 7302232 Q σ' 1395 [(4, .int 0), (0, .ref bS)] []) : zx p l e room_1 s m args below meth c g 8 500 100000 Q σ 148 [(4, .int 0), (3, .ref (b + 431)), (2, .ref (b + 405)), (1, .ref (b + 0)), (0, .ref bS)] [] := by
  have hK := fz_lay hF
  refine z_eqs (σ' := (ap b σ [] [] [])) rfl ?_
  refine z_aload_n B dL_law_148 rfl 3 rfl ?_
  refine z_aload_n B dL_law_149 rfl 4 rfl ?_
  refine z_iload B dL_law_150 0 rfl ?_
  refine z_iconst (v := 1) B dL_law_152 (by decide) ?_
  refine z_iadd B dL_law_153 ?_
  refine z_seti (y := 1) (by decide) ?_
  refine z_sld (j := 1) (x := 2) B hX hbl hbA (by decide) (show ¬ ((1 : Int32) < 0 ∨ 6 ≤ (1 : Int32).toNatClampNeg) by decide) h_x1 dL_law_154 ?_
  refine z_aload_n B dL_law_155 rfl 4 rfl ?_
  refine z_iload B dL_law_156 0 rfl ?_
  refine z_iconst (v := 2) B dL_law_158 (by decide) ?_
  refine z_iadd B dL_law_159 ?_
  refine z_seti (y := 2) (by decide) ?_
  refine z_sld (j := 2) (x := x2) B hX hbl hbA (by decide) (show ¬ ((2 : Int32) < 0 ∨ 6 ≤ (2 : Int32).toNatClampNeg) by decide) h_x2 dL_law_160 ?_
  refine z_aload_n B dL_law_161 rfl 4 rfl ?_
  refine z_iload B dL_law_162 0 rfl ?_
  refine z_iconst (v := 3) B dL_law_164 (by decide) ?_
  refine z_iadd B dL_law_165 ?_
  refine z_seti (y := 3) (by decide) ?_
  refine z_sld (j := 3) (x := x3) B hX hbl hbA (by decide) (show ¬ ((3 : Int32) < 0 ∨ 6 ≤ (3 : Int32).toNatClampNeg) by decide) h_x3 dL_law_166 ?_
  refine z_aload_n B dL_law_167 rfl 4 rfl ?_
  refine z_iload B dL_law_168 0 rfl ?_
  refine z_iconst (v := 4) B dL_law_170 (by decide) ?_
  refine z_iadd B dL_law_171 ?_
  refine z_seti (y := 4) (by decide) ?_
  refine z_sld (j := 4) (x := x4) B hX hbl hbA (by decide) (show ¬ ((4 : Int32) < 0 ∨ 6 ≤ (4 : Int32).toNatClampNeg) by decide) h_x4 dL_law_172 ?_
  refine z_aload_n B dL_law_173 rfl 4 rfl ?_
  refine z_iload B dL_law_174 0 rfl ?_
  refine z_iconst (v := 5) B dL_law_176 (by decide) ?_
  refine z_iadd B dL_law_177 ?_
  refine z_seti (y := 5) (by decide) ?_
  refine z_sld (j := 5) (x := x5) B hX hbl hbA (by decide) (show ¬ ((5 : Int32) < 0 ∨ 6 ≤ (5 : Int32).toNatClampNeg) by decide) h_x5 dL_law_178 ?_
  refine z_aload_n B dL_law_179 rfl 1 rfl ?_
  refine z_cSWi (As := [.ref (b + 0), .int 2, .int x2, .int x3, .int x4, .int x5, .ref (b + 431)]) (rest := []) B cw_L_74 dL_law_180 (ci_L_set_211 l hlt (σ := (ap b σ [] [] [])) (b := b) (lyA hK) x2 x3 x4 x5 q1_x2 q2_x2 (rR_at 0 0 (fz_R hF 0 0 rfl rfl)) (rR_at 1 2 (fz_R hF 1 2 rfl rfl))) rfl (by decide) rfl (Nat.le_of_ble_eq_true rfl) (by decide) (fun r u hu => ?_)
  obtain ⟨hu1, z, hu⟩ := hu
  refine z_eqs (σ' := (ap b (wx_Z σ z) [] [] [])) (hu.trans az_ap) ?_
  show zx p l e _ s m _ below meth c g 8 _ _ _ _ 183 [(4, .int 0), (3, .ref (b + 431)), (2, .ref (b + 405)), (1, .ref (b + 0)), (0, .ref bS)] _
  refine z_seti (y := 1) hu1 ?_
  refine z_istore (lv' := [(5, .int 1), (4, .int 0), (3, .ref (b + 431)), (2, .ref (b + 405)), (1, .ref (b + 0)), (0, .ref bS)]) B dL_law_183 (by decide) rfl ?_
  refine z_aload_n B dL_law_185 rfl 3 rfl ?_
  refine z_aload_n B dL_law_186 rfl 5 rfl ?_
  refine z_iload B dL_law_187 1 rfl ?_
  refine z_iconst (v := 1) B dL_law_189 (by decide) ?_
  refine z_iadd B dL_law_190 ?_
  refine z_seti (y := 1) (by decide) ?_
  refine z_sld (j := 1) (x := 2) B hX hbl hbA (by decide) (show ¬ ((1 : Int32) < 0 ∨ 6 ≤ (1 : Int32).toNatClampNeg) by decide) h_x1 dL_law_191 ?_
  refine z_aload_n B dL_law_192 rfl 5 rfl ?_
  refine z_iload B dL_law_193 1 rfl ?_
  refine z_iconst (v := 2) B dL_law_195 (by decide) ?_
  refine z_iadd B dL_law_196 ?_
  refine z_seti (y := 2) (by decide) ?_
  refine z_sld (j := 2) (x := x2) B hX hbl hbA (by decide) (show ¬ ((2 : Int32) < 0 ∨ 6 ≤ (2 : Int32).toNatClampNeg) by decide) h_x2 dL_law_197 ?_
  refine z_aload_n B dL_law_198 rfl 5 rfl ?_
  refine z_iload B dL_law_199 1 rfl ?_
  refine z_iconst (v := 3) B dL_law_201 (by decide) ?_
  refine z_iadd B dL_law_202 ?_
  refine z_seti (y := 3) (by decide) ?_
  refine z_sld (j := 3) (x := x3) B hX hbl hbA (by decide) (show ¬ ((3 : Int32) < 0 ∨ 6 ≤ (3 : Int32).toNatClampNeg) by decide) h_x3 dL_law_203 ?_
  refine z_aload_n B dL_law_204 rfl 5 rfl ?_
  refine z_iload B dL_law_205 1 rfl ?_
  refine z_iconst (v := 4) B dL_law_207 (by decide) ?_
  refine z_iadd B dL_law_208 ?_
  refine z_seti (y := 4) (by decide) ?_
  refine z_sld (j := 4) (x := x4) B hX hbl hbA (by decide) (show ¬ ((4 : Int32) < 0 ∨ 6 ≤ (4 : Int32).toNatClampNeg) by decide) h_x4 dL_law_209 ?_
  refine z_aload_n B dL_law_210 rfl 5 rfl ?_
  refine z_iload B dL_law_211 1 rfl ?_
  refine z_iconst (v := 5) B dL_law_213 (by decide) ?_
  refine z_iadd B dL_law_214 ?_
  refine z_seti (y := 5) (by decide) ?_
  refine z_sld (j := 5) (x := x5) B hX hbl hbA (by decide) (show ¬ ((5 : Int32) < 0 ∨ 6 ≤ (5 : Int32).toNatClampNeg) by decide) h_x5 dL_law_215 ?_
  refine z_cVi (As := [.int 2, .int x2, .int x3, .int x4, .int x5]) (rest := []) B cw_L_79 cx_10 dL_law_216 (ci_X9_set_215 l (σ := (ap b (wx_Z σ z) [] [] [])) (b := b) (lyA (lyZ hK)) x2 x3 x4 x5 q1_x2 q2_x2 q1_x3 q2_x3 q1_x4 q2_x4 q1_x5 q2_x5) (lKA (lKZ (hk_K hK 405 rfl rfl))) rfl (by decide) rfl (Nat.le_of_ble_eq_true rfl) (by decide) (fun r u hu => ?_)
  refine z_eqs (σ' := (ap b (wx_Z σ z) [(405, 0, 1)] [] [])) (hu.2.trans ap_ap) ?_
  show zx p l e _ s m _ below meth c g 8 _ _ _ _ 219 [(5, .int 1), (4, .int 0), (3, .ref (b + 431)), (2, .ref (b + 405)), (1, .ref (b + 0)), (0, .ref bS)] _
  refine z_seti (y := 0) hu.1 ?_
  refine z_istore (lv' := [(6, .int 0), (5, .int 1), (4, .int 0), (3, .ref (b + 431)), (2, .ref (b + 405)), (1, .ref (b + 0)), (0, .ref bS)]) B dL_law_219 (by decide) rfl ?_
  refine z_aload_n B dL_law_221 rfl 4 rfl ?_
  refine z_cVi (As := []) (rest := []) B cw_L_80 cx_10 dL_law_222 (ci_X9_thrown_31 l (σ := (ap b (wx_Z σ z) [(405, 0, 1)] [] [])) (b := b) (lyA (lyZ hK)) (rI_at 405 0 rfl)) (lKA (lKZ (hk_K hK 405 rfl rfl))) rfl (by decide) rfl (Nat.le_of_ble_eq_true rfl) (by decide) (fun r u hu => ?_)
  refine z_eqs (σ' := (ap b (wx_Z σ z) [(405, 0, 1)] [] [])) hu.2 ?_
  show zx p l e _ s m _ below meth c g 8 _ _ _ _ 225 [(6, .int 0), (5, .int 1), (4, .int 0), (3, .ref (b + 431)), (2, .ref (b + 405)), (1, .ref (b + 0)), (0, .ref bS)] _
  refine z_seti (y := 1) hu.1 ?_
  refine z_iload B dL_law_225 1 rfl ?_
  refine z_icmp_eq (tgt := 232) B dL_law_227 (by decide) (fun _ => ?_) (fun h => absurd (by decide) h)
  refine z_iload B dL_law_232 1 rfl ?_
  refine z_if_ne (tgt := 249) B dL_law_234 (by decide) (fun _ => ?_) (fun h => absurd h (by decide))
  refine z_goto (tgt := 1395) B dL_law_249 (by decide) ?_
  exact z_widen (Nat.le_of_ble_eq_true rfl) (Nat.le_of_ble_eq_true rfl) (z_sub _ [2, 6] rfl (kk _))
set_option maxRecDepth 100000 in
set_option maxHeartbeats 4000000 in
theorem lf_0_66 {p : Program} {l : Launch} {e : Env} {s : State} {m : MethodId} {args : Array Value} {below : List Frame} {meth : Method} {c : Code} {g : gx_T} {Q : State → Prop} {σ : sx_T} {b t bS : Nat} {xs : Nat → Int32} (hlt : l.stackTraces = false) (B : zx_B p s m args meth c code RL 8 g) (hX : va_X bS 6 xs s s.heap) (hbl : bS < s.heap.size) (hbA : ¬ gx_b g ≤ bS) (hF : fz_P b t σ) (h_x1 : xs 1 = 2) {x2 : Int32} (h_x2 : xs 2 = x2) (q1_x2 : (20 : Int) ≤ x2.toInt) (q2_x2 : x2.toInt ≤ (2147483647 : Int)) {x3 : Int32} (h_x3 : xs 3 = x3) (q1_x3 : (0 : Int) ≤ x3.toInt) (q2_x3 : x3.toInt ≤ (17 : Int)) {x4 : Int32} (h_x4 : xs 4 = x4) (q1_x4 : (0 : Int) ≤ x4.toInt) (q2_x4 : x4.toInt ≤ (99 : Int)) {x5 : Int32} (h_x5 : xs 5 = x5) (q1_x5 : (0 : Int) ≤ x5.toInt) (q2_x5 : x5.toInt ≤ (99 : Int)) (kk : ∀ σ', zx p l e room_1 s m args below meth c g 8 600002 7302232 Q σ' 1395 [(4, .int 0), (0, .ref bS)] []) : zx p l e room_1 s m args below meth c g 8 500 100000 Q σ 148 [(4, .int 0), (3, .ref (b + 431)), (2, .ref (b + 405)), (1, .ref (b + 0)), (0, .ref bS)] [] := by
  have hK := fz_lay hF
  refine z_eqs (σ' := (ap b σ [] [] [])) rfl ?_
  refine z_aload_n B dL_law_148 rfl 3 rfl ?_
  refine z_aload_n B dL_law_149 rfl 4 rfl ?_
  refine z_iload B dL_law_150 0 rfl ?_
  refine z_iconst (v := 1) B dL_law_152 (by decide) ?_
  refine z_iadd B dL_law_153 ?_
  refine z_seti (y := 1) (by decide) ?_
  refine z_sld (j := 1) (x := 2) B hX hbl hbA (by decide) (show ¬ ((1 : Int32) < 0 ∨ 6 ≤ (1 : Int32).toNatClampNeg) by decide) h_x1 dL_law_154 ?_
  refine z_aload_n B dL_law_155 rfl 4 rfl ?_
  refine z_iload B dL_law_156 0 rfl ?_
  refine z_iconst (v := 2) B dL_law_158 (by decide) ?_
  refine z_iadd B dL_law_159 ?_
  refine z_seti (y := 2) (by decide) ?_
  refine z_sld (j := 2) (x := x2) B hX hbl hbA (by decide) (show ¬ ((2 : Int32) < 0 ∨ 6 ≤ (2 : Int32).toNatClampNeg) by decide) h_x2 dL_law_160 ?_
  refine z_aload_n B dL_law_161 rfl 4 rfl ?_
  refine z_iload B dL_law_162 0 rfl ?_
  refine z_iconst (v := 3) B dL_law_164 (by decide) ?_
  refine z_iadd B dL_law_165 ?_
  refine z_seti (y := 3) (by decide) ?_
  refine z_sld (j := 3) (x := x3) B hX hbl hbA (by decide) (show ¬ ((3 : Int32) < 0 ∨ 6 ≤ (3 : Int32).toNatClampNeg) by decide) h_x3 dL_law_166 ?_
  refine z_aload_n B dL_law_167 rfl 4 rfl ?_
  refine z_iload B dL_law_168 0 rfl ?_
  refine z_iconst (v := 4) B dL_law_170 (by decide) ?_
  refine z_iadd B dL_law_171 ?_
  refine z_seti (y := 4) (by decide) ?_
  refine z_sld (j := 4) (x := x4) B hX hbl hbA (by decide) (show ¬ ((4 : Int32) < 0 ∨ 6 ≤ (4 : Int32).toNatClampNeg) by decide) h_x4 dL_law_172 ?_
  refine z_aload_n B dL_law_173 rfl 4 rfl ?_
  refine z_iload B dL_law_174 0 rfl ?_
  refine z_iconst (v := 5) B dL_law_176 (by decide) ?_
  refine z_iadd B dL_law_177 ?_
  refine z_seti (y := 5) (by decide) ?_
  refine z_sld (j := 5) (x := x5) B hX hbl hbA (by decide) (show ¬ ((5 : Int32) < 0 ∨ 6 ≤ (5 : Int32).toNatClampNeg) by decide) h_x5 dL_law_178 ?_
  refine z_aload_n B dL_law_179 rfl 1 rfl ?_
  refine z_cSWi (As := [.ref (b + 0), .int 2, .int x2, .int x3, .int x4, .int x5, .ref (b + 431)]) (rest := []) B cw_L_74 dL_law_180 (ci_L_set_211 l hlt (σ := (ap b σ [] [] [])) (b := b) (lyA hK) x2 x3 x4 x5 q1_x2 q2_x2 (rR_at 0 0 (fz_R hF 0 0 rfl rfl)) (rR_at 1 2 (fz_R hF 1 2 rfl rfl))) rfl (by decide) rfl (Nat.le_of_ble_eq_true rfl) (by decide) (fun r u hu => ?_)
  obtain ⟨hu1, z, hu⟩ := hu
  refine z_eqs (σ' := (ap b (wx_Z σ z) [] [] [])) (hu.trans az_ap) ?_
  show zx p l e _ s m _ below meth c g 8 _ _ _ _ 183 [(4, .int 0), (3, .ref (b + 431)), (2, .ref (b + 405)), (1, .ref (b + 0)), (0, .ref bS)] _
  refine z_seti (y := 1) hu1 ?_
  refine z_istore (lv' := [(5, .int 1), (4, .int 0), (3, .ref (b + 431)), (2, .ref (b + 405)), (1, .ref (b + 0)), (0, .ref bS)]) B dL_law_183 (by decide) rfl ?_
  refine z_aload_n B dL_law_185 rfl 3 rfl ?_
  refine z_aload_n B dL_law_186 rfl 5 rfl ?_
  refine z_iload B dL_law_187 1 rfl ?_
  refine z_iconst (v := 1) B dL_law_189 (by decide) ?_
  refine z_iadd B dL_law_190 ?_
  refine z_seti (y := 1) (by decide) ?_
  refine z_sld (j := 1) (x := 2) B hX hbl hbA (by decide) (show ¬ ((1 : Int32) < 0 ∨ 6 ≤ (1 : Int32).toNatClampNeg) by decide) h_x1 dL_law_191 ?_
  refine z_aload_n B dL_law_192 rfl 5 rfl ?_
  refine z_iload B dL_law_193 1 rfl ?_
  refine z_iconst (v := 2) B dL_law_195 (by decide) ?_
  refine z_iadd B dL_law_196 ?_
  refine z_seti (y := 2) (by decide) ?_
  refine z_sld (j := 2) (x := x2) B hX hbl hbA (by decide) (show ¬ ((2 : Int32) < 0 ∨ 6 ≤ (2 : Int32).toNatClampNeg) by decide) h_x2 dL_law_197 ?_
  refine z_aload_n B dL_law_198 rfl 5 rfl ?_
  refine z_iload B dL_law_199 1 rfl ?_
  refine z_iconst (v := 3) B dL_law_201 (by decide) ?_
  refine z_iadd B dL_law_202 ?_
  refine z_seti (y := 3) (by decide) ?_
  refine z_sld (j := 3) (x := x3) B hX hbl hbA (by decide) (show ¬ ((3 : Int32) < 0 ∨ 6 ≤ (3 : Int32).toNatClampNeg) by decide) h_x3 dL_law_203 ?_
  refine z_aload_n B dL_law_204 rfl 5 rfl ?_
  refine z_iload B dL_law_205 1 rfl ?_
  refine z_iconst (v := 4) B dL_law_207 (by decide) ?_
  refine z_iadd B dL_law_208 ?_
  refine z_seti (y := 4) (by decide) ?_
  refine z_sld (j := 4) (x := x4) B hX hbl hbA (by decide) (show ¬ ((4 : Int32) < 0 ∨ 6 ≤ (4 : Int32).toNatClampNeg) by decide) h_x4 dL_law_209 ?_
  refine z_aload_n B dL_law_210 rfl 5 rfl ?_
  refine z_iload B dL_law_211 1 rfl ?_
  refine z_iconst (v := 5) B dL_law_213 (by decide) ?_
  refine z_iadd B dL_law_214 ?_
  refine z_seti (y := 5) (by decide) ?_
  refine z_sld (j := 5) (x := x5) B hX hbl hbA (by decide) (show ¬ ((5 : Int32) < 0 ∨ 6 ≤ (5 : Int32).toNatClampNeg) by decide) h_x5 dL_law_215 ?_
  refine z_cVi (As := [.int 2, .int x2, .int x3, .int x4, .int x5]) (rest := []) B cw_L_79 cx_10 dL_law_216 (ci_X9_set_216 l (σ := (ap b (wx_Z σ z) [] [] [])) (b := b) (lyA (lyZ hK)) x2 x3 x4 x5 q1_x2 q2_x2 q1_x3 q2_x3 q1_x4 q2_x4 q1_x5 q2_x5) (lKA (lKZ (hk_K hK 405 rfl rfl))) rfl (by decide) rfl (Nat.le_of_ble_eq_true rfl) (by decide) (fun r u hu => ?_)
  refine z_eqs (σ' := (ap b (wx_Z σ z) [(405, 0, 1)] [] [])) (hu.2.trans ap_ap) ?_
  show zx p l e _ s m _ below meth c g 8 _ _ _ _ 219 [(5, .int 1), (4, .int 0), (3, .ref (b + 431)), (2, .ref (b + 405)), (1, .ref (b + 0)), (0, .ref bS)] _
  refine z_seti (y := 0) hu.1 ?_
  refine z_istore (lv' := [(6, .int 0), (5, .int 1), (4, .int 0), (3, .ref (b + 431)), (2, .ref (b + 405)), (1, .ref (b + 0)), (0, .ref bS)]) B dL_law_219 (by decide) rfl ?_
  refine z_aload_n B dL_law_221 rfl 4 rfl ?_
  refine z_cVi (As := []) (rest := []) B cw_L_80 cx_10 dL_law_222 (ci_X9_thrown_31 l (σ := (ap b (wx_Z σ z) [(405, 0, 1)] [] [])) (b := b) (lyA (lyZ hK)) (rI_at 405 0 rfl)) (lKA (lKZ (hk_K hK 405 rfl rfl))) rfl (by decide) rfl (Nat.le_of_ble_eq_true rfl) (by decide) (fun r u hu => ?_)
  refine z_eqs (σ' := (ap b (wx_Z σ z) [(405, 0, 1)] [] [])) hu.2 ?_
  show zx p l e _ s m _ below meth c g 8 _ _ _ _ 225 [(6, .int 0), (5, .int 1), (4, .int 0), (3, .ref (b + 431)), (2, .ref (b + 405)), (1, .ref (b + 0)), (0, .ref bS)] _
  refine z_seti (y := 1) hu.1 ?_
  refine z_iload B dL_law_225 1 rfl ?_
  refine z_icmp_eq (tgt := 232) B dL_law_227 (by decide) (fun _ => ?_) (fun h => absurd (by decide) h)
  refine z_iload B dL_law_232 1 rfl ?_
  refine z_if_ne (tgt := 249) B dL_law_234 (by decide) (fun _ => ?_) (fun h => absurd h (by decide))
  refine z_goto (tgt := 1395) B dL_law_249 (by decide) ?_
  exact z_widen (Nat.le_of_ble_eq_true rfl) (Nat.le_of_ble_eq_true rfl) (z_sub _ [2, 6] rfl (kk _))
