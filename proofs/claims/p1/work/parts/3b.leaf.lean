set_option maxRecDepth 100000 in
set_option maxHeartbeats 4000000 in
theorem lf_0_67 {p : Program} {l : Launch} {e : Env} {s : State} {m : MethodId} {args : Array Value} {below : List Frame} {meth : Method} {c : Code} {g : gx_T} {Q : State → Prop} {σ : sx_T} {b t bS : Nat} {xs : Nat → Int32} (hlt : l.stackTraces = false) (B : zx_B p s m args meth c code RL 8 g) (hX : va_X bS 6 xs s s.heap) (hbl : bS < s.heap.size) (hbA : ¬ gx_b g ≤ bS) (hF : fz_P b t σ) (h_x1 : xs 1 = 2) {x2 : Int32} (h_x2 : xs 2 = x2) (q1_x2 : (20 : Int) ≤ x2.toInt) (q2_x2 : x2.toInt ≤ (2147483647 : Int)) {x3 : Int32} (h_x3 : xs 3 = x3) (q1_x3 : (0 : Int) ≤ x3.toInt) (q2_x3 : x3.toInt ≤ (17 : Int)) {x4 : Int32} (h_x4 : xs 4 = x4) (q1_x4 : (0 : Int) ≤ x4.toInt) (q2_x4 : x4.toInt ≤ (99 : Int)) {x5 : Int32} (h_x5 : xs 5 = x5) (q1_x5 : (100 : Int) ≤ x5.toInt) (q2_x5 : x5.toInt ≤ (2147483647 : Int)) (kk : ∀ σ', zx p l e room_1 s m args below meth c g 8 600002 7302232 Q σ' 1395 [(4, .int 0), (0, .ref bS)] []) : zx p l e room_1 s m args below meth c g 8 500 100000 Q σ 148 [(4, .int 0), (3, .ref (b + 431)), (2, .ref (b + 405)), (1, .ref (b + 0)), (0, .ref bS)] [] := by
  have hK := fz_lay hF
  refine z_eqs (σ' := (ap b σ [] [] [])) rfl ?_
  refine z_aload_n B dL_law_148 rfl 3 rfl ?_
  refine z_aload_n B dL_law_149 rfl 4 rfl ?_
  refine z_iload B dL_law_150 0 rfl ?_
  refine z_iconst (v := 1) B dL_law_152 (by decide) ?_
  refine z_iadd B dL_law_153 ?_
  refine z_seti (y := 1) (by decide) ?_
  refine z_sld (j := 1) (x := 2) B hX hbl hbA (by decide) (show ¬ ((1 : Int32) < 0 ∨ 6 ≤ (1 : Int32).toNatClampNeg) by decide) h_x1 dL_law_154 ?_
  refine z_aload_n B dL_law_155 rfl 4 rfl ?_
  refine z_iload B dL_law_156 0 rfl ?_
  refine z_iconst (v := 2) B dL_law_158 (by decide) ?_
  refine z_iadd B dL_law_159 ?_
  refine z_seti (y := 2) (by decide) ?_
  refine z_sld (j := 2) (x := x2) B hX hbl hbA (by decide) (show ¬ ((2 : Int32) < 0 ∨ 6 ≤ (2 : Int32).toNatClampNeg) by decide) h_x2 dL_law_160 ?_
  refine z_aload_n B dL_law_161 rfl 4 rfl ?_
  refine z_iload B dL_law_162 0 rfl ?_
  refine z_iconst (v := 3) B dL_law_164 (by decide) ?_
  refine z_iadd B dL_law_165 ?_
  refine z_seti (y := 3) (by decide) ?_
  refine z_sld (j := 3) (x := x3) B hX hbl hbA (by decide) (show ¬ ((3 : Int32) < 0 ∨ 6 ≤ (3 : Int32).toNatClampNeg) by decide) h_x3 dL_law_166 ?_
  refine z_aload_n B dL_law_167 rfl 4 rfl ?_
  refine z_iload B dL_law_168 0 rfl ?_
  refine z_iconst (v := 4) B dL_law_170 (by decide) ?_
  refine z_iadd B dL_law_171 ?_
  refine z_seti (y := 4) (by decide) ?_
  refine z_sld (j := 4) (x := x4) B hX hbl hbA (by decide) (show ¬ ((4 : Int32) < 0 ∨ 6 ≤ (4 : Int32).toNatClampNeg) by decide) h_x4 dL_law_172 ?_
  refine z_aload_n B dL_law_173 rfl 4 rfl ?_
  refine z_iload B dL_law_174 0 rfl ?_
  refine z_iconst (v := 5) B dL_law_176 (by decide) ?_
  refine z_iadd B dL_law_177 ?_
  refine z_seti (y := 5) (by decide) ?_
  refine z_sld (j := 5) (x := x5) B hX hbl hbA (by decide) (show ¬ ((5 : Int32) < 0 ∨ 6 ≤ (5 : Int32).toNatClampNeg) by decide) h_x5 dL_law_178 ?_
  refine z_aload_n B dL_law_179 rfl 1 rfl ?_
  refine z_cSWi (As := [.ref (b + 0), .int 2, .int x2, .int x3, .int x4, .int x5, .ref (b + 431)]) (rest := []) B cw_L_74 dL_law_180 (ci_L_set_211 l hlt (σ := (ap b σ [] [] [])) (b := b) (lyA hK) x2 x3 x4 x5 q1_x2 q2_x2 (rR_at 0 0 (fz_R hF 0 0 rfl rfl)) (rR_at 1 2 (fz_R hF 1 2 rfl rfl))) rfl (by decide) rfl (Nat.le_of_ble_eq_true rfl) (by decide) (fun r u hu => ?_)
  obtain ⟨hu1, z, hu⟩ := hu
  refine z_eqs (σ' := (ap b (wx_Z σ z) [] [] [])) (hu.trans az_ap) ?_
  show zx p l e _ s m _ below meth c g 8 _ _ _ _ 183 [(4, .int 0), (3, .ref (b + 431)), (2, .ref (b + 405)), (1, .ref (b + 0)), (0, .ref bS)] _
  refine z_seti (y := 1) hu1 ?_
  refine z_istore (lv' := [(5, .int 1), (4, .int 0), (3, .ref (b + 431)), (2, .ref (b + 405)), (1, .ref (b + 0)), (0, .ref bS)]) B dL_law_183 (by decide) rfl ?_
  refine z_aload_n B dL_law_185 rfl 3 rfl ?_
  refine z_aload_n B dL_law_186 rfl 5 rfl ?_
  refine z_iload B dL_law_187 1 rfl ?_
  refine z_iconst (v := 1) B dL_law_189 (by decide) ?_
  refine z_iadd B dL_law_190 ?_
  refine z_seti (y := 1) (by decide) ?_
  refine z_sld (j := 1) (x := 2) B hX hbl hbA (by decide) (show ¬ ((1 : Int32) < 0 ∨ 6 ≤ (1 : Int32).toNatClampNeg) by decide) h_x1 dL_law_191 ?_
  refine z_aload_n B dL_law_192 rfl 5 rfl ?_
  refine z_iload B dL_law_193 1 rfl ?_
  refine z_iconst (v := 2) B dL_law_195 (by decide) ?_
  refine z_iadd B dL_law_196 ?_
  refine z_seti (y := 2) (by decide) ?_
  refine z_sld (j := 2) (x := x2) B hX hbl hbA (by decide) (show ¬ ((2 : Int32) < 0 ∨ 6 ≤ (2 : Int32).toNatClampNeg) by decide) h_x2 dL_law_197 ?_
  refine z_aload_n B dL_law_198 rfl 5 rfl ?_
  refine z_iload B dL_law_199 1 rfl ?_
  refine z_iconst (v := 3) B dL_law_201 (by decide) ?_
  refine z_iadd B dL_law_202 ?_
  refine z_seti (y := 3) (by decide) ?_
  refine z_sld (j := 3) (x := x3) B hX hbl hbA (by decide) (show ¬ ((3 : Int32) < 0 ∨ 6 ≤ (3 : Int32).toNatClampNeg) by decide) h_x3 dL_law_203 ?_
  refine z_aload_n B dL_law_204 rfl 5 rfl ?_
  refine z_iload B dL_law_205 1 rfl ?_
  refine z_iconst (v := 4) B dL_law_207 (by decide) ?_
  refine z_iadd B dL_law_208 ?_
  refine z_seti (y := 4) (by decide) ?_
  refine z_sld (j := 4) (x := x4) B hX hbl hbA (by decide) (show ¬ ((4 : Int32) < 0 ∨ 6 ≤ (4 : Int32).toNatClampNeg) by decide) h_x4 dL_law_209 ?_
  refine z_aload_n B dL_law_210 rfl 5 rfl ?_
  refine z_iload B dL_law_211 1 rfl ?_
  refine z_iconst (v := 5) B dL_law_213 (by decide) ?_
  refine z_iadd B dL_law_214 ?_
  refine z_seti (y := 5) (by decide) ?_
  refine z_sld (j := 5) (x := x5) B hX hbl hbA (by decide) (show ¬ ((5 : Int32) < 0 ∨ 6 ≤ (5 : Int32).toNatClampNeg) by decide) h_x5 dL_law_215 ?_
  refine z_cVi (As := [.int 2, .int x2, .int x3, .int x4, .int x5]) (rest := []) B cw_L_79 cx_10 dL_law_216 (ci_X9_set_217 l (σ := (ap b (wx_Z σ z) [] [] [])) (b := b) (lyA (lyZ hK)) x2 x3 x4 x5 q1_x2 q2_x2 q1_x3 q2_x3 q1_x4 q2_x4 q1_x5 q2_x5) (lKA (lKZ (hk_K hK 405 rfl rfl))) rfl (by decide) rfl (Nat.le_of_ble_eq_true rfl) (by decide) (fun r u hu => ?_)
  refine z_eqs (σ' := (ap b (wx_Z σ z) [(405, 0, 1)] [] [])) (hu.2.trans ap_ap) ?_
  show zx p l e _ s m _ below meth c g 8 _ _ _ _ 219 [(5, .int 1), (4, .int 0), (3, .ref (b + 431)), (2, .ref (b + 405)), (1, .ref (b + 0)), (0, .ref bS)] _
  refine z_seti (y := 0) hu.1 ?_
  refine z_istore (lv' := [(6, .int 0), (5, .int 1), (4, .int 0), (3, .ref (b + 431)), (2, .ref (b + 405)), (1, .ref (b + 0)), (0, .ref bS)]) B dL_law_219 (by decide) rfl ?_
  refine z_aload_n B dL_law_221 rfl 4 rfl ?_
  refine z_cVi (As := []) (rest := []) B cw_L_80 cx_10 dL_law_222 (ci_X9_thrown_31 l (σ := (ap b (wx_Z σ z) [(405, 0, 1)] [] [])) (b := b) (lyA (lyZ hK)) (rI_at 405 0 rfl)) (lKA (lKZ (hk_K hK 405 rfl rfl))) rfl (by decide) rfl (Nat.le_of_ble_eq_true rfl) (by decide) (fun r u hu => ?_)
  refine z_eqs (σ' := (ap b (wx_Z σ z) [(405, 0, 1)] [] [])) hu.2 ?_
  show zx p l e _ s m _ below meth c g 8 _ _ _ _ 225 [(6, .int 0), (5, .int 1), (4, .int 0), (3, .ref (b + 431)), (2, .ref (b + 405)), (1, .ref (b + 0)), (0, .ref bS)] _
  refine z_seti (y := 1) hu.1 ?_
  refine z_iload B dL_law_225 1 rfl ?_
  refine z_icmp_eq (tgt := 232) B dL_law_227 (by decide) (fun _ => ?_) (fun h => absurd (by decide) h)
  refine z_iload B dL_law_232 1 rfl ?_
  refine z_if_ne (tgt := 249) B dL_law_234 (by decide) (fun _ => ?_) (fun h => absurd h (by decide))
  refine z_goto (tgt := 1395) B dL_law_249 (by decide) ?_
  exact z_widen (Nat.le_of_ble_eq_true rfl) (Nat.le_of_ble_eq_true rfl) (z_sub _ [2, 6] rfl (kk _))
set_option maxRecDepth 100000 in
set_option maxHeartbeats 4000000 in
theorem lf_0_68 {p : Program} {l : Launch} {e : Env} {s : State} {m : MethodId} {args : Array Value} {below : List Frame} {meth : Method} {c : Code} {g : gx_T} {Q : State → Prop} {σ : sx_T} {b t bS : Nat} {xs : Nat → Int32} (hlt : l.stackTraces = false) (B : zx_B p s m args meth c code RL 8 g) (hX : va_X bS 6 xs s s.heap) (hbl : bS < s.heap.size) (hbA : ¬ gx_b g ≤ bS) (hF : fz_P b t σ) (h_x1 : xs 1 = 2) {x2 : Int32} (h_x2 : xs 2 = x2) (q1_x2 : (20 : Int) ≤ x2.toInt) (q2_x2 : x2.toInt ≤ (2147483647 : Int)) {x3 : Int32} (h_x3 : xs 3 = x3) (q1_x3 : (0 : Int) ≤ x3.toInt) (q2_x3 : x3.toInt ≤ (17 : Int)) {x4 : Int32} (h_x4 : xs 4 = x4) (q1_x4 : (100 : Int) ≤ x4.toInt) (q2_x4 : x4.toInt ≤ (2147483647 : Int)) {x5 : Int32} (h_x5 : xs 5 = x5) (q1_x5 : (-2147483648 : Int) ≤ x5.toInt) (q2_x5 : x5.toInt ≤ (2147483647 : Int)) (kk : ∀ σ', zx p l e room_1 s m args below meth c g 8 600002 7302232 Q σ' 1395 [(4, .int 0), (0, .ref bS)] []) : zx p l e room_1 s m args below meth c g 8 500 100000 Q σ 148 [(4, .int 0), (3, .ref (b + 431)), (2, .ref (b + 405)), (1, .ref (b + 0)), (0, .ref bS)] [] := by
  have hK := fz_lay hF
  refine z_eqs (σ' := (ap b σ [] [] [])) rfl ?_
  refine z_aload_n B dL_law_148 rfl 3 rfl ?_
  refine z_aload_n B dL_law_149 rfl 4 rfl ?_
  refine z_iload B dL_law_150 0 rfl ?_
  refine z_iconst (v := 1) B dL_law_152 (by decide) ?_
  refine z_iadd B dL_law_153 ?_
  refine z_seti (y := 1) (by decide) ?_
  refine z_sld (j := 1) (x := 2) B hX hbl hbA (by decide) (show ¬ ((1 : Int32) < 0 ∨ 6 ≤ (1 : Int32).toNatClampNeg) by decide) h_x1 dL_law_154 ?_
  refine z_aload_n B dL_law_155 rfl 4 rfl ?_
  refine z_iload B dL_law_156 0 rfl ?_
  refine z_iconst (v := 2) B dL_law_158 (by decide) ?_
  refine z_iadd B dL_law_159 ?_
  refine z_seti (y := 2) (by decide) ?_
  refine z_sld (j := 2) (x := x2) B hX hbl hbA (by decide) (show ¬ ((2 : Int32) < 0 ∨ 6 ≤ (2 : Int32).toNatClampNeg) by decide) h_x2 dL_law_160 ?_
  refine z_aload_n B dL_law_161 rfl 4 rfl ?_
  refine z_iload B dL_law_162 0 rfl ?_
  refine z_iconst (v := 3) B dL_law_164 (by decide) ?_
  refine z_iadd B dL_law_165 ?_
  refine z_seti (y := 3) (by decide) ?_
  refine z_sld (j := 3) (x := x3) B hX hbl hbA (by decide) (show ¬ ((3 : Int32) < 0 ∨ 6 ≤ (3 : Int32).toNatClampNeg) by decide) h_x3 dL_law_166 ?_
  refine z_aload_n B dL_law_167 rfl 4 rfl ?_
  refine z_iload B dL_law_168 0 rfl ?_
  refine z_iconst (v := 4) B dL_law_170 (by decide) ?_
  refine z_iadd B dL_law_171 ?_
  refine z_seti (y := 4) (by decide) ?_
  refine z_sld (j := 4) (x := x4) B hX hbl hbA (by decide) (show ¬ ((4 : Int32) < 0 ∨ 6 ≤ (4 : Int32).toNatClampNeg) by decide) h_x4 dL_law_172 ?_
  refine z_aload_n B dL_law_173 rfl 4 rfl ?_
  refine z_iload B dL_law_174 0 rfl ?_
  refine z_iconst (v := 5) B dL_law_176 (by decide) ?_
  refine z_iadd B dL_law_177 ?_
  refine z_seti (y := 5) (by decide) ?_
  refine z_sld (j := 5) (x := x5) B hX hbl hbA (by decide) (show ¬ ((5 : Int32) < 0 ∨ 6 ≤ (5 : Int32).toNatClampNeg) by decide) h_x5 dL_law_178 ?_
  refine z_aload_n B dL_law_179 rfl 1 rfl ?_
  refine z_cSWi (As := [.ref (b + 0), .int 2, .int x2, .int x3, .int x4, .int x5, .ref (b + 431)]) (rest := []) B cw_L_74 dL_law_180 (ci_L_set_211 l hlt (σ := (ap b σ [] [] [])) (b := b) (lyA hK) x2 x3 x4 x5 q1_x2 q2_x2 (rR_at 0 0 (fz_R hF 0 0 rfl rfl)) (rR_at 1 2 (fz_R hF 1 2 rfl rfl))) rfl (by decide) rfl (Nat.le_of_ble_eq_true rfl) (by decide) (fun r u hu => ?_)
  obtain ⟨hu1, z, hu⟩ := hu
  refine z_eqs (σ' := (ap b (wx_Z σ z) [] [] [])) (hu.trans az_ap) ?_
  show zx p l e _ s m _ below meth c g 8 _ _ _ _ 183 [(4, .int 0), (3, .ref (b + 431)), (2, .ref (b + 405)), (1, .ref (b + 0)), (0, .ref bS)] _
  refine z_seti (y := 1) hu1 ?_
  refine z_istore (lv' := [(5, .int 1), (4, .int 0), (3, .ref (b + 431)), (2, .ref (b + 405)), (1, .ref (b + 0)), (0, .ref bS)]) B dL_law_183 (by decide) rfl ?_
  refine z_aload_n B dL_law_185 rfl 3 rfl ?_
  refine z_aload_n B dL_law_186 rfl 5 rfl ?_
  refine z_iload B dL_law_187 1 rfl ?_
  refine z_iconst (v := 1) B dL_law_189 (by decide) ?_
  refine z_iadd B dL_law_190 ?_
  refine z_seti (y := 1) (by decide) ?_
  refine z_sld (j := 1) (x := 2) B hX hbl hbA (by decide) (show ¬ ((1 : Int32) < 0 ∨ 6 ≤ (1 : Int32).toNatClampNeg) by decide) h_x1 dL_law_191 ?_
  refine z_aload_n B dL_law_192 rfl 5 rfl ?_
  refine z_iload B dL_law_193 1 rfl ?_
  refine z_iconst (v := 2) B dL_law_195 (by decide) ?_
  refine z_iadd B dL_law_196 ?_
  refine z_seti (y := 2) (by decide) ?_
  refine z_sld (j := 2) (x := x2) B hX hbl hbA (by decide) (show ¬ ((2 : Int32) < 0 ∨ 6 ≤ (2 : Int32).toNatClampNeg) by decide) h_x2 dL_law_197 ?_
  refine z_aload_n B dL_law_198 rfl 5 rfl ?_
  refine z_iload B dL_law_199 1 rfl ?_
  refine z_iconst (v := 3) B dL_law_201 (by decide) ?_
  refine z_iadd B dL_law_202 ?_
  refine z_seti (y := 3) (by decide) ?_
  refine z_sld (j := 3) (x := x3) B hX hbl hbA (by decide) (show ¬ ((3 : Int32) < 0 ∨ 6 ≤ (3 : Int32).toNatClampNeg) by decide) h_x3 dL_law_203 ?_
  refine z_aload_n B dL_law_204 rfl 5 rfl ?_
  refine z_iload B dL_law_205 1 rfl ?_
  refine z_iconst (v := 4) B dL_law_207 (by decide) ?_
  refine z_iadd B dL_law_208 ?_
  refine z_seti (y := 4) (by decide) ?_
  refine z_sld (j := 4) (x := x4) B hX hbl hbA (by decide) (show ¬ ((4 : Int32) < 0 ∨ 6 ≤ (4 : Int32).toNatClampNeg) by decide) h_x4 dL_law_209 ?_
  refine z_aload_n B dL_law_210 rfl 5 rfl ?_
  refine z_iload B dL_law_211 1 rfl ?_
  refine z_iconst (v := 5) B dL_law_213 (by decide) ?_
  refine z_iadd B dL_law_214 ?_
  refine z_seti (y := 5) (by decide) ?_
  refine z_sld (j := 5) (x := x5) B hX hbl hbA (by decide) (show ¬ ((5 : Int32) < 0 ∨ 6 ≤ (5 : Int32).toNatClampNeg) by decide) h_x5 dL_law_215 ?_
  refine z_cVi (As := [.int 2, .int x2, .int x3, .int x4, .int x5]) (rest := []) B cw_L_79 cx_10 dL_law_216 (ci_X9_set_218 l (σ := (ap b (wx_Z σ z) [] [] [])) (b := b) (lyA (lyZ hK)) x2 x3 x4 x5 q1_x2 q2_x2 q1_x3 q2_x3 q1_x4 q2_x4) (lKA (lKZ (hk_K hK 405 rfl rfl))) rfl (by decide) rfl (Nat.le_of_ble_eq_true rfl) (by decide) (fun r u hu => ?_)
  refine z_eqs (σ' := (ap b (wx_Z σ z) [(405, 0, 1)] [] [])) (hu.2.trans ap_ap) ?_
  show zx p l e _ s m _ below meth c g 8 _ _ _ _ 219 [(5, .int 1), (4, .int 0), (3, .ref (b + 431)), (2, .ref (b + 405)), (1, .ref (b + 0)), (0, .ref bS)] _
  refine z_seti (y := 0) hu.1 ?_
  refine z_istore (lv' := [(6, .int 0), (5, .int 1), (4, .int 0), (3, .ref (b + 431)), (2, .ref (b + 405)), (1, .ref (b + 0)), (0, .ref bS)]) B dL_law_219 (by decide) rfl ?_
  refine z_aload_n B dL_law_221 rfl 4 rfl ?_
  refine z_cVi (As := []) (rest := []) B cw_L_80 cx_10 dL_law_222 (ci_X9_thrown_31 l (σ := (ap b (wx_Z σ z) [(405, 0, 1)] [] [])) (b := b) (lyA (lyZ hK)) (rI_at 405 0 rfl)) (lKA (lKZ (hk_K hK 405 rfl rfl))) rfl (by decide) rfl (Nat.le_of_ble_eq_true rfl) (by decide) (fun r u hu => ?_)
  refine z_eqs (σ' := (ap b (wx_Z σ z) [(405, 0, 1)] [] [])) hu.2 ?_
  show zx p l e _ s m _ below meth c g 8 _ _ _ _ 225 [(6, .int 0), (5, .int 1), (4, .int 0), (3, .ref (b + 431)), (2, .ref (b + 405)), (1, .ref (b + 0)), (0, .ref bS)] _
  refine z_seti (y := 1) hu.1 ?_
  refine z_iload B dL_law_225 1 rfl ?_
  refine z_icmp_eq (tgt := 232) B dL_law_227 (by decide) (fun _ => ?_) (fun h => absurd (by decide) h)
  refine z_iload B dL_law_232 1 rfl ?_
  refine z_if_ne (tgt := 249) B dL_law_234 (by decide) (fun _ => ?_) (fun h => absurd h (by decide))
  refine z_goto (tgt := 1395) B dL_law_249 (by decide) ?_
  exact z_widen (Nat.le_of_ble_eq_true rfl) (Nat.le_of_ble_eq_true rfl) (z_sub _ [2, 6] rfl (kk _))
set_option maxRecDepth 100000 in
set_option maxHeartbeats 4000000 in
theorem lf_0_69 {p : Program} {l : Launch} {e : Env} {s : State} {m : MethodId} {args : Array Value} {below : List Frame} {meth : Method} {c : Code} {g : gx_T} {Q : State → Prop} {σ : sx_T} {b t bS : Nat} {xs : Nat → Int32} (hlt : l.stackTraces = false) (B : zx_B p s m args meth c code RL 8 g) (hX : va_X bS 6 xs s s.heap) (hbl : bS < s.heap.size) (hbA : ¬ gx_b g ≤ bS) (hF : fz_P b t σ) (h_x1 : xs 1 = 2) {x2 : Int32} (h_x2 : xs 2 = x2) (q1_x2 : (20 : Int) ≤ x2.toInt) (q2_x2 : x2.toInt ≤ (2147483647 : Int)) {x3 : Int32} (h_x3 : xs 3 = x3) (q1_x3 : (18 : Int) ≤ x3.toInt) (q2_x3 : x3.toInt ≤ (2147483647 : Int)) {x4 : Int32} (h_x4 : xs 4 = x4) (q1_x4 : (-2147483648 : Int) ≤ x4.toInt) (q2_x4 : x4.toInt ≤ (2147483647 : Int)) {x5 : Int32} (h_x5 : xs 5 = x5) (q1_x5 : (-2147483648 : Int) ≤ x5.toInt) (q2_x5 : x5.toInt ≤ (2147483647 : Int)) (kk : ∀ σ', zx p l e room_1 s m args below meth c g 8 600002 7302232 Q σ' 1395 [(4, .int 0), (0, .ref bS)] []) : zx p l e room_1 s m args below meth c g 8 500 100000 Q σ 148 [(4, .int 0), (3, .ref (b + 431)), (2, .ref (b + 405)), (1, .ref (b + 0)), (0, .ref bS)] [] := by
  have hK := fz_lay hF
  refine z_eqs (σ' := (ap b σ [] [] [])) rfl ?_
  refine z_aload_n B dL_law_148 rfl 3 rfl ?_
  refine z_aload_n B dL_law_149 rfl 4 rfl ?_
  refine z_iload B dL_law_150 0 rfl ?_
  refine z_iconst (v := 1) B dL_law_152 (by decide) ?_
  refine z_iadd B dL_law_153 ?_
  refine z_seti (y := 1) (by decide) ?_
  refine z_sld (j := 1) (x := 2) B hX hbl hbA (by decide) (show ¬ ((1 : Int32) < 0 ∨ 6 ≤ (1 : Int32).toNatClampNeg) by decide) h_x1 dL_law_154 ?_
  refine z_aload_n B dL_law_155 rfl 4 rfl ?_
  refine z_iload B dL_law_156 0 rfl ?_
  refine z_iconst (v := 2) B dL_law_158 (by decide) ?_
  refine z_iadd B dL_law_159 ?_
  refine z_seti (y := 2) (by decide) ?_
  refine z_sld (j := 2) (x := x2) B hX hbl hbA (by decide) (show ¬ ((2 : Int32) < 0 ∨ 6 ≤ (2 : Int32).toNatClampNeg) by decide) h_x2 dL_law_160 ?_
  refine z_aload_n B dL_law_161 rfl 4 rfl ?_
  refine z_iload B dL_law_162 0 rfl ?_
  refine z_iconst (v := 3) B dL_law_164 (by decide) ?_
  refine z_iadd B dL_law_165 ?_
  refine z_seti (y := 3) (by decide) ?_
  refine z_sld (j := 3) (x := x3) B hX hbl hbA (by decide) (show ¬ ((3 : Int32) < 0 ∨ 6 ≤ (3 : Int32).toNatClampNeg) by decide) h_x3 dL_law_166 ?_
  refine z_aload_n B dL_law_167 rfl 4 rfl ?_
  refine z_iload B dL_law_168 0 rfl ?_
  refine z_iconst (v := 4) B dL_law_170 (by decide) ?_
  refine z_iadd B dL_law_171 ?_
  refine z_seti (y := 4) (by decide) ?_
  refine z_sld (j := 4) (x := x4) B hX hbl hbA (by decide) (show ¬ ((4 : Int32) < 0 ∨ 6 ≤ (4 : Int32).toNatClampNeg) by decide) h_x4 dL_law_172 ?_
  refine z_aload_n B dL_law_173 rfl 4 rfl ?_
  refine z_iload B dL_law_174 0 rfl ?_
  refine z_iconst (v := 5) B dL_law_176 (by decide) ?_
  refine z_iadd B dL_law_177 ?_
  refine z_seti (y := 5) (by decide) ?_
  refine z_sld (j := 5) (x := x5) B hX hbl hbA (by decide) (show ¬ ((5 : Int32) < 0 ∨ 6 ≤ (5 : Int32).toNatClampNeg) by decide) h_x5 dL_law_178 ?_
  refine z_aload_n B dL_law_179 rfl 1 rfl ?_
  refine z_cSWi (As := [.ref (b + 0), .int 2, .int x2, .int x3, .int x4, .int x5, .ref (b + 431)]) (rest := []) B cw_L_74 dL_law_180 (ci_L_set_211 l hlt (σ := (ap b σ [] [] [])) (b := b) (lyA hK) x2 x3 x4 x5 q1_x2 q2_x2 (rR_at 0 0 (fz_R hF 0 0 rfl rfl)) (rR_at 1 2 (fz_R hF 1 2 rfl rfl))) rfl (by decide) rfl (Nat.le_of_ble_eq_true rfl) (by decide) (fun r u hu => ?_)
  obtain ⟨hu1, z, hu⟩ := hu
  refine z_eqs (σ' := (ap b (wx_Z σ z) [] [] [])) (hu.trans az_ap) ?_
  show zx p l e _ s m _ below meth c g 8 _ _ _ _ 183 [(4, .int 0), (3, .ref (b + 431)), (2, .ref (b + 405)), (1, .ref (b + 0)), (0, .ref bS)] _
  refine z_seti (y := 1) hu1 ?_
  refine z_istore (lv' := [(5, .int 1), (4, .int 0), (3, .ref (b + 431)), (2, .ref (b + 405)), (1, .ref (b + 0)), (0, .ref bS)]) B dL_law_183 (by decide) rfl ?_
  refine z_aload_n B dL_law_185 rfl 3 rfl ?_
  refine z_aload_n B dL_law_186 rfl 5 rfl ?_
  refine z_iload B dL_law_187 1 rfl ?_
  refine z_iconst (v := 1) B dL_law_189 (by decide) ?_
  refine z_iadd B dL_law_190 ?_
  refine z_seti (y := 1) (by decide) ?_
  refine z_sld (j := 1) (x := 2) B hX hbl hbA (by decide) (show ¬ ((1 : Int32) < 0 ∨ 6 ≤ (1 : Int32).toNatClampNeg) by decide) h_x1 dL_law_191 ?_
  refine z_aload_n B dL_law_192 rfl 5 rfl ?_
  refine z_iload B dL_law_193 1 rfl ?_
  refine z_iconst (v := 2) B dL_law_195 (by decide) ?_
  refine z_iadd B dL_law_196 ?_
  refine z_seti (y := 2) (by decide) ?_
  refine z_sld (j := 2) (x := x2) B hX hbl hbA (by decide) (show ¬ ((2 : Int32) < 0 ∨ 6 ≤ (2 : Int32).toNatClampNeg) by decide) h_x2 dL_law_197 ?_
  refine z_aload_n B dL_law_198 rfl 5 rfl ?_
  refine z_iload B dL_law_199 1 rfl ?_
  refine z_iconst (v := 3) B dL_law_201 (by decide) ?_
  refine z_iadd B dL_law_202 ?_
  refine z_seti (y := 3) (by decide) ?_
  refine z_sld (j := 3) (x := x3) B hX hbl hbA (by decide) (show ¬ ((3 : Int32) < 0 ∨ 6 ≤ (3 : Int32).toNatClampNeg) by decide) h_x3 dL_law_203 ?_
  refine z_aload_n B dL_law_204 rfl 5 rfl ?_
  refine z_iload B dL_law_205 1 rfl ?_
  refine z_iconst (v := 4) B dL_law_207 (by decide) ?_
  refine z_iadd B dL_law_208 ?_
  refine z_seti (y := 4) (by decide) ?_
  refine z_sld (j := 4) (x := x4) B hX hbl hbA (by decide) (show ¬ ((4 : Int32) < 0 ∨ 6 ≤ (4 : Int32).toNatClampNeg) by decide) h_x4 dL_law_209 ?_
  refine z_aload_n B dL_law_210 rfl 5 rfl ?_
  refine z_iload B dL_law_211 1 rfl ?_
  refine z_iconst (v := 5) B dL_law_213 (by decide) ?_
  refine z_iadd B dL_law_214 ?_
  refine z_seti (y := 5) (by decide) ?_
  refine z_sld (j := 5) (x := x5) B hX hbl hbA (by decide) (show ¬ ((5 : Int32) < 0 ∨ 6 ≤ (5 : Int32).toNatClampNeg) by decide) h_x5 dL_law_215 ?_
  refine z_cVi (As := [.int 2, .int x2, .int x3, .int x4, .int x5]) (rest := []) B cw_L_79 cx_10 dL_law_216 (ci_X9_set_219 l (σ := (ap b (wx_Z σ z) [] [] [])) (b := b) (lyA (lyZ hK)) x2 x3 x4 x5 q1_x2 q2_x2 q1_x3 q2_x3) (lKA (lKZ (hk_K hK 405 rfl rfl))) rfl (by decide) rfl (Nat.le_of_ble_eq_true rfl) (by decide) (fun r u hu => ?_)
  refine z_eqs (σ' := (ap b (wx_Z σ z) [(405, 0, 1)] [] [])) (hu.2.trans ap_ap) ?_
  show zx p l e _ s m _ below meth c g 8 _ _ _ _ 219 [(5, .int 1), (4, .int 0), (3, .ref (b + 431)), (2, .ref (b + 405)), (1, .ref (b + 0)), (0, .ref bS)] _
  refine z_seti (y := 0) hu.1 ?_
  refine z_istore (lv' := [(6, .int 0), (5, .int 1), (4, .int 0), (3, .ref (b + 431)), (2, .ref (b + 405)), (1, .ref (b + 0)), (0, .ref bS)]) B dL_law_219 (by decide) rfl ?_
  refine z_aload_n B dL_law_221 rfl 4 rfl ?_
  refine z_cVi (As := []) (rest := []) B cw_L_80 cx_10 dL_law_222 (ci_X9_thrown_31 l (σ := (ap b (wx_Z σ z) [(405, 0, 1)] [] [])) (b := b) (lyA (lyZ hK)) (rI_at 405 0 rfl)) (lKA (lKZ (hk_K hK 405 rfl rfl))) rfl (by decide) rfl (Nat.le_of_ble_eq_true rfl) (by decide) (fun r u hu => ?_)
  refine z_eqs (σ' := (ap b (wx_Z σ z) [(405, 0, 1)] [] [])) hu.2 ?_
  show zx p l e _ s m _ below meth c g 8 _ _ _ _ 225 [(6, .int 0), (5, .int 1), (4, .int 0), (3, .ref (b + 431)), (2, .ref (b + 405)), (1, .ref (b + 0)), (0, .ref bS)] _
  refine z_seti (y := 1) hu.1 ?_
  refine z_iload B dL_law_225 1 rfl ?_
  refine z_icmp_eq (tgt := 232) B dL_law_227 (by decide) (fun _ => ?_) (fun h => absurd (by decide) h)
  refine z_iload B dL_law_232 1 rfl ?_
  refine z_if_ne (tgt := 249) B dL_law_234 (by decide) (fun _ => ?_) (fun h => absurd h (by decide))
  refine z_goto (tgt := 1395) B dL_law_249 (by decide) ?_
  exact z_widen (Nat.le_of_ble_eq_true rfl) (Nat.le_of_ble_eq_true rfl) (z_sub _ [2, 6] rfl (kk _))
set_option maxRecDepth 100000 in
set_option maxHeartbeats 4000000 in
theorem lf_0_70 {p : Program} {l : Launch} {e : Env} {s : State} {m : MethodId} {args : Array Value} {below : List Frame} {meth : Method} {c : Code} {g : gx_T} {Q : State → Prop} {σ : sx_T} {b t bS : Nat} {xs : Nat → Int32} (hlt : l.stackTraces = false) (B : zx_B p s m args meth c code RL 8 g) (hX : va_X bS 6 xs s s.heap) (hbl : bS < s.heap.size) (hbA : ¬ gx_b g ≤ bS) (hF : fz_P b t σ) (h_x1 : xs 1 = 3) {x2 : Int32} (h_x2 : xs 2 = x2) (q1_x2 : (-2147483648 : Int) ≤ x2.toInt) (q2_x2 : x2.toInt ≤ (-1 : Int)) {x3 : Int32} (h_x3 : xs 3 = x3) (q1_x3 : (-2147483648 : Int) ≤ x3.toInt) (q2_x3 : x3.toInt ≤ (-1 : Int)) {x4 : Int32} (h_x4 : xs 4 = x4) (q1_x4 : (-2147483648 : Int) ≤ x4.toInt) (q2_x4 : x4.toInt ≤ (2147483647 : Int)) {x5 : Int32} (h_x5 : xs 5 = x5) (q1_x5 : (-2147483648 : Int) ≤ x5.toInt) (q2_x5 : x5.toInt ≤ (2147483647 : Int)) (kk : ∀ σ', zx p l e room_1 s m args below meth c g 8 600002 7302232 Q σ' 1395 [(4, .int 0), (0, .ref bS)] []) : zx p l e room_1 s m args below meth c g 8 500 100000 Q σ 148 [(4, .int 0), (3, .ref (b + 431)), (2, .ref (b + 405)), (1, .ref (b + 0)), (0, .ref bS)] [] := by
  have hK := fz_lay hF
  refine z_eqs (σ' := (ap b σ [] [] [])) rfl ?_
  refine z_aload_n B dL_law_148 rfl 3 rfl ?_
  refine z_aload_n B dL_law_149 rfl 4 rfl ?_
  refine z_iload B dL_law_150 0 rfl ?_
  refine z_iconst (v := 1) B dL_law_152 (by decide) ?_
  refine z_iadd B dL_law_153 ?_
  refine z_seti (y := 1) (by decide) ?_
  refine z_sld (j := 1) (x := 3) B hX hbl hbA (by decide) (show ¬ ((1 : Int32) < 0 ∨ 6 ≤ (1 : Int32).toNatClampNeg) by decide) h_x1 dL_law_154 ?_
  refine z_aload_n B dL_law_155 rfl 4 rfl ?_
  refine z_iload B dL_law_156 0 rfl ?_
  refine z_iconst (v := 2) B dL_law_158 (by decide) ?_
  refine z_iadd B dL_law_159 ?_
  refine z_seti (y := 2) (by decide) ?_
  refine z_sld (j := 2) (x := x2) B hX hbl hbA (by decide) (show ¬ ((2 : Int32) < 0 ∨ 6 ≤ (2 : Int32).toNatClampNeg) by decide) h_x2 dL_law_160 ?_
  refine z_aload_n B dL_law_161 rfl 4 rfl ?_
  refine z_iload B dL_law_162 0 rfl ?_
  refine z_iconst (v := 3) B dL_law_164 (by decide) ?_
  refine z_iadd B dL_law_165 ?_
  refine z_seti (y := 3) (by decide) ?_
  refine z_sld (j := 3) (x := x3) B hX hbl hbA (by decide) (show ¬ ((3 : Int32) < 0 ∨ 6 ≤ (3 : Int32).toNatClampNeg) by decide) h_x3 dL_law_166 ?_
  refine z_aload_n B dL_law_167 rfl 4 rfl ?_
  refine z_iload B dL_law_168 0 rfl ?_
  refine z_iconst (v := 4) B dL_law_170 (by decide) ?_
  refine z_iadd B dL_law_171 ?_
  refine z_seti (y := 4) (by decide) ?_
  refine z_sld (j := 4) (x := x4) B hX hbl hbA (by decide) (show ¬ ((4 : Int32) < 0 ∨ 6 ≤ (4 : Int32).toNatClampNeg) by decide) h_x4 dL_law_172 ?_
  refine z_aload_n B dL_law_173 rfl 4 rfl ?_
  refine z_iload B dL_law_174 0 rfl ?_
  refine z_iconst (v := 5) B dL_law_176 (by decide) ?_
  refine z_iadd B dL_law_177 ?_
  refine z_seti (y := 5) (by decide) ?_
  refine z_sld (j := 5) (x := x5) B hX hbl hbA (by decide) (show ¬ ((5 : Int32) < 0 ∨ 6 ≤ (5 : Int32).toNatClampNeg) by decide) h_x5 dL_law_178 ?_
  refine z_aload_n B dL_law_179 rfl 1 rfl ?_
  refine z_cSWi (As := [.ref (b + 0), .int 3, .int x2, .int x3, .int x4, .int x5, .ref (b + 431)]) (rest := []) B cw_L_74 dL_law_180 (ci_L_set_222 l hlt (σ := (ap b σ [] [] [])) (b := b) (lyA hK) x2 x3 x4 x5 q1_x2 q2_x2 (rR_at 0 0 (fz_R hF 0 0 rfl rfl)) (rR_at 1 3 (fz_R hF 1 3 rfl rfl))) rfl (by decide) rfl (Nat.le_of_ble_eq_true rfl) (by decide) (fun r u hu => ?_)
  obtain ⟨hu1, z, hu⟩ := hu
  refine z_eqs (σ' := (ap b (wx_Z σ z) [] [] [])) (hu.trans az_ap) ?_
  show zx p l e _ s m _ below meth c g 8 _ _ _ _ 183 [(4, .int 0), (3, .ref (b + 431)), (2, .ref (b + 405)), (1, .ref (b + 0)), (0, .ref bS)] _
  refine z_seti (y := 1) hu1 ?_
  refine z_istore (lv' := [(5, .int 1), (4, .int 0), (3, .ref (b + 431)), (2, .ref (b + 405)), (1, .ref (b + 0)), (0, .ref bS)]) B dL_law_183 (by decide) rfl ?_
  refine z_aload_n B dL_law_185 rfl 3 rfl ?_
  refine z_aload_n B dL_law_186 rfl 5 rfl ?_
  refine z_iload B dL_law_187 1 rfl ?_
  refine z_iconst (v := 1) B dL_law_189 (by decide) ?_
  refine z_iadd B dL_law_190 ?_
  refine z_seti (y := 1) (by decide) ?_
  refine z_sld (j := 1) (x := 3) B hX hbl hbA (by decide) (show ¬ ((1 : Int32) < 0 ∨ 6 ≤ (1 : Int32).toNatClampNeg) by decide) h_x1 dL_law_191 ?_
  refine z_aload_n B dL_law_192 rfl 5 rfl ?_
  refine z_iload B dL_law_193 1 rfl ?_
  refine z_iconst (v := 2) B dL_law_195 (by decide) ?_
  refine z_iadd B dL_law_196 ?_
  refine z_seti (y := 2) (by decide) ?_
  refine z_sld (j := 2) (x := x2) B hX hbl hbA (by decide) (show ¬ ((2 : Int32) < 0 ∨ 6 ≤ (2 : Int32).toNatClampNeg) by decide) h_x2 dL_law_197 ?_
  refine z_aload_n B dL_law_198 rfl 5 rfl ?_
  refine z_iload B dL_law_199 1 rfl ?_
  refine z_iconst (v := 3) B dL_law_201 (by decide) ?_
  refine z_iadd B dL_law_202 ?_
  refine z_seti (y := 3) (by decide) ?_
  refine z_sld (j := 3) (x := x3) B hX hbl hbA (by decide) (show ¬ ((3 : Int32) < 0 ∨ 6 ≤ (3 : Int32).toNatClampNeg) by decide) h_x3 dL_law_203 ?_
  refine z_aload_n B dL_law_204 rfl 5 rfl ?_
  refine z_iload B dL_law_205 1 rfl ?_
  refine z_iconst (v := 4) B dL_law_207 (by decide) ?_
  refine z_iadd B dL_law_208 ?_
  refine z_seti (y := 4) (by decide) ?_
  refine z_sld (j := 4) (x := x4) B hX hbl hbA (by decide) (show ¬ ((4 : Int32) < 0 ∨ 6 ≤ (4 : Int32).toNatClampNeg) by decide) h_x4 dL_law_209 ?_
  refine z_aload_n B dL_law_210 rfl 5 rfl ?_
  refine z_iload B dL_law_211 1 rfl ?_
  refine z_iconst (v := 5) B dL_law_213 (by decide) ?_
  refine z_iadd B dL_law_214 ?_
  refine z_seti (y := 5) (by decide) ?_
  refine z_sld (j := 5) (x := x5) B hX hbl hbA (by decide) (show ¬ ((5 : Int32) < 0 ∨ 6 ≤ (5 : Int32).toNatClampNeg) by decide) h_x5 dL_law_215 ?_
  refine z_cVi (As := [.int 3, .int x2, .int x3, .int x4, .int x5]) (rest := []) B cw_L_79 cx_10 dL_law_216 (ci_X9_set_225 l (σ := (ap b (wx_Z σ z) [] [] [])) (b := b) (lyA (lyZ hK)) x2 x3 x4 x5 q1_x2 q2_x2 q1_x3 q2_x3) (lKA (lKZ (hk_K hK 405 rfl rfl))) rfl (by decide) rfl (Nat.le_of_ble_eq_true rfl) (by decide) (fun r u hu => ?_)
  refine z_eqs (σ' := (ap b (wx_Z σ z) [(405, 0, 1)] [] [])) (hu.2.trans ap_ap) ?_
  show zx p l e _ s m _ below meth c g 8 _ _ _ _ 219 [(5, .int 1), (4, .int 0), (3, .ref (b + 431)), (2, .ref (b + 405)), (1, .ref (b + 0)), (0, .ref bS)] _
  refine z_seti (y := 0) hu.1 ?_
  refine z_istore (lv' := [(6, .int 0), (5, .int 1), (4, .int 0), (3, .ref (b + 431)), (2, .ref (b + 405)), (1, .ref (b + 0)), (0, .ref bS)]) B dL_law_219 (by decide) rfl ?_
  refine z_aload_n B dL_law_221 rfl 4 rfl ?_
  refine z_cVi (As := []) (rest := []) B cw_L_80 cx_10 dL_law_222 (ci_X9_thrown_31 l (σ := (ap b (wx_Z σ z) [(405, 0, 1)] [] [])) (b := b) (lyA (lyZ hK)) (rI_at 405 0 rfl)) (lKA (lKZ (hk_K hK 405 rfl rfl))) rfl (by decide) rfl (Nat.le_of_ble_eq_true rfl) (by decide) (fun r u hu => ?_)
  refine z_eqs (σ' := (ap b (wx_Z σ z) [(405, 0, 1)] [] [])) hu.2 ?_
  show zx p l e _ s m _ below meth c g 8 _ _ _ _ 225 [(6, .int 0), (5, .int 1), (4, .int 0), (3, .ref (b + 431)), (2, .ref (b + 405)), (1, .ref (b + 0)), (0, .ref bS)] _
  refine z_seti (y := 1) hu.1 ?_
  refine z_iload B dL_law_225 1 rfl ?_
  refine z_icmp_eq (tgt := 232) B dL_law_227 (by decide) (fun _ => ?_) (fun h => absurd (by decide) h)
  refine z_iload B dL_law_232 1 rfl ?_
  refine z_if_ne (tgt := 249) B dL_law_234 (by decide) (fun _ => ?_) (fun h => absurd h (by decide))
  refine z_goto (tgt := 1395) B dL_law_249 (by decide) ?_
  exact z_widen (Nat.le_of_ble_eq_true rfl) (Nat.le_of_ble_eq_true rfl) (z_sub _ [2, 6] rfl (kk _))
set_option maxRecDepth 100000 in
set_option maxHeartbeats 4000000 in
theorem lf_0_71 {p : Program} {l : Launch} {e : Env} {s : State} {m : MethodId} {args : Array Value} {below : List Frame} {meth : Method} {c : Code} {g : gx_T} {Q : State → Prop} {σ : sx_T} {b t bS : Nat} {xs : Nat → Int32} (hlt : l.stackTraces = false) (B : zx_B p s m args meth c code RL 8 g) (hX : va_X bS 6 xs s s.heap) (hbl : bS < s.heap.size) (hbA : ¬ gx_b g ≤ bS) (hF : fz_P b t σ) (h_x1 : xs 1 = 3) {x2 : Int32} (h_x2 : xs 2 = x2) (q1_x2 : (-2147483648 : Int) ≤ x2.toInt) (q2_x2 : x2.toInt ≤ (-1 : Int)) {x3 : Int32} (h_x3 : xs 3 = x3) (q1_x3 : (0 : Int) ≤ x3.toInt) (q2_x3 : x3.toInt ≤ (17 : Int)) {x4 : Int32} (h_x4 : xs 4 = x4) (q1_x4 : (-2147483648 : Int) ≤ x4.toInt) (q2_x4 : x4.toInt ≤ (-1 : Int)) {x5 : Int32} (h_x5 : xs 5 = x5) (q1_x5 : (-2147483648 : Int) ≤ x5.toInt) (q2_x5 : x5.toInt ≤ (2147483647 : Int)) (kk : ∀ σ', zx p l e room_1 s m args below meth c g 8 600002 7302232 Q σ' 1395 [(4, .int 0), (0, .ref bS)] []) : zx p l e room_1 s m args below meth c g 8 500 100000 Q σ 148 [(4, .int 0), (3, .ref (b + 431)), (2, .ref (b + 405)), (1, .ref (b + 0)), (0, .ref bS)] [] := by
  have hK := fz_lay hF
  refine z_eqs (σ' := (ap b σ [] [] [])) rfl ?_
  refine z_aload_n B dL_law_148 rfl 3 rfl ?_
  refine z_aload_n B dL_law_149 rfl 4 rfl ?_
  refine z_iload B dL_law_150 0 rfl ?_
  refine z_iconst (v := 1) B dL_law_152 (by decide) ?_
  refine z_iadd B dL_law_153 ?_
  refine z_seti (y := 1) (by decide) ?_
  refine z_sld (j := 1) (x := 3) B hX hbl hbA (by decide) (show ¬ ((1 : Int32) < 0 ∨ 6 ≤ (1 : Int32).toNatClampNeg) by decide) h_x1 dL_law_154 ?_
  refine z_aload_n B dL_law_155 rfl 4 rfl ?_
  refine z_iload B dL_law_156 0 rfl ?_
  refine z_iconst (v := 2) B dL_law_158 (by decide) ?_
  refine z_iadd B dL_law_159 ?_
  refine z_seti (y := 2) (by decide) ?_
  refine z_sld (j := 2) (x := x2) B hX hbl hbA (by decide) (show ¬ ((2 : Int32) < 0 ∨ 6 ≤ (2 : Int32).toNatClampNeg) by decide) h_x2 dL_law_160 ?_
  refine z_aload_n B dL_law_161 rfl 4 rfl ?_
  refine z_iload B dL_law_162 0 rfl ?_
  refine z_iconst (v := 3) B dL_law_164 (by decide) ?_
  refine z_iadd B dL_law_165 ?_
  refine z_seti (y := 3) (by decide) ?_
  refine z_sld (j := 3) (x := x3) B hX hbl hbA (by decide) (show ¬ ((3 : Int32) < 0 ∨ 6 ≤ (3 : Int32).toNatClampNeg) by decide) h_x3 dL_law_166 ?_
  refine z_aload_n B dL_law_167 rfl 4 rfl ?_
  refine z_iload B dL_law_168 0 rfl ?_
  refine z_iconst (v := 4) B dL_law_170 (by decide) ?_
  refine z_iadd B dL_law_171 ?_
  refine z_seti (y := 4) (by decide) ?_
  refine z_sld (j := 4) (x := x4) B hX hbl hbA (by decide) (show ¬ ((4 : Int32) < 0 ∨ 6 ≤ (4 : Int32).toNatClampNeg) by decide) h_x4 dL_law_172 ?_
  refine z_aload_n B dL_law_173 rfl 4 rfl ?_
  refine z_iload B dL_law_174 0 rfl ?_
  refine z_iconst (v := 5) B dL_law_176 (by decide) ?_
  refine z_iadd B dL_law_177 ?_
  refine z_seti (y := 5) (by decide) ?_
  refine z_sld (j := 5) (x := x5) B hX hbl hbA (by decide) (show ¬ ((5 : Int32) < 0 ∨ 6 ≤ (5 : Int32).toNatClampNeg) by decide) h_x5 dL_law_178 ?_
  refine z_aload_n B dL_law_179 rfl 1 rfl ?_
  refine z_cSWi (As := [.ref (b + 0), .int 3, .int x2, .int x3, .int x4, .int x5, .ref (b + 431)]) (rest := []) B cw_L_74 dL_law_180 (ci_L_set_222 l hlt (σ := (ap b σ [] [] [])) (b := b) (lyA hK) x2 x3 x4 x5 q1_x2 q2_x2 (rR_at 0 0 (fz_R hF 0 0 rfl rfl)) (rR_at 1 3 (fz_R hF 1 3 rfl rfl))) rfl (by decide) rfl (Nat.le_of_ble_eq_true rfl) (by decide) (fun r u hu => ?_)
  obtain ⟨hu1, z, hu⟩ := hu
  refine z_eqs (σ' := (ap b (wx_Z σ z) [] [] [])) (hu.trans az_ap) ?_
  show zx p l e _ s m _ below meth c g 8 _ _ _ _ 183 [(4, .int 0), (3, .ref (b + 431)), (2, .ref (b + 405)), (1, .ref (b + 0)), (0, .ref bS)] _
  refine z_seti (y := 1) hu1 ?_
  refine z_istore (lv' := [(5, .int 1), (4, .int 0), (3, .ref (b + 431)), (2, .ref (b + 405)), (1, .ref (b + 0)), (0, .ref bS)]) B dL_law_183 (by decide) rfl ?_
  refine z_aload_n B dL_law_185 rfl 3 rfl ?_
  refine z_aload_n B dL_law_186 rfl 5 rfl ?_
  refine z_iload B dL_law_187 1 rfl ?_
  refine z_iconst (v := 1) B dL_law_189 (by decide) ?_
  refine z_iadd B dL_law_190 ?_
  refine z_seti (y := 1) (by decide) ?_
  refine z_sld (j := 1) (x := 3) B hX hbl hbA (by decide) (show ¬ ((1 : Int32) < 0 ∨ 6 ≤ (1 : Int32).toNatClampNeg) by decide) h_x1 dL_law_191 ?_
  refine z_aload_n B dL_law_192 rfl 5 rfl ?_
  refine z_iload B dL_law_193 1 rfl ?_
  refine z_iconst (v := 2) B dL_law_195 (by decide) ?_
  refine z_iadd B dL_law_196 ?_
  refine z_seti (y := 2) (by decide) ?_
  refine z_sld (j := 2) (x := x2) B hX hbl hbA (by decide) (show ¬ ((2 : Int32) < 0 ∨ 6 ≤ (2 : Int32).toNatClampNeg) by decide) h_x2 dL_law_197 ?_
  refine z_aload_n B dL_law_198 rfl 5 rfl ?_
  refine z_iload B dL_law_199 1 rfl ?_
  refine z_iconst (v := 3) B dL_law_201 (by decide) ?_
  refine z_iadd B dL_law_202 ?_
  refine z_seti (y := 3) (by decide) ?_
  refine z_sld (j := 3) (x := x3) B hX hbl hbA (by decide) (show ¬ ((3 : Int32) < 0 ∨ 6 ≤ (3 : Int32).toNatClampNeg) by decide) h_x3 dL_law_203 ?_
  refine z_aload_n B dL_law_204 rfl 5 rfl ?_
  refine z_iload B dL_law_205 1 rfl ?_
  refine z_iconst (v := 4) B dL_law_207 (by decide) ?_
  refine z_iadd B dL_law_208 ?_
  refine z_seti (y := 4) (by decide) ?_
  refine z_sld (j := 4) (x := x4) B hX hbl hbA (by decide) (show ¬ ((4 : Int32) < 0 ∨ 6 ≤ (4 : Int32).toNatClampNeg) by decide) h_x4 dL_law_209 ?_
  refine z_aload_n B dL_law_210 rfl 5 rfl ?_
  refine z_iload B dL_law_211 1 rfl ?_
  refine z_iconst (v := 5) B dL_law_213 (by decide) ?_
  refine z_iadd B dL_law_214 ?_
  refine z_seti (y := 5) (by decide) ?_
  refine z_sld (j := 5) (x := x5) B hX hbl hbA (by decide) (show ¬ ((5 : Int32) < 0 ∨ 6 ≤ (5 : Int32).toNatClampNeg) by decide) h_x5 dL_law_215 ?_
  refine z_cVi (As := [.int 3, .int x2, .int x3, .int x4, .int x5]) (rest := []) B cw_L_79 cx_10 dL_law_216 (ci_X9_set_226 l (σ := (ap b (wx_Z σ z) [] [] [])) (b := b) (lyA (lyZ hK)) x2 x3 x4 x5 q1_x2 q2_x2 q1_x3 q2_x3 q1_x4 q2_x4) (lKA (lKZ (hk_K hK 405 rfl rfl))) rfl (by decide) rfl (Nat.le_of_ble_eq_true rfl) (by decide) (fun r u hu => ?_)
  refine z_eqs (σ' := (ap b (wx_Z σ z) [(405, 0, 1)] [] [])) (hu.2.trans ap_ap) ?_
  show zx p l e _ s m _ below meth c g 8 _ _ _ _ 219 [(5, .int 1), (4, .int 0), (3, .ref (b + 431)), (2, .ref (b + 405)), (1, .ref (b + 0)), (0, .ref bS)] _
  refine z_seti (y := 0) hu.1 ?_
  refine z_istore (lv' := [(6, .int 0), (5, .int 1), (4, .int 0), (3, .ref (b + 431)), (2, .ref (b + 405)), (1, .ref (b + 0)), (0, .ref bS)]) B dL_law_219 (by decide) rfl ?_
  refine z_aload_n B dL_law_221 rfl 4 rfl ?_
  refine z_cVi (As := []) (rest := []) B cw_L_80 cx_10 dL_law_222 (ci_X9_thrown_31 l (σ := (ap b (wx_Z σ z) [(405, 0, 1)] [] [])) (b := b) (lyA (lyZ hK)) (rI_at 405 0 rfl)) (lKA (lKZ (hk_K hK 405 rfl rfl))) rfl (by decide) rfl (Nat.le_of_ble_eq_true rfl) (by decide) (fun r u hu => ?_)
  refine z_eqs (σ' := (ap b (wx_Z σ z) [(405, 0, 1)] [] [])) hu.2 ?_
  show zx p l e _ s m _ below meth c g 8 _ _ _ _ 225 [(6, .int 0), (5, .int 1), (4, .int 0), (3, .ref (b + 431)), (2, .ref (b + 405)), (1, .ref (b + 0)), (0, .ref bS)] _
  refine z_seti (y := 1) hu.1 ?_
  refine z_iload B dL_law_225 1 rfl ?_
  refine z_icmp_eq (tgt := 232) B dL_law_227 (by decide) (fun _ => ?_) (fun h => absurd (by decide) h)
  refine z_iload B dL_law_232 1 rfl ?_
  refine z_if_ne (tgt := 249) B dL_law_234 (by decide) (fun _ => ?_) (fun h => absurd h (by decide))
  refine z_goto (tgt := 1395) B dL_law_249 (by decide) ?_
  exact z_widen (Nat.le_of_ble_eq_true rfl) (Nat.le_of_ble_eq_true rfl) (z_sub _ [2, 6] rfl (kk _))
set_option maxRecDepth 100000 in
set_option maxHeartbeats 4000000 in
theorem lf_0_72 {p : Program} {l : Launch} {e : Env} {s : State} {m : MethodId} {args : Array Value} {below : List Frame} {meth : Method} {c : Code} {g : gx_T} {Q : State → Prop} {σ : sx_T} {b t bS : Nat} {xs : Nat → Int32} (hlt : l.stackTraces = false) (B : zx_B p s m args meth c code RL 8 g) (hX : va_X bS 6 xs s s.heap) (hbl : bS < s.heap.size) (hbA : ¬ gx_b g ≤ bS) (hF : fz_P b t σ) (h_x1 : xs 1 = 3) {x2 : Int32} (h_x2 : xs 2 = x2) (q1_x2 : (-2147483648 : Int) ≤ x2.toInt) (q2_x2 : x2.toInt ≤ (-1 : Int)) {x3 : Int32} (h_x3 : xs 3 = x3) (q1_x3 : (0 : Int) ≤ x3.toInt) (q2_x3 : x3.toInt ≤ (17 : Int)) {x4 : Int32} (h_x4 : xs 4 = x4) (q1_x4 : (0 : Int) ≤ x4.toInt) (q2_x4 : x4.toInt ≤ (99 : Int)) {x5 : Int32} (h_x5 : xs 5 = x5) (q1_x5 : (-2147483648 : Int) ≤ x5.toInt) (q2_x5 : x5.toInt ≤ (-1 : Int)) (kk : ∀ σ', zx p l e room_1 s m args below meth c g 8 600002 7302232 Q σ' 1395 [(4, .int 0), (0, .ref bS)] []) : zx p l e room_1 s m args below meth c g 8 500 100000 Q σ 148 [(4, .int 0), (3, .ref (b + 431)), (2, .ref (b + 405)), (1, .ref (b + 0)), (0, .ref bS)] [] := by
  have hK := fz_lay hF
  refine z_eqs (σ' := (ap b σ [] [] [])) rfl ?_
  refine z_aload_n B dL_law_148 rfl 3 rfl ?_
  refine z_aload_n B dL_law_149 rfl 4 rfl ?_
  refine z_iload B dL_law_150 0 rfl ?_
  refine z_iconst (v := 1) B dL_law_152 (by decide) ?_
  refine z_iadd B dL_law_153 ?_
  refine z_seti (y := 1) (by decide) ?_
  refine z_sld (j := 1) (x := 3) B hX hbl hbA (by decide) (show ¬ ((1 : Int32) < 0 ∨ 6 ≤ (1 : Int32).toNatClampNeg) by decide) h_x1 dL_law_154 ?_
  refine z_aload_n B dL_law_155 rfl 4 rfl ?_
  refine z_iload B dL_law_156 0 rfl ?_
  refine z_iconst (v := 2) B dL_law_158 (by decide) ?_
  refine z_iadd B dL_law_159 ?_
  refine z_seti (y := 2) (by decide) ?_
  refine z_sld (j := 2) (x := x2) B hX hbl hbA (by decide) (show ¬ ((2 : Int32) < 0 ∨ 6 ≤ (2 : Int32).toNatClampNeg) by decide) h_x2 dL_law_160 ?_
  refine z_aload_n B dL_law_161 rfl 4 rfl ?_
  refine z_iload B dL_law_162 0 rfl ?_
  refine z_iconst (v := 3) B dL_law_164 (by decide) ?_
  refine z_iadd B dL_law_165 ?_
  refine z_seti (y := 3) (by decide) ?_
  refine z_sld (j := 3) (x := x3) B hX hbl hbA (by decide) (show ¬ ((3 : Int32) < 0 ∨ 6 ≤ (3 : Int32).toNatClampNeg) by decide) h_x3 dL_law_166 ?_
  refine z_aload_n B dL_law_167 rfl 4 rfl ?_
  refine z_iload B dL_law_168 0 rfl ?_
  refine z_iconst (v := 4) B dL_law_170 (by decide) ?_
  refine z_iadd B dL_law_171 ?_
  refine z_seti (y := 4) (by decide) ?_
  refine z_sld (j := 4) (x := x4) B hX hbl hbA (by decide) (show ¬ ((4 : Int32) < 0 ∨ 6 ≤ (4 : Int32).toNatClampNeg) by decide) h_x4 dL_law_172 ?_
  refine z_aload_n B dL_law_173 rfl 4 rfl ?_
  refine z_iload B dL_law_174 0 rfl ?_
  refine z_iconst (v := 5) B dL_law_176 (by decide) ?_
  refine z_iadd B dL_law_177 ?_
  refine z_seti (y := 5) (by decide) ?_
  refine z_sld (j := 5) (x := x5) B hX hbl hbA (by decide) (show ¬ ((5 : Int32) < 0 ∨ 6 ≤ (5 : Int32).toNatClampNeg) by decide) h_x5 dL_law_178 ?_
  refine z_aload_n B dL_law_179 rfl 1 rfl ?_
  refine z_cSWi (As := [.ref (b + 0), .int 3, .int x2, .int x3, .int x4, .int x5, .ref (b + 431)]) (rest := []) B cw_L_74 dL_law_180 (ci_L_set_222 l hlt (σ := (ap b σ [] [] [])) (b := b) (lyA hK) x2 x3 x4 x5 q1_x2 q2_x2 (rR_at 0 0 (fz_R hF 0 0 rfl rfl)) (rR_at 1 3 (fz_R hF 1 3 rfl rfl))) rfl (by decide) rfl (Nat.le_of_ble_eq_true rfl) (by decide) (fun r u hu => ?_)
  obtain ⟨hu1, z, hu⟩ := hu
  refine z_eqs (σ' := (ap b (wx_Z σ z) [] [] [])) (hu.trans az_ap) ?_
  show zx p l e _ s m _ below meth c g 8 _ _ _ _ 183 [(4, .int 0), (3, .ref (b + 431)), (2, .ref (b + 405)), (1, .ref (b + 0)), (0, .ref bS)] _
  refine z_seti (y := 1) hu1 ?_
  refine z_istore (lv' := [(5, .int 1), (4, .int 0), (3, .ref (b + 431)), (2, .ref (b + 405)), (1, .ref (b + 0)), (0, .ref bS)]) B dL_law_183 (by decide) rfl ?_
  refine z_aload_n B dL_law_185 rfl 3 rfl ?_
  refine z_aload_n B dL_law_186 rfl 5 rfl ?_
  refine z_iload B dL_law_187 1 rfl ?_
  refine z_iconst (v := 1) B dL_law_189 (by decide) ?_
  refine z_iadd B dL_law_190 ?_
  refine z_seti (y := 1) (by decide) ?_
  refine z_sld (j := 1) (x := 3) B hX hbl hbA (by decide) (show ¬ ((1 : Int32) < 0 ∨ 6 ≤ (1 : Int32).toNatClampNeg) by decide) h_x1 dL_law_191 ?_
  refine z_aload_n B dL_law_192 rfl 5 rfl ?_
  refine z_iload B dL_law_193 1 rfl ?_
  refine z_iconst (v := 2) B dL_law_195 (by decide) ?_
  refine z_iadd B dL_law_196 ?_
  refine z_seti (y := 2) (by decide) ?_
  refine z_sld (j := 2) (x := x2) B hX hbl hbA (by decide) (show ¬ ((2 : Int32) < 0 ∨ 6 ≤ (2 : Int32).toNatClampNeg) by decide) h_x2 dL_law_197 ?_
  refine z_aload_n B dL_law_198 rfl 5 rfl ?_
  refine z_iload B dL_law_199 1 rfl ?_
  refine z_iconst (v := 3) B dL_law_201 (by decide) ?_
  refine z_iadd B dL_law_202 ?_
  refine z_seti (y := 3) (by decide) ?_
  refine z_sld (j := 3) (x := x3) B hX hbl hbA (by decide) (show ¬ ((3 : Int32) < 0 ∨ 6 ≤ (3 : Int32).toNatClampNeg) by decide) h_x3 dL_law_203 ?_
  refine z_aload_n B dL_law_204 rfl 5 rfl ?_
  refine z_iload B dL_law_205 1 rfl ?_
  refine z_iconst (v := 4) B dL_law_207 (by decide) ?_
  refine z_iadd B dL_law_208 ?_
  refine z_seti (y := 4) (by decide) ?_
  refine z_sld (j := 4) (x := x4) B hX hbl hbA (by decide) (show ¬ ((4 : Int32) < 0 ∨ 6 ≤ (4 : Int32).toNatClampNeg) by decide) h_x4 dL_law_209 ?_
  refine z_aload_n B dL_law_210 rfl 5 rfl ?_
  refine z_iload B dL_law_211 1 rfl ?_
  refine z_iconst (v := 5) B dL_law_213 (by decide) ?_
  refine z_iadd B dL_law_214 ?_
  refine z_seti (y := 5) (by decide) ?_
  refine z_sld (j := 5) (x := x5) B hX hbl hbA (by decide) (show ¬ ((5 : Int32) < 0 ∨ 6 ≤ (5 : Int32).toNatClampNeg) by decide) h_x5 dL_law_215 ?_
  refine z_cVi (As := [.int 3, .int x2, .int x3, .int x4, .int x5]) (rest := []) B cw_L_79 cx_10 dL_law_216 (ci_X9_set_227 l (σ := (ap b (wx_Z σ z) [] [] [])) (b := b) (lyA (lyZ hK)) x2 x3 x4 x5 q1_x2 q2_x2 q1_x3 q2_x3 q1_x4 q2_x4 q1_x5 q2_x5) (lKA (lKZ (hk_K hK 405 rfl rfl))) rfl (by decide) rfl (Nat.le_of_ble_eq_true rfl) (by decide) (fun r u hu => ?_)
  refine z_eqs (σ' := (ap b (wx_Z σ z) [(405, 0, 1)] [] [])) (hu.2.trans ap_ap) ?_
  show zx p l e _ s m _ below meth c g 8 _ _ _ _ 219 [(5, .int 1), (4, .int 0), (3, .ref (b + 431)), (2, .ref (b + 405)), (1, .ref (b + 0)), (0, .ref bS)] _
  refine z_seti (y := 0) hu.1 ?_
  refine z_istore (lv' := [(6, .int 0), (5, .int 1), (4, .int 0), (3, .ref (b + 431)), (2, .ref (b + 405)), (1, .ref (b + 0)), (0, .ref bS)]) B dL_law_219 (by decide) rfl ?_
  refine z_aload_n B dL_law_221 rfl 4 rfl ?_
  refine z_cVi (As := []) (rest := []) B cw_L_80 cx_10 dL_law_222 (ci_X9_thrown_31 l (σ := (ap b (wx_Z σ z) [(405, 0, 1)] [] [])) (b := b) (lyA (lyZ hK)) (rI_at 405 0 rfl)) (lKA (lKZ (hk_K hK 405 rfl rfl))) rfl (by decide) rfl (Nat.le_of_ble_eq_true rfl) (by decide) (fun r u hu => ?_)
  refine z_eqs (σ' := (ap b (wx_Z σ z) [(405, 0, 1)] [] [])) hu.2 ?_
  show zx p l e _ s m _ below meth c g 8 _ _ _ _ 225 [(6, .int 0), (5, .int 1), (4, .int 0), (3, .ref (b + 431)), (2, .ref (b + 405)), (1, .ref (b + 0)), (0, .ref bS)] _
  refine z_seti (y := 1) hu.1 ?_
  refine z_iload B dL_law_225 1 rfl ?_
  refine z_icmp_eq (tgt := 232) B dL_law_227 (by decide) (fun _ => ?_) (fun h => absurd (by decide) h)
  refine z_iload B dL_law_232 1 rfl ?_
  refine z_if_ne (tgt := 249) B dL_law_234 (by decide) (fun _ => ?_) (fun h => absurd h (by decide))
  refine z_goto (tgt := 1395) B dL_law_249 (by decide) ?_
  exact z_widen (Nat.le_of_ble_eq_true rfl) (Nat.le_of_ble_eq_true rfl) (z_sub _ [2, 6] rfl (kk _))
set_option maxRecDepth 100000 in
set_option maxHeartbeats 4000000 in
theorem lf_0_73 {p : Program} {l : Launch} {e : Env} {s : State} {m : MethodId} {args : Array Value} {below : List Frame} {meth : Method} {c : Code} {g : gx_T} {Q : State → Prop} {σ : sx_T} {b t bS : Nat} {xs : Nat → Int32} (hlt : l.stackTraces = false) (B : zx_B p s m args meth c code RL 8 g) (hX : va_X bS 6 xs s s.heap) (hbl : bS < s.heap.size) (hbA : ¬ gx_b g ≤ bS) (hF : fz_P b t σ) (h_x1 : xs 1 = 3) {x2 : Int32} (h_x2 : xs 2 = x2) (q1_x2 : (-2147483648 : Int) ≤ x2.toInt) (q2_x2 : x2.toInt ≤ (-1 : Int)) {x3 : Int32} (h_x3 : xs 3 = x3) (q1_x3 : (0 : Int) ≤ x3.toInt) (q2_x3 : x3.toInt ≤ (17 : Int)) {x4 : Int32} (h_x4 : xs 4 = x4) (q1_x4 : (0 : Int) ≤ x4.toInt) (q2_x4 : x4.toInt ≤ (99 : Int)) {x5 : Int32} (h_x5 : xs 5 = x5) (q1_x5 : (0 : Int) ≤ x5.toInt) (q2_x5 : x5.toInt ≤ (99 : Int)) (kk : ∀ σ', zx p l e room_1 s m args below meth c g 8 600002 7302232 Q σ' 1395 [(4, .int 0), (0, .ref bS)] []) : zx p l e room_1 s m args below meth c g 8 500 100000 Q σ 148 [(4, .int 0), (3, .ref (b + 431)), (2, .ref (b + 405)), (1, .ref (b + 0)), (0, .ref bS)] [] := by
  have hK := fz_lay hF
  refine z_eqs (σ' := (ap b σ [] [] [])) rfl ?_
  refine z_aload_n B dL_law_148 rfl 3 rfl ?_
  refine z_aload_n B dL_law_149 rfl 4 rfl ?_
  refine z_iload B dL_law_150 0 rfl ?_
  refine z_iconst (v := 1) B dL_law_152 (by decide) ?_
  refine z_iadd B dL_law_153 ?_
  refine z_seti (y := 1) (by decide) ?_
  refine z_sld (j := 1) (x := 3) B hX hbl hbA (by decide) (show ¬ ((1 : Int32) < 0 ∨ 6 ≤ (1 : Int32).toNatClampNeg) by decide) h_x1 dL_law_154 ?_
  refine z_aload_n B dL_law_155 rfl 4 rfl ?_
  refine z_iload B dL_law_156 0 rfl ?_
  refine z_iconst (v := 2) B dL_law_158 (by decide) ?_
  refine z_iadd B dL_law_159 ?_
  refine z_seti (y := 2) (by decide) ?_
  refine z_sld (j := 2) (x := x2) B hX hbl hbA (by decide) (show ¬ ((2 : Int32) < 0 ∨ 6 ≤ (2 : Int32).toNatClampNeg) by decide) h_x2 dL_law_160 ?_
  refine z_aload_n B dL_law_161 rfl 4 rfl ?_
  refine z_iload B dL_law_162 0 rfl ?_
  refine z_iconst (v := 3) B dL_law_164 (by decide) ?_
  refine z_iadd B dL_law_165 ?_
  refine z_seti (y := 3) (by decide) ?_
  refine z_sld (j := 3) (x := x3) B hX hbl hbA (by decide) (show ¬ ((3 : Int32) < 0 ∨ 6 ≤ (3 : Int32).toNatClampNeg) by decide) h_x3 dL_law_166 ?_
  refine z_aload_n B dL_law_167 rfl 4 rfl ?_
  refine z_iload B dL_law_168 0 rfl ?_
  refine z_iconst (v := 4) B dL_law_170 (by decide) ?_
  refine z_iadd B dL_law_171 ?_
  refine z_seti (y := 4) (by decide) ?_
  refine z_sld (j := 4) (x := x4) B hX hbl hbA (by decide) (show ¬ ((4 : Int32) < 0 ∨ 6 ≤ (4 : Int32).toNatClampNeg) by decide) h_x4 dL_law_172 ?_
  refine z_aload_n B dL_law_173 rfl 4 rfl ?_
  refine z_iload B dL_law_174 0 rfl ?_
  refine z_iconst (v := 5) B dL_law_176 (by decide) ?_
  refine z_iadd B dL_law_177 ?_
  refine z_seti (y := 5) (by decide) ?_
  refine z_sld (j := 5) (x := x5) B hX hbl hbA (by decide) (show ¬ ((5 : Int32) < 0 ∨ 6 ≤ (5 : Int32).toNatClampNeg) by decide) h_x5 dL_law_178 ?_
  refine z_aload_n B dL_law_179 rfl 1 rfl ?_
  refine z_cSWi (As := [.ref (b + 0), .int 3, .int x2, .int x3, .int x4, .int x5, .ref (b + 431)]) (rest := []) B cw_L_74 dL_law_180 (ci_L_set_222 l hlt (σ := (ap b σ [] [] [])) (b := b) (lyA hK) x2 x3 x4 x5 q1_x2 q2_x2 (rR_at 0 0 (fz_R hF 0 0 rfl rfl)) (rR_at 1 3 (fz_R hF 1 3 rfl rfl))) rfl (by decide) rfl (Nat.le_of_ble_eq_true rfl) (by decide) (fun r u hu => ?_)
  obtain ⟨hu1, z, hu⟩ := hu
  refine z_eqs (σ' := (ap b (wx_Z σ z) [] [] [])) (hu.trans az_ap) ?_
  show zx p l e _ s m _ below meth c g 8 _ _ _ _ 183 [(4, .int 0), (3, .ref (b + 431)), (2, .ref (b + 405)), (1, .ref (b + 0)), (0, .ref bS)] _
  refine z_seti (y := 1) hu1 ?_
  refine z_istore (lv' := [(5, .int 1), (4, .int 0), (3, .ref (b + 431)), (2, .ref (b + 405)), (1, .ref (b + 0)), (0, .ref bS)]) B dL_law_183 (by decide) rfl ?_
  refine z_aload_n B dL_law_185 rfl 3 rfl ?_
  refine z_aload_n B dL_law_186 rfl 5 rfl ?_
  refine z_iload B dL_law_187 1 rfl ?_
  refine z_iconst (v := 1) B dL_law_189 (by decide) ?_
  refine z_iadd B dL_law_190 ?_
  refine z_seti (y := 1) (by decide) ?_
  refine z_sld (j := 1) (x := 3) B hX hbl hbA (by decide) (show ¬ ((1 : Int32) < 0 ∨ 6 ≤ (1 : Int32).toNatClampNeg) by decide) h_x1 dL_law_191 ?_
  refine z_aload_n B dL_law_192 rfl 5 rfl ?_
  refine z_iload B dL_law_193 1 rfl ?_
  refine z_iconst (v := 2) B dL_law_195 (by decide) ?_
  refine z_iadd B dL_law_196 ?_
  refine z_seti (y := 2) (by decide) ?_
  refine z_sld (j := 2) (x := x2) B hX hbl hbA (by decide) (show ¬ ((2 : Int32) < 0 ∨ 6 ≤ (2 : Int32).toNatClampNeg) by decide) h_x2 dL_law_197 ?_
  refine z_aload_n B dL_law_198 rfl 5 rfl ?_
  refine z_iload B dL_law_199 1 rfl ?_
  refine z_iconst (v := 3) B dL_law_201 (by decide) ?_
  refine z_iadd B dL_law_202 ?_
  refine z_seti (y := 3) (by decide) ?_
  refine z_sld (j := 3) (x := x3) B hX hbl hbA (by decide) (show ¬ ((3 : Int32) < 0 ∨ 6 ≤ (3 : Int32).toNatClampNeg) by decide) h_x3 dL_law_203 ?_
  refine z_aload_n B dL_law_204 rfl 5 rfl ?_
  refine z_iload B dL_law_205 1 rfl ?_
  refine z_iconst (v := 4) B dL_law_207 (by decide) ?_
  refine z_iadd B dL_law_208 ?_
  refine z_seti (y := 4) (by decide) ?_
  refine z_sld (j := 4) (x := x4) B hX hbl hbA (by decide) (show ¬ ((4 : Int32) < 0 ∨ 6 ≤ (4 : Int32).toNatClampNeg) by decide) h_x4 dL_law_209 ?_
  refine z_aload_n B dL_law_210 rfl 5 rfl ?_
  refine z_iload B dL_law_211 1 rfl ?_
  refine z_iconst (v := 5) B dL_law_213 (by decide) ?_
  refine z_iadd B dL_law_214 ?_
  refine z_seti (y := 5) (by decide) ?_
  refine z_sld (j := 5) (x := x5) B hX hbl hbA (by decide) (show ¬ ((5 : Int32) < 0 ∨ 6 ≤ (5 : Int32).toNatClampNeg) by decide) h_x5 dL_law_215 ?_
  refine z_cVi (As := [.int 3, .int x2, .int x3, .int x4, .int x5]) (rest := []) B cw_L_79 cx_10 dL_law_216 (ci_X9_set_228 l (σ := (ap b (wx_Z σ z) [] [] [])) (b := b) (lyA (lyZ hK)) x2 x3 x4 x5 q1_x2 q2_x2 q1_x3 q2_x3 q1_x4 q2_x4 q1_x5 q2_x5) (lKA (lKZ (hk_K hK 405 rfl rfl))) rfl (by decide) rfl (Nat.le_of_ble_eq_true rfl) (by decide) (fun r u hu => ?_)
  refine z_eqs (σ' := (ap b (wx_Z σ z) [(405, 0, 1)] [] [])) (hu.2.trans ap_ap) ?_
  show zx p l e _ s m _ below meth c g 8 _ _ _ _ 219 [(5, .int 1), (4, .int 0), (3, .ref (b + 431)), (2, .ref (b + 405)), (1, .ref (b + 0)), (0, .ref bS)] _
  refine z_seti (y := 0) hu.1 ?_
  refine z_istore (lv' := [(6, .int 0), (5, .int 1), (4, .int 0), (3, .ref (b + 431)), (2, .ref (b + 405)), (1, .ref (b + 0)), (0, .ref bS)]) B dL_law_219 (by decide) rfl ?_
  refine z_aload_n B dL_law_221 rfl 4 rfl ?_
  refine z_cVi (As := []) (rest := []) B cw_L_80 cx_10 dL_law_222 (ci_X9_thrown_31 l (σ := (ap b (wx_Z σ z) [(405, 0, 1)] [] [])) (b := b) (lyA (lyZ hK)) (rI_at 405 0 rfl)) (lKA (lKZ (hk_K hK 405 rfl rfl))) rfl (by decide) rfl (Nat.le_of_ble_eq_true rfl) (by decide) (fun r u hu => ?_)
  refine z_eqs (σ' := (ap b (wx_Z σ z) [(405, 0, 1)] [] [])) hu.2 ?_
  show zx p l e _ s m _ below meth c g 8 _ _ _ _ 225 [(6, .int 0), (5, .int 1), (4, .int 0), (3, .ref (b + 431)), (2, .ref (b + 405)), (1, .ref (b + 0)), (0, .ref bS)] _
  refine z_seti (y := 1) hu.1 ?_
  refine z_iload B dL_law_225 1 rfl ?_
  refine z_icmp_eq (tgt := 232) B dL_law_227 (by decide) (fun _ => ?_) (fun h => absurd (by decide) h)
  refine z_iload B dL_law_232 1 rfl ?_
  refine z_if_ne (tgt := 249) B dL_law_234 (by decide) (fun _ => ?_) (fun h => absurd h (by decide))
  refine z_goto (tgt := 1395) B dL_law_249 (by decide) ?_
  exact z_widen (Nat.le_of_ble_eq_true rfl) (Nat.le_of_ble_eq_true rfl) (z_sub _ [2, 6] rfl (kk _))
set_option maxRecDepth 100000 in
set_option maxHeartbeats 4000000 in
theorem lf_0_74 {p : Program} {l : Launch} {e : Env} {s : State} {m : MethodId} {args : Array Value} {below : List Frame} {meth : Method} {c : Code} {g : gx_T} {Q : State → Prop} {σ : sx_T} {b t bS : Nat} {xs : Nat → Int32} (hlt : l.stackTraces = false) (B : zx_B p s m args meth c code RL 8 g) (hX : va_X bS 6 xs s s.heap) (hbl : bS < s.heap.size) (hbA : ¬ gx_b g ≤ bS) (hF : fz_P b t σ) (h_x1 : xs 1 = 3) {x2 : Int32} (h_x2 : xs 2 = x2) (q1_x2 : (-2147483648 : Int) ≤ x2.toInt) (q2_x2 : x2.toInt ≤ (-1 : Int)) {x3 : Int32} (h_x3 : xs 3 = x3) (q1_x3 : (0 : Int) ≤ x3.toInt) (q2_x3 : x3.toInt ≤ (17 : Int)) {x4 : Int32} (h_x4 : xs 4 = x4) (q1_x4 : (0 : Int) ≤ x4.toInt) (q2_x4 : x4.toInt ≤ (99 : Int)) {x5 : Int32} (h_x5 : xs 5 = x5) (q1_x5 : (100 : Int) ≤ x5.toInt) (q2_x5 : x5.toInt ≤ (2147483647 : Int)) (kk : ∀ σ', zx p l e room_1 s m args below meth c g 8 600002 7302232 Q σ' 1395 [(4, .int 0), (0, .ref bS)] []) : zx p l e room_1 s m args below meth c g 8 500 100000 Q σ 148 [(4, .int 0), (3, .ref (b + 431)), (2, .ref (b + 405)), (1, .ref (b + 0)), (0, .ref bS)] [] := by
  have hK := fz_lay hF
  refine z_eqs (σ' := (ap b σ [] [] [])) rfl ?_
  refine z_aload_n B dL_law_148 rfl 3 rfl ?_
  refine z_aload_n B dL_law_149 rfl 4 rfl ?_
  refine z_iload B dL_law_150 0 rfl ?_
  refine z_iconst (v := 1) B dL_law_152 (by decide) ?_
  refine z_iadd B dL_law_153 ?_
  refine z_seti (y := 1) (by decide) ?_
  refine z_sld (j := 1) (x := 3) B hX hbl hbA (by decide) (show ¬ ((1 : Int32) < 0 ∨ 6 ≤ (1 : Int32).toNatClampNeg) by decide) h_x1 dL_law_154 ?_
  refine z_aload_n B dL_law_155 rfl 4 rfl ?_
  refine z_iload B dL_law_156 0 rfl ?_
  refine z_iconst (v := 2) B dL_law_158 (by decide) ?_
  refine z_iadd B dL_law_159 ?_
  refine z_seti (y := 2) (by decide) ?_
  refine z_sld (j := 2) (x := x2) B hX hbl hbA (by decide) (show ¬ ((2 : Int32) < 0 ∨ 6 ≤ (2 : Int32).toNatClampNeg) by decide) h_x2 dL_law_160 ?_
  refine z_aload_n B dL_law_161 rfl 4 rfl ?_
  refine z_iload B dL_law_162 0 rfl ?_
  refine z_iconst (v := 3) B dL_law_164 (by decide) ?_
  refine z_iadd B dL_law_165 ?_
  refine z_seti (y := 3) (by decide) ?_
  refine z_sld (j := 3) (x := x3) B hX hbl hbA (by decide) (show ¬ ((3 : Int32) < 0 ∨ 6 ≤ (3 : Int32).toNatClampNeg) by decide) h_x3 dL_law_166 ?_
  refine z_aload_n B dL_law_167 rfl 4 rfl ?_
  refine z_iload B dL_law_168 0 rfl ?_
  refine z_iconst (v := 4) B dL_law_170 (by decide) ?_
  refine z_iadd B dL_law_171 ?_
  refine z_seti (y := 4) (by decide) ?_
  refine z_sld (j := 4) (x := x4) B hX hbl hbA (by decide) (show ¬ ((4 : Int32) < 0 ∨ 6 ≤ (4 : Int32).toNatClampNeg) by decide) h_x4 dL_law_172 ?_
  refine z_aload_n B dL_law_173 rfl 4 rfl ?_
  refine z_iload B dL_law_174 0 rfl ?_
  refine z_iconst (v := 5) B dL_law_176 (by decide) ?_
  refine z_iadd B dL_law_177 ?_
  refine z_seti (y := 5) (by decide) ?_
  refine z_sld (j := 5) (x := x5) B hX hbl hbA (by decide) (show ¬ ((5 : Int32) < 0 ∨ 6 ≤ (5 : Int32).toNatClampNeg) by decide) h_x5 dL_law_178 ?_
  refine z_aload_n B dL_law_179 rfl 1 rfl ?_
  refine z_cSWi (As := [.ref (b + 0), .int 3, .int x2, .int x3, .int x4, .int x5, .ref (b + 431)]) (rest := []) B cw_L_74 dL_law_180 (ci_L_set_222 l hlt (σ := (ap b σ [] [] [])) (b := b) (lyA hK) x2 x3 x4 x5 q1_x2 q2_x2 (rR_at 0 0 (fz_R hF 0 0 rfl rfl)) (rR_at 1 3 (fz_R hF 1 3 rfl rfl))) rfl (by decide) rfl (Nat.le_of_ble_eq_true rfl) (by decide) (fun r u hu => ?_)
  obtain ⟨hu1, z, hu⟩ := hu
  refine z_eqs (σ' := (ap b (wx_Z σ z) [] [] [])) (hu.trans az_ap) ?_
  show zx p l e _ s m _ below meth c g 8 _ _ _ _ 183 [(4, .int 0), (3, .ref (b + 431)), (2, .ref (b + 405)), (1, .ref (b + 0)), (0, .ref bS)] _
  refine z_seti (y := 1) hu1 ?_
  refine z_istore (lv' := [(5, .int 1), (4, .int 0), (3, .ref (b + 431)), (2, .ref (b + 405)), (1, .ref (b + 0)), (0, .ref bS)]) B dL_law_183 (by decide) rfl ?_
  refine z_aload_n B dL_law_185 rfl 3 rfl ?_
  refine z_aload_n B dL_law_186 rfl 5 rfl ?_
  refine z_iload B dL_law_187 1 rfl ?_
  refine z_iconst (v := 1) B dL_law_189 (by decide) ?_
  refine z_iadd B dL_law_190 ?_
  refine z_seti (y := 1) (by decide) ?_
  refine z_sld (j := 1) (x := 3) B hX hbl hbA (by decide) (show ¬ ((1 : Int32) < 0 ∨ 6 ≤ (1 : Int32).toNatClampNeg) by decide) h_x1 dL_law_191 ?_
  refine z_aload_n B dL_law_192 rfl 5 rfl ?_
  refine z_iload B dL_law_193 1 rfl ?_
  refine z_iconst (v := 2) B dL_law_195 (by decide) ?_
  refine z_iadd B dL_law_196 ?_
  refine z_seti (y := 2) (by decide) ?_
  refine z_sld (j := 2) (x := x2) B hX hbl hbA (by decide) (show ¬ ((2 : Int32) < 0 ∨ 6 ≤ (2 : Int32).toNatClampNeg) by decide) h_x2 dL_law_197 ?_
  refine z_aload_n B dL_law_198 rfl 5 rfl ?_
  refine z_iload B dL_law_199 1 rfl ?_
  refine z_iconst (v := 3) B dL_law_201 (by decide) ?_
  refine z_iadd B dL_law_202 ?_
  refine z_seti (y := 3) (by decide) ?_
  refine z_sld (j := 3) (x := x3) B hX hbl hbA (by decide) (show ¬ ((3 : Int32) < 0 ∨ 6 ≤ (3 : Int32).toNatClampNeg) by decide) h_x3 dL_law_203 ?_
  refine z_aload_n B dL_law_204 rfl 5 rfl ?_
  refine z_iload B dL_law_205 1 rfl ?_
  refine z_iconst (v := 4) B dL_law_207 (by decide) ?_
  refine z_iadd B dL_law_208 ?_
  refine z_seti (y := 4) (by decide) ?_
  refine z_sld (j := 4) (x := x4) B hX hbl hbA (by decide) (show ¬ ((4 : Int32) < 0 ∨ 6 ≤ (4 : Int32).toNatClampNeg) by decide) h_x4 dL_law_209 ?_
  refine z_aload_n B dL_law_210 rfl 5 rfl ?_
  refine z_iload B dL_law_211 1 rfl ?_
  refine z_iconst (v := 5) B dL_law_213 (by decide) ?_
  refine z_iadd B dL_law_214 ?_
  refine z_seti (y := 5) (by decide) ?_
  refine z_sld (j := 5) (x := x5) B hX hbl hbA (by decide) (show ¬ ((5 : Int32) < 0 ∨ 6 ≤ (5 : Int32).toNatClampNeg) by decide) h_x5 dL_law_215 ?_
  refine z_cVi (As := [.int 3, .int x2, .int x3, .int x4, .int x5]) (rest := []) B cw_L_79 cx_10 dL_law_216 (ci_X9_set_229 l (σ := (ap b (wx_Z σ z) [] [] [])) (b := b) (lyA (lyZ hK)) x2 x3 x4 x5 q1_x2 q2_x2 q1_x3 q2_x3 q1_x4 q2_x4 q1_x5 q2_x5) (lKA (lKZ (hk_K hK 405 rfl rfl))) rfl (by decide) rfl (Nat.le_of_ble_eq_true rfl) (by decide) (fun r u hu => ?_)
  refine z_eqs (σ' := (ap b (wx_Z σ z) [(405, 0, 1)] [] [])) (hu.2.trans ap_ap) ?_
  show zx p l e _ s m _ below meth c g 8 _ _ _ _ 219 [(5, .int 1), (4, .int 0), (3, .ref (b + 431)), (2, .ref (b + 405)), (1, .ref (b + 0)), (0, .ref bS)] _
  refine z_seti (y := 0) hu.1 ?_
  refine z_istore (lv' := [(6, .int 0), (5, .int 1), (4, .int 0), (3, .ref (b + 431)), (2, .ref (b + 405)), (1, .ref (b + 0)), (0, .ref bS)]) B dL_law_219 (by decide) rfl ?_
  refine z_aload_n B dL_law_221 rfl 4 rfl ?_
  refine z_cVi (As := []) (rest := []) B cw_L_80 cx_10 dL_law_222 (ci_X9_thrown_31 l (σ := (ap b (wx_Z σ z) [(405, 0, 1)] [] [])) (b := b) (lyA (lyZ hK)) (rI_at 405 0 rfl)) (lKA (lKZ (hk_K hK 405 rfl rfl))) rfl (by decide) rfl (Nat.le_of_ble_eq_true rfl) (by decide) (fun r u hu => ?_)
  refine z_eqs (σ' := (ap b (wx_Z σ z) [(405, 0, 1)] [] [])) hu.2 ?_
  show zx p l e _ s m _ below meth c g 8 _ _ _ _ 225 [(6, .int 0), (5, .int 1), (4, .int 0), (3, .ref (b + 431)), (2, .ref (b + 405)), (1, .ref (b + 0)), (0, .ref bS)] _
  refine z_seti (y := 1) hu.1 ?_
  refine z_iload B dL_law_225 1 rfl ?_
  refine z_icmp_eq (tgt := 232) B dL_law_227 (by decide) (fun _ => ?_) (fun h => absurd (by decide) h)
  refine z_iload B dL_law_232 1 rfl ?_
  refine z_if_ne (tgt := 249) B dL_law_234 (by decide) (fun _ => ?_) (fun h => absurd h (by decide))
  refine z_goto (tgt := 1395) B dL_law_249 (by decide) ?_
  exact z_widen (Nat.le_of_ble_eq_true rfl) (Nat.le_of_ble_eq_true rfl) (z_sub _ [2, 6] rfl (kk _))
set_option maxRecDepth 100000 in
set_option maxHeartbeats 4000000 in
theorem lf_0_75 {p : Program} {l : Launch} {e : Env} {s : State} {m : MethodId} {args : Array Value} {below : List Frame} {meth : Method} {c : Code} {g : gx_T} {Q : State → Prop} {σ : sx_T} {b t bS : Nat} {xs : Nat → Int32} (hlt : l.stackTraces = false) (B : zx_B p s m args meth c code RL 8 g) (hX : va_X bS 6 xs s s.heap) (hbl : bS < s.heap.size) (hbA : ¬ gx_b g ≤ bS) (hF : fz_P b t σ) (h_x1 : xs 1 = 3) {x2 : Int32} (h_x2 : xs 2 = x2) (q1_x2 : (-2147483648 : Int) ≤ x2.toInt) (q2_x2 : x2.toInt ≤ (-1 : Int)) {x3 : Int32} (h_x3 : xs 3 = x3) (q1_x3 : (0 : Int) ≤ x3.toInt) (q2_x3 : x3.toInt ≤ (17 : Int)) {x4 : Int32} (h_x4 : xs 4 = x4) (q1_x4 : (100 : Int) ≤ x4.toInt) (q2_x4 : x4.toInt ≤ (2147483647 : Int)) {x5 : Int32} (h_x5 : xs 5 = x5) (q1_x5 : (-2147483648 : Int) ≤ x5.toInt) (q2_x5 : x5.toInt ≤ (2147483647 : Int)) (kk : ∀ σ', zx p l e room_1 s m args below meth c g 8 600002 7302232 Q σ' 1395 [(4, .int 0), (0, .ref bS)] []) : zx p l e room_1 s m args below meth c g 8 500 100000 Q σ 148 [(4, .int 0), (3, .ref (b + 431)), (2, .ref (b + 405)), (1, .ref (b + 0)), (0, .ref bS)] [] := by
  have hK := fz_lay hF
  refine z_eqs (σ' := (ap b σ [] [] [])) rfl ?_
  refine z_aload_n B dL_law_148 rfl 3 rfl ?_
  refine z_aload_n B dL_law_149 rfl 4 rfl ?_
  refine z_iload B dL_law_150 0 rfl ?_
  refine z_iconst (v := 1) B dL_law_152 (by decide) ?_
  refine z_iadd B dL_law_153 ?_
  refine z_seti (y := 1) (by decide) ?_
  refine z_sld (j := 1) (x := 3) B hX hbl hbA (by decide) (show ¬ ((1 : Int32) < 0 ∨ 6 ≤ (1 : Int32).toNatClampNeg) by decide) h_x1 dL_law_154 ?_
  refine z_aload_n B dL_law_155 rfl 4 rfl ?_
  refine z_iload B dL_law_156 0 rfl ?_
  refine z_iconst (v := 2) B dL_law_158 (by decide) ?_
  refine z_iadd B dL_law_159 ?_
  refine z_seti (y := 2) (by decide) ?_
  refine z_sld (j := 2) (x := x2) B hX hbl hbA (by decide) (show ¬ ((2 : Int32) < 0 ∨ 6 ≤ (2 : Int32).toNatClampNeg) by decide) h_x2 dL_law_160 ?_
  refine z_aload_n B dL_law_161 rfl 4 rfl ?_
  refine z_iload B dL_law_162 0 rfl ?_
  refine z_iconst (v := 3) B dL_law_164 (by decide) ?_
  refine z_iadd B dL_law_165 ?_
  refine z_seti (y := 3) (by decide) ?_
  refine z_sld (j := 3) (x := x3) B hX hbl hbA (by decide) (show ¬ ((3 : Int32) < 0 ∨ 6 ≤ (3 : Int32).toNatClampNeg) by decide) h_x3 dL_law_166 ?_
  refine z_aload_n B dL_law_167 rfl 4 rfl ?_
  refine z_iload B dL_law_168 0 rfl ?_
  refine z_iconst (v := 4) B dL_law_170 (by decide) ?_
  refine z_iadd B dL_law_171 ?_
  refine z_seti (y := 4) (by decide) ?_
  refine z_sld (j := 4) (x := x4) B hX hbl hbA (by decide) (show ¬ ((4 : Int32) < 0 ∨ 6 ≤ (4 : Int32).toNatClampNeg) by decide) h_x4 dL_law_172 ?_
  refine z_aload_n B dL_law_173 rfl 4 rfl ?_
  refine z_iload B dL_law_174 0 rfl ?_
  refine z_iconst (v := 5) B dL_law_176 (by decide) ?_
  refine z_iadd B dL_law_177 ?_
  refine z_seti (y := 5) (by decide) ?_
  refine z_sld (j := 5) (x := x5) B hX hbl hbA (by decide) (show ¬ ((5 : Int32) < 0 ∨ 6 ≤ (5 : Int32).toNatClampNeg) by decide) h_x5 dL_law_178 ?_
  refine z_aload_n B dL_law_179 rfl 1 rfl ?_
  refine z_cSWi (As := [.ref (b + 0), .int 3, .int x2, .int x3, .int x4, .int x5, .ref (b + 431)]) (rest := []) B cw_L_74 dL_law_180 (ci_L_set_222 l hlt (σ := (ap b σ [] [] [])) (b := b) (lyA hK) x2 x3 x4 x5 q1_x2 q2_x2 (rR_at 0 0 (fz_R hF 0 0 rfl rfl)) (rR_at 1 3 (fz_R hF 1 3 rfl rfl))) rfl (by decide) rfl (Nat.le_of_ble_eq_true rfl) (by decide) (fun r u hu => ?_)
  obtain ⟨hu1, z, hu⟩ := hu
  refine z_eqs (σ' := (ap b (wx_Z σ z) [] [] [])) (hu.trans az_ap) ?_
  show zx p l e _ s m _ below meth c g 8 _ _ _ _ 183 [(4, .int 0), (3, .ref (b + 431)), (2, .ref (b + 405)), (1, .ref (b + 0)), (0, .ref bS)] _
  refine z_seti (y := 1) hu1 ?_
  refine z_istore (lv' := [(5, .int 1), (4, .int 0), (3, .ref (b + 431)), (2, .ref (b + 405)), (1, .ref (b + 0)), (0, .ref bS)]) B dL_law_183 (by decide) rfl ?_
  refine z_aload_n B dL_law_185 rfl 3 rfl ?_
  refine z_aload_n B dL_law_186 rfl 5 rfl ?_
  refine z_iload B dL_law_187 1 rfl ?_
  refine z_iconst (v := 1) B dL_law_189 (by decide) ?_
  refine z_iadd B dL_law_190 ?_
  refine z_seti (y := 1) (by decide) ?_
  refine z_sld (j := 1) (x := 3) B hX hbl hbA (by decide) (show ¬ ((1 : Int32) < 0 ∨ 6 ≤ (1 : Int32).toNatClampNeg) by decide) h_x1 dL_law_191 ?_
  refine z_aload_n B dL_law_192 rfl 5 rfl ?_
  refine z_iload B dL_law_193 1 rfl ?_
  refine z_iconst (v := 2) B dL_law_195 (by decide) ?_
  refine z_iadd B dL_law_196 ?_
  refine z_seti (y := 2) (by decide) ?_
  refine z_sld (j := 2) (x := x2) B hX hbl hbA (by decide) (show ¬ ((2 : Int32) < 0 ∨ 6 ≤ (2 : Int32).toNatClampNeg) by decide) h_x2 dL_law_197 ?_
  refine z_aload_n B dL_law_198 rfl 5 rfl ?_
  refine z_iload B dL_law_199 1 rfl ?_
  refine z_iconst (v := 3) B dL_law_201 (by decide) ?_
  refine z_iadd B dL_law_202 ?_
  refine z_seti (y := 3) (by decide) ?_
  refine z_sld (j := 3) (x := x3) B hX hbl hbA (by decide) (show ¬ ((3 : Int32) < 0 ∨ 6 ≤ (3 : Int32).toNatClampNeg) by decide) h_x3 dL_law_203 ?_
  refine z_aload_n B dL_law_204 rfl 5 rfl ?_
  refine z_iload B dL_law_205 1 rfl ?_
  refine z_iconst (v := 4) B dL_law_207 (by decide) ?_
  refine z_iadd B dL_law_208 ?_
  refine z_seti (y := 4) (by decide) ?_
  refine z_sld (j := 4) (x := x4) B hX hbl hbA (by decide) (show ¬ ((4 : Int32) < 0 ∨ 6 ≤ (4 : Int32).toNatClampNeg) by decide) h_x4 dL_law_209 ?_
  refine z_aload_n B dL_law_210 rfl 5 rfl ?_
  refine z_iload B dL_law_211 1 rfl ?_
  refine z_iconst (v := 5) B dL_law_213 (by decide) ?_
  refine z_iadd B dL_law_214 ?_
  refine z_seti (y := 5) (by decide) ?_
  refine z_sld (j := 5) (x := x5) B hX hbl hbA (by decide) (show ¬ ((5 : Int32) < 0 ∨ 6 ≤ (5 : Int32).toNatClampNeg) by decide) h_x5 dL_law_215 ?_
  refine z_cVi (As := [.int 3, .int x2, .int x3, .int x4, .int x5]) (rest := []) B cw_L_79 cx_10 dL_law_216 (ci_X9_set_230 l (σ := (ap b (wx_Z σ z) [] [] [])) (b := b) (lyA (lyZ hK)) x2 x3 x4 x5 q1_x2 q2_x2 q1_x3 q2_x3 q1_x4 q2_x4) (lKA (lKZ (hk_K hK 405 rfl rfl))) rfl (by decide) rfl (Nat.le_of_ble_eq_true rfl) (by decide) (fun r u hu => ?_)
  refine z_eqs (σ' := (ap b (wx_Z σ z) [(405, 0, 1)] [] [])) (hu.2.trans ap_ap) ?_
  show zx p l e _ s m _ below meth c g 8 _ _ _ _ 219 [(5, .int 1), (4, .int 0), (3, .ref (b + 431)), (2, .ref (b + 405)), (1, .ref (b + 0)), (0, .ref bS)] _
  refine z_seti (y := 0) hu.1 ?_
  refine z_istore (lv' := [(6, .int 0), (5, .int 1), (4, .int 0), (3, .ref (b + 431)), (2, .ref (b + 405)), (1, .ref (b + 0)), (0, .ref bS)]) B dL_law_219 (by decide) rfl ?_
  refine z_aload_n B dL_law_221 rfl 4 rfl ?_
  refine z_cVi (As := []) (rest := []) B cw_L_80 cx_10 dL_law_222 (ci_X9_thrown_31 l (σ := (ap b (wx_Z σ z) [(405, 0, 1)] [] [])) (b := b) (lyA (lyZ hK)) (rI_at 405 0 rfl)) (lKA (lKZ (hk_K hK 405 rfl rfl))) rfl (by decide) rfl (Nat.le_of_ble_eq_true rfl) (by decide) (fun r u hu => ?_)
  refine z_eqs (σ' := (ap b (wx_Z σ z) [(405, 0, 1)] [] [])) hu.2 ?_
  show zx p l e _ s m _ below meth c g 8 _ _ _ _ 225 [(6, .int 0), (5, .int 1), (4, .int 0), (3, .ref (b + 431)), (2, .ref (b + 405)), (1, .ref (b + 0)), (0, .ref bS)] _
  refine z_seti (y := 1) hu.1 ?_
  refine z_iload B dL_law_225 1 rfl ?_
  refine z_icmp_eq (tgt := 232) B dL_law_227 (by decide) (fun _ => ?_) (fun h => absurd (by decide) h)
  refine z_iload B dL_law_232 1 rfl ?_
  refine z_if_ne (tgt := 249) B dL_law_234 (by decide) (fun _ => ?_) (fun h => absurd h (by decide))
  refine z_goto (tgt := 1395) B dL_law_249 (by decide) ?_
  exact z_widen (Nat.le_of_ble_eq_true rfl) (Nat.le_of_ble_eq_true rfl) (z_sub _ [2, 6] rfl (kk _))
set_option maxRecDepth 100000 in
set_option maxHeartbeats 4000000 in
theorem lf_0_76 {p : Program} {l : Launch} {e : Env} {s : State} {m : MethodId} {args : Array Value} {below : List Frame} {meth : Method} {c : Code} {g : gx_T} {Q : State → Prop} {σ : sx_T} {b t bS : Nat} {xs : Nat → Int32} (hlt : l.stackTraces = false) (B : zx_B p s m args meth c code RL 8 g) (hX : va_X bS 6 xs s s.heap) (hbl : bS < s.heap.size) (hbA : ¬ gx_b g ≤ bS) (hF : fz_P b t σ) (h_x1 : xs 1 = 3) {x2 : Int32} (h_x2 : xs 2 = x2) (q1_x2 : (-2147483648 : Int) ≤ x2.toInt) (q2_x2 : x2.toInt ≤ (-1 : Int)) {x3 : Int32} (h_x3 : xs 3 = x3) (q1_x3 : (18 : Int) ≤ x3.toInt) (q2_x3 : x3.toInt ≤ (2147483647 : Int)) {x4 : Int32} (h_x4 : xs 4 = x4) (q1_x4 : (-2147483648 : Int) ≤ x4.toInt) (q2_x4 : x4.toInt ≤ (2147483647 : Int)) {x5 : Int32} (h_x5 : xs 5 = x5) (q1_x5 : (-2147483648 : Int) ≤ x5.toInt) (q2_x5 : x5.toInt ≤ (2147483647 : Int)) (kk : ∀ σ', zx p l e room_1 s m args below meth c g 8 600002 7302232 Q σ' 1395 [(4, .int 0), (0, .ref bS)] []) : zx p l e room_1 s m args below meth c g 8 500 100000 Q σ 148 [(4, .int 0), (3, .ref (b + 431)), (2, .ref (b + 405)), (1, .ref (b + 0)), (0, .ref bS)] [] := by
  have hK := fz_lay hF
  refine z_eqs (σ' := (ap b σ [] [] [])) rfl ?_
  refine z_aload_n B dL_law_148 rfl 3 rfl ?_
  refine z_aload_n B dL_law_149 rfl 4 rfl ?_
  refine z_iload B dL_law_150 0 rfl ?_
  refine z_iconst (v := 1) B dL_law_152 (by decide) ?_
  refine z_iadd B dL_law_153 ?_
  refine z_seti (y := 1) (by decide) ?_
  refine z_sld (j := 1) (x := 3) B hX hbl hbA (by decide) (show ¬ ((1 : Int32) < 0 ∨ 6 ≤ (1 : Int32).toNatClampNeg) by decide) h_x1 dL_law_154 ?_
  refine z_aload_n B dL_law_155 rfl 4 rfl ?_
  refine z_iload B dL_law_156 0 rfl ?_
  refine z_iconst (v := 2) B dL_law_158 (by decide) ?_
  refine z_iadd B dL_law_159 ?_
  refine z_seti (y := 2) (by decide) ?_
  refine z_sld (j := 2) (x := x2) B hX hbl hbA (by decide) (show ¬ ((2 : Int32) < 0 ∨ 6 ≤ (2 : Int32).toNatClampNeg) by decide) h_x2 dL_law_160 ?_
  refine z_aload_n B dL_law_161 rfl 4 rfl ?_
  refine z_iload B dL_law_162 0 rfl ?_
  refine z_iconst (v := 3) B dL_law_164 (by decide) ?_
  refine z_iadd B dL_law_165 ?_
  refine z_seti (y := 3) (by decide) ?_
  refine z_sld (j := 3) (x := x3) B hX hbl hbA (by decide) (show ¬ ((3 : Int32) < 0 ∨ 6 ≤ (3 : Int32).toNatClampNeg) by decide) h_x3 dL_law_166 ?_
  refine z_aload_n B dL_law_167 rfl 4 rfl ?_
  refine z_iload B dL_law_168 0 rfl ?_
  refine z_iconst (v := 4) B dL_law_170 (by decide) ?_
  refine z_iadd B dL_law_171 ?_
  refine z_seti (y := 4) (by decide) ?_
  refine z_sld (j := 4) (x := x4) B hX hbl hbA (by decide) (show ¬ ((4 : Int32) < 0 ∨ 6 ≤ (4 : Int32).toNatClampNeg) by decide) h_x4 dL_law_172 ?_
  refine z_aload_n B dL_law_173 rfl 4 rfl ?_
  refine z_iload B dL_law_174 0 rfl ?_
  refine z_iconst (v := 5) B dL_law_176 (by decide) ?_
  refine z_iadd B dL_law_177 ?_
  refine z_seti (y := 5) (by decide) ?_
  refine z_sld (j := 5) (x := x5) B hX hbl hbA (by decide) (show ¬ ((5 : Int32) < 0 ∨ 6 ≤ (5 : Int32).toNatClampNeg) by decide) h_x5 dL_law_178 ?_
  refine z_aload_n B dL_law_179 rfl 1 rfl ?_
  refine z_cSWi (As := [.ref (b + 0), .int 3, .int x2, .int x3, .int x4, .int x5, .ref (b + 431)]) (rest := []) B cw_L_74 dL_law_180 (ci_L_set_222 l hlt (σ := (ap b σ [] [] [])) (b := b) (lyA hK) x2 x3 x4 x5 q1_x2 q2_x2 (rR_at 0 0 (fz_R hF 0 0 rfl rfl)) (rR_at 1 3 (fz_R hF 1 3 rfl rfl))) rfl (by decide) rfl (Nat.le_of_ble_eq_true rfl) (by decide) (fun r u hu => ?_)
  obtain ⟨hu1, z, hu⟩ := hu
  refine z_eqs (σ' := (ap b (wx_Z σ z) [] [] [])) (hu.trans az_ap) ?_
  show zx p l e _ s m _ below meth c g 8 _ _ _ _ 183 [(4, .int 0), (3, .ref (b + 431)), (2, .ref (b + 405)), (1, .ref (b + 0)), (0, .ref bS)] _
  refine z_seti (y := 1) hu1 ?_
  refine z_istore (lv' := [(5, .int 1), (4, .int 0), (3, .ref (b + 431)), (2, .ref (b + 405)), (1, .ref (b + 0)), (0, .ref bS)]) B dL_law_183 (by decide) rfl ?_
  refine z_aload_n B dL_law_185 rfl 3 rfl ?_
  refine z_aload_n B dL_law_186 rfl 5 rfl ?_
  refine z_iload B dL_law_187 1 rfl ?_
  refine z_iconst (v := 1) B dL_law_189 (by decide) ?_
  refine z_iadd B dL_law_190 ?_
  refine z_seti (y := 1) (by decide) ?_
  refine z_sld (j := 1) (x := 3) B hX hbl hbA (by decide) (show ¬ ((1 : Int32) < 0 ∨ 6 ≤ (1 : Int32).toNatClampNeg) by decide) h_x1 dL_law_191 ?_
  refine z_aload_n B dL_law_192 rfl 5 rfl ?_
  refine z_iload B dL_law_193 1 rfl ?_
  refine z_iconst (v := 2) B dL_law_195 (by decide) ?_
  refine z_iadd B dL_law_196 ?_
  refine z_seti (y := 2) (by decide) ?_
  refine z_sld (j := 2) (x := x2) B hX hbl hbA (by decide) (show ¬ ((2 : Int32) < 0 ∨ 6 ≤ (2 : Int32).toNatClampNeg) by decide) h_x2 dL_law_197 ?_
  refine z_aload_n B dL_law_198 rfl 5 rfl ?_
  refine z_iload B dL_law_199 1 rfl ?_
  refine z_iconst (v := 3) B dL_law_201 (by decide) ?_
  refine z_iadd B dL_law_202 ?_
  refine z_seti (y := 3) (by decide) ?_
  refine z_sld (j := 3) (x := x3) B hX hbl hbA (by decide) (show ¬ ((3 : Int32) < 0 ∨ 6 ≤ (3 : Int32).toNatClampNeg) by decide) h_x3 dL_law_203 ?_
  refine z_aload_n B dL_law_204 rfl 5 rfl ?_
  refine z_iload B dL_law_205 1 rfl ?_
  refine z_iconst (v := 4) B dL_law_207 (by decide) ?_
  refine z_iadd B dL_law_208 ?_
  refine z_seti (y := 4) (by decide) ?_
  refine z_sld (j := 4) (x := x4) B hX hbl hbA (by decide) (show ¬ ((4 : Int32) < 0 ∨ 6 ≤ (4 : Int32).toNatClampNeg) by decide) h_x4 dL_law_209 ?_
  refine z_aload_n B dL_law_210 rfl 5 rfl ?_
  refine z_iload B dL_law_211 1 rfl ?_
  refine z_iconst (v := 5) B dL_law_213 (by decide) ?_
  refine z_iadd B dL_law_214 ?_
  refine z_seti (y := 5) (by decide) ?_
  refine z_sld (j := 5) (x := x5) B hX hbl hbA (by decide) (show ¬ ((5 : Int32) < 0 ∨ 6 ≤ (5 : Int32).toNatClampNeg) by decide) h_x5 dL_law_215 ?_
  refine z_cVi (As := [.int 3, .int x2, .int x3, .int x4, .int x5]) (rest := []) B cw_L_79 cx_10 dL_law_216 (ci_X9_set_231 l (σ := (ap b (wx_Z σ z) [] [] [])) (b := b) (lyA (lyZ hK)) x2 x3 x4 x5 q1_x2 q2_x2 q1_x3 q2_x3) (lKA (lKZ (hk_K hK 405 rfl rfl))) rfl (by decide) rfl (Nat.le_of_ble_eq_true rfl) (by decide) (fun r u hu => ?_)
  refine z_eqs (σ' := (ap b (wx_Z σ z) [(405, 0, 1)] [] [])) (hu.2.trans ap_ap) ?_
  show zx p l e _ s m _ below meth c g 8 _ _ _ _ 219 [(5, .int 1), (4, .int 0), (3, .ref (b + 431)), (2, .ref (b + 405)), (1, .ref (b + 0)), (0, .ref bS)] _
  refine z_seti (y := 0) hu.1 ?_
  refine z_istore (lv' := [(6, .int 0), (5, .int 1), (4, .int 0), (3, .ref (b + 431)), (2, .ref (b + 405)), (1, .ref (b + 0)), (0, .ref bS)]) B dL_law_219 (by decide) rfl ?_
  refine z_aload_n B dL_law_221 rfl 4 rfl ?_
  refine z_cVi (As := []) (rest := []) B cw_L_80 cx_10 dL_law_222 (ci_X9_thrown_31 l (σ := (ap b (wx_Z σ z) [(405, 0, 1)] [] [])) (b := b) (lyA (lyZ hK)) (rI_at 405 0 rfl)) (lKA (lKZ (hk_K hK 405 rfl rfl))) rfl (by decide) rfl (Nat.le_of_ble_eq_true rfl) (by decide) (fun r u hu => ?_)
  refine z_eqs (σ' := (ap b (wx_Z σ z) [(405, 0, 1)] [] [])) hu.2 ?_
  show zx p l e _ s m _ below meth c g 8 _ _ _ _ 225 [(6, .int 0), (5, .int 1), (4, .int 0), (3, .ref (b + 431)), (2, .ref (b + 405)), (1, .ref (b + 0)), (0, .ref bS)] _
  refine z_seti (y := 1) hu.1 ?_
  refine z_iload B dL_law_225 1 rfl ?_
  refine z_icmp_eq (tgt := 232) B dL_law_227 (by decide) (fun _ => ?_) (fun h => absurd (by decide) h)
  refine z_iload B dL_law_232 1 rfl ?_
  refine z_if_ne (tgt := 249) B dL_law_234 (by decide) (fun _ => ?_) (fun h => absurd h (by decide))
  refine z_goto (tgt := 1395) B dL_law_249 (by decide) ?_
  exact z_widen (Nat.le_of_ble_eq_true rfl) (Nat.le_of_ble_eq_true rfl) (z_sub _ [2, 6] rfl (kk _))
set_option maxRecDepth 100000 in
set_option maxHeartbeats 4000000 in
theorem lf_0_77 {p : Program} {l : Launch} {e : Env} {s : State} {m : MethodId} {args : Array Value} {below : List Frame} {meth : Method} {c : Code} {g : gx_T} {Q : State → Prop} {σ : sx_T} {b t bS : Nat} {xs : Nat → Int32} (hlt : l.stackTraces = false) (B : zx_B p s m args meth c code RL 8 g) (hX : va_X bS 6 xs s s.heap) (hbl : bS < s.heap.size) (hbA : ¬ gx_b g ≤ bS) (hF : fz_P b t σ) (h_x1 : xs 1 = 3) {x2 : Int32} (h_x2 : xs 2 = x2) (q1_x2 : (0 : Int) ≤ x2.toInt) (q2_x2 : x2.toInt ≤ (19 : Int)) {x3 : Int32} (h_x3 : xs 3 = x3) (q1_x3 : (-2147483648 : Int) ≤ x3.toInt) (q2_x3 : x3.toInt ≤ (-1 : Int)) {x4 : Int32} (h_x4 : xs 4 = x4) (q1_x4 : (-2147483648 : Int) ≤ x4.toInt) (q2_x4 : x4.toInt ≤ (2147483647 : Int)) {x5 : Int32} (h_x5 : xs 5 = x5) (q1_x5 : (-2147483648 : Int) ≤ x5.toInt) (q2_x5 : x5.toInt ≤ (2147483647 : Int)) (kk : ∀ σ', zx p l e room_1 s m args below meth c g 8 600002 7302232 Q σ' 1395 [(4, .int 0), (0, .ref bS)] []) : zx p l e room_1 s m args below meth c g 8 500 100000 Q σ 148 [(4, .int 0), (3, .ref (b + 431)), (2, .ref (b + 405)), (1, .ref (b + 0)), (0, .ref bS)] [] := by
  have hK := fz_lay hF
  refine z_eqs (σ' := (ap b σ [] [] [])) rfl ?_
  refine z_aload_n B dL_law_148 rfl 3 rfl ?_
  refine z_aload_n B dL_law_149 rfl 4 rfl ?_
  refine z_iload B dL_law_150 0 rfl ?_
  refine z_iconst (v := 1) B dL_law_152 (by decide) ?_
  refine z_iadd B dL_law_153 ?_
  refine z_seti (y := 1) (by decide) ?_
  refine z_sld (j := 1) (x := 3) B hX hbl hbA (by decide) (show ¬ ((1 : Int32) < 0 ∨ 6 ≤ (1 : Int32).toNatClampNeg) by decide) h_x1 dL_law_154 ?_
  refine z_aload_n B dL_law_155 rfl 4 rfl ?_
  refine z_iload B dL_law_156 0 rfl ?_
  refine z_iconst (v := 2) B dL_law_158 (by decide) ?_
  refine z_iadd B dL_law_159 ?_
  refine z_seti (y := 2) (by decide) ?_
  refine z_sld (j := 2) (x := x2) B hX hbl hbA (by decide) (show ¬ ((2 : Int32) < 0 ∨ 6 ≤ (2 : Int32).toNatClampNeg) by decide) h_x2 dL_law_160 ?_
  refine z_aload_n B dL_law_161 rfl 4 rfl ?_
  refine z_iload B dL_law_162 0 rfl ?_
  refine z_iconst (v := 3) B dL_law_164 (by decide) ?_
  refine z_iadd B dL_law_165 ?_
  refine z_seti (y := 3) (by decide) ?_
  refine z_sld (j := 3) (x := x3) B hX hbl hbA (by decide) (show ¬ ((3 : Int32) < 0 ∨ 6 ≤ (3 : Int32).toNatClampNeg) by decide) h_x3 dL_law_166 ?_
  refine z_aload_n B dL_law_167 rfl 4 rfl ?_
  refine z_iload B dL_law_168 0 rfl ?_
  refine z_iconst (v := 4) B dL_law_170 (by decide) ?_
  refine z_iadd B dL_law_171 ?_
  refine z_seti (y := 4) (by decide) ?_
  refine z_sld (j := 4) (x := x4) B hX hbl hbA (by decide) (show ¬ ((4 : Int32) < 0 ∨ 6 ≤ (4 : Int32).toNatClampNeg) by decide) h_x4 dL_law_172 ?_
  refine z_aload_n B dL_law_173 rfl 4 rfl ?_
  refine z_iload B dL_law_174 0 rfl ?_
  refine z_iconst (v := 5) B dL_law_176 (by decide) ?_
  refine z_iadd B dL_law_177 ?_
  refine z_seti (y := 5) (by decide) ?_
  refine z_sld (j := 5) (x := x5) B hX hbl hbA (by decide) (show ¬ ((5 : Int32) < 0 ∨ 6 ≤ (5 : Int32).toNatClampNeg) by decide) h_x5 dL_law_178 ?_
  refine z_aload_n B dL_law_179 rfl 1 rfl ?_
  refine z_cSWi (As := [.ref (b + 0), .int 3, .int x2, .int x3, .int x4, .int x5, .ref (b + 431)]) (rest := []) B cw_L_74 dL_law_180 (ci_L_set_233 l hlt (σ := (ap b σ [] [] [])) (b := b) (lyA hK) x2 x3 x4 x5 q1_x2 q2_x2 q1_x3 q2_x3 (rR_at 0 0 (fz_R hF 0 0 rfl rfl)) (rR_at 1 3 (fz_R hF 1 3 rfl rfl))) rfl (by decide) rfl (Nat.le_of_ble_eq_true rfl) (by decide) (fun r u hu => ?_)
  obtain ⟨hu1, z, hu⟩ := hu
  refine z_eqs (σ' := (ap b (wx_Z σ z) [] [] [])) (hu.trans az_ap) ?_
  show zx p l e _ s m _ below meth c g 8 _ _ _ _ 183 [(4, .int 0), (3, .ref (b + 431)), (2, .ref (b + 405)), (1, .ref (b + 0)), (0, .ref bS)] _
  refine z_seti (y := 2) hu1 ?_
  refine z_istore (lv' := [(5, .int 2), (4, .int 0), (3, .ref (b + 431)), (2, .ref (b + 405)), (1, .ref (b + 0)), (0, .ref bS)]) B dL_law_183 (by decide) rfl ?_
  refine z_aload_n B dL_law_185 rfl 3 rfl ?_
  refine z_aload_n B dL_law_186 rfl 5 rfl ?_
  refine z_iload B dL_law_187 1 rfl ?_
  refine z_iconst (v := 1) B dL_law_189 (by decide) ?_
  refine z_iadd B dL_law_190 ?_
  refine z_seti (y := 1) (by decide) ?_
  refine z_sld (j := 1) (x := 3) B hX hbl hbA (by decide) (show ¬ ((1 : Int32) < 0 ∨ 6 ≤ (1 : Int32).toNatClampNeg) by decide) h_x1 dL_law_191 ?_
  refine z_aload_n B dL_law_192 rfl 5 rfl ?_
  refine z_iload B dL_law_193 1 rfl ?_
  refine z_iconst (v := 2) B dL_law_195 (by decide) ?_
  refine z_iadd B dL_law_196 ?_
  refine z_seti (y := 2) (by decide) ?_
  refine z_sld (j := 2) (x := x2) B hX hbl hbA (by decide) (show ¬ ((2 : Int32) < 0 ∨ 6 ≤ (2 : Int32).toNatClampNeg) by decide) h_x2 dL_law_197 ?_
  refine z_aload_n B dL_law_198 rfl 5 rfl ?_
  refine z_iload B dL_law_199 1 rfl ?_
  refine z_iconst (v := 3) B dL_law_201 (by decide) ?_
  refine z_iadd B dL_law_202 ?_
  refine z_seti (y := 3) (by decide) ?_
  refine z_sld (j := 3) (x := x3) B hX hbl hbA (by decide) (show ¬ ((3 : Int32) < 0 ∨ 6 ≤ (3 : Int32).toNatClampNeg) by decide) h_x3 dL_law_203 ?_
  refine z_aload_n B dL_law_204 rfl 5 rfl ?_
  refine z_iload B dL_law_205 1 rfl ?_
  refine z_iconst (v := 4) B dL_law_207 (by decide) ?_
  refine z_iadd B dL_law_208 ?_
  refine z_seti (y := 4) (by decide) ?_
  refine z_sld (j := 4) (x := x4) B hX hbl hbA (by decide) (show ¬ ((4 : Int32) < 0 ∨ 6 ≤ (4 : Int32).toNatClampNeg) by decide) h_x4 dL_law_209 ?_
  refine z_aload_n B dL_law_210 rfl 5 rfl ?_
  refine z_iload B dL_law_211 1 rfl ?_
  refine z_iconst (v := 5) B dL_law_213 (by decide) ?_
  refine z_iadd B dL_law_214 ?_
  refine z_seti (y := 5) (by decide) ?_
  refine z_sld (j := 5) (x := x5) B hX hbl hbA (by decide) (show ¬ ((5 : Int32) < 0 ∨ 6 ≤ (5 : Int32).toNatClampNeg) by decide) h_x5 dL_law_215 ?_
  refine z_cVi (As := [.int 3, .int x2, .int x3, .int x4, .int x5]) (rest := []) B cw_L_79 cx_10 dL_law_216 (ci_X9_set_235 l (σ := (ap b (wx_Z σ z) [] [] [])) (b := b) (lyA (lyZ hK)) x2 x3 x4 x5 q1_x2 q2_x2 q1_x3 q2_x3) (lKA (lKZ (hk_K hK 405 rfl rfl))) rfl (by decide) rfl (Nat.le_of_ble_eq_true rfl) (by decide) (fun r u hu => ?_)
  refine z_eqs (σ' := (ap b (wx_Z σ z) [(405, 0, 2)] [] [])) (hu.2.trans ap_ap) ?_
  show zx p l e _ s m _ below meth c g 8 _ _ _ _ 219 [(5, .int 2), (4, .int 0), (3, .ref (b + 431)), (2, .ref (b + 405)), (1, .ref (b + 0)), (0, .ref bS)] _
  refine z_seti (y := 0) hu.1 ?_
  refine z_istore (lv' := [(6, .int 0), (5, .int 2), (4, .int 0), (3, .ref (b + 431)), (2, .ref (b + 405)), (1, .ref (b + 0)), (0, .ref bS)]) B dL_law_219 (by decide) rfl ?_
  refine z_aload_n B dL_law_221 rfl 4 rfl ?_
  refine z_cVi (As := []) (rest := []) B cw_L_80 cx_10 dL_law_222 (ci_X9_thrown_73 l (σ := (ap b (wx_Z σ z) [(405, 0, 2)] [] [])) (b := b) (lyA (lyZ hK)) (rI_at 405 0 rfl)) (lKA (lKZ (hk_K hK 405 rfl rfl))) rfl (by decide) rfl (Nat.le_of_ble_eq_true rfl) (by decide) (fun r u hu => ?_)
  refine z_eqs (σ' := (ap b (wx_Z σ z) [(405, 0, 2)] [] [])) hu.2 ?_
  show zx p l e _ s m _ below meth c g 8 _ _ _ _ 225 [(6, .int 0), (5, .int 2), (4, .int 0), (3, .ref (b + 431)), (2, .ref (b + 405)), (1, .ref (b + 0)), (0, .ref bS)] _
  refine z_seti (y := 2) hu.1 ?_
  refine z_iload B dL_law_225 1 rfl ?_
  refine z_icmp_eq (tgt := 232) B dL_law_227 (by decide) (fun _ => ?_) (fun h => absurd (by decide) h)
  refine z_iload B dL_law_232 1 rfl ?_
  refine z_if_ne (tgt := 249) B dL_law_234 (by decide) (fun _ => ?_) (fun h => absurd h (by decide))
  refine z_goto (tgt := 1395) B dL_law_249 (by decide) ?_
  exact z_widen (Nat.le_of_ble_eq_true rfl) (Nat.le_of_ble_eq_true rfl) (z_sub _ [2, 6] rfl (kk _))
set_option maxRecDepth 100000 in
set_option maxHeartbeats 4000000 in
theorem lf_0_78 {p : Program} {l : Launch} {e : Env} {s : State} {m : MethodId} {args : Array Value} {below : List Frame} {meth : Method} {c : Code} {g : gx_T} {Q : State → Prop} {σ : sx_T} {b t bS : Nat} {xs : Nat → Int32} (hlt : l.stackTraces = false) (B : zx_B p s m args meth c code RL 8 g) (hX : va_X bS 6 xs s s.heap) (hbl : bS < s.heap.size) (hbA : ¬ gx_b g ≤ bS) (hF : fz_P b t σ) (h_x1 : xs 1 = 3) {x2 : Int32} (h_x2 : xs 2 = x2) (q1_x2 : (0 : Int) ≤ x2.toInt) (q2_x2 : x2.toInt ≤ (19 : Int)) {x3 : Int32} (h_x3 : xs 3 = x3) (q1_x3 : (0 : Int) ≤ x3.toInt) (q2_x3 : x3.toInt ≤ (17 : Int)) {x4 : Int32} (h_x4 : xs 4 = x4) (q1_x4 : (-2147483648 : Int) ≤ x4.toInt) (q2_x4 : x4.toInt ≤ (-1 : Int)) {x5 : Int32} (h_x5 : xs 5 = x5) (q1_x5 : (-2147483648 : Int) ≤ x5.toInt) (q2_x5 : x5.toInt ≤ (2147483647 : Int)) (kk : ∀ σ', zx p l e room_1 s m args below meth c g 8 600002 7302232 Q σ' 1395 [(4, .int 0), (0, .ref bS)] []) : zx p l e room_1 s m args below meth c g 8 500 100000 Q σ 148 [(4, .int 0), (3, .ref (b + 431)), (2, .ref (b + 405)), (1, .ref (b + 0)), (0, .ref bS)] [] := by
  have hK := fz_lay hF
  refine z_eqs (σ' := (ap b σ [] [] [])) rfl ?_
  refine z_aload_n B dL_law_148 rfl 3 rfl ?_
  refine z_aload_n B dL_law_149 rfl 4 rfl ?_
  refine z_iload B dL_law_150 0 rfl ?_
  refine z_iconst (v := 1) B dL_law_152 (by decide) ?_
  refine z_iadd B dL_law_153 ?_
  refine z_seti (y := 1) (by decide) ?_
  refine z_sld (j := 1) (x := 3) B hX hbl hbA (by decide) (show ¬ ((1 : Int32) < 0 ∨ 6 ≤ (1 : Int32).toNatClampNeg) by decide) h_x1 dL_law_154 ?_
  refine z_aload_n B dL_law_155 rfl 4 rfl ?_
  refine z_iload B dL_law_156 0 rfl ?_
  refine z_iconst (v := 2) B dL_law_158 (by decide) ?_
  refine z_iadd B dL_law_159 ?_
  refine z_seti (y := 2) (by decide) ?_
  refine z_sld (j := 2) (x := x2) B hX hbl hbA (by decide) (show ¬ ((2 : Int32) < 0 ∨ 6 ≤ (2 : Int32).toNatClampNeg) by decide) h_x2 dL_law_160 ?_
  refine z_aload_n B dL_law_161 rfl 4 rfl ?_
  refine z_iload B dL_law_162 0 rfl ?_
  refine z_iconst (v := 3) B dL_law_164 (by decide) ?_
  refine z_iadd B dL_law_165 ?_
  refine z_seti (y := 3) (by decide) ?_
  refine z_sld (j := 3) (x := x3) B hX hbl hbA (by decide) (show ¬ ((3 : Int32) < 0 ∨ 6 ≤ (3 : Int32).toNatClampNeg) by decide) h_x3 dL_law_166 ?_
  refine z_aload_n B dL_law_167 rfl 4 rfl ?_
  refine z_iload B dL_law_168 0 rfl ?_
  refine z_iconst (v := 4) B dL_law_170 (by decide) ?_
  refine z_iadd B dL_law_171 ?_
  refine z_seti (y := 4) (by decide) ?_
  refine z_sld (j := 4) (x := x4) B hX hbl hbA (by decide) (show ¬ ((4 : Int32) < 0 ∨ 6 ≤ (4 : Int32).toNatClampNeg) by decide) h_x4 dL_law_172 ?_
  refine z_aload_n B dL_law_173 rfl 4 rfl ?_
  refine z_iload B dL_law_174 0 rfl ?_
  refine z_iconst (v := 5) B dL_law_176 (by decide) ?_
  refine z_iadd B dL_law_177 ?_
  refine z_seti (y := 5) (by decide) ?_
  refine z_sld (j := 5) (x := x5) B hX hbl hbA (by decide) (show ¬ ((5 : Int32) < 0 ∨ 6 ≤ (5 : Int32).toNatClampNeg) by decide) h_x5 dL_law_178 ?_
  refine z_aload_n B dL_law_179 rfl 1 rfl ?_
  refine z_cSWi (As := [.ref (b + 0), .int 3, .int x2, .int x3, .int x4, .int x5, .ref (b + 431)]) (rest := []) B cw_L_74 dL_law_180 (ci_L_set_237 l hlt (σ := (ap b σ [] [] [])) (b := b) (lyA hK) x2 x3 x4 x5 q1_x2 q2_x2 q1_x3 q2_x3 q1_x4 q2_x4 (rR_at 0 0 (fz_R hF 0 0 rfl rfl)) (rR_at 1 3 (fz_R hF 1 3 rfl rfl))) rfl (by decide) rfl (Nat.le_of_ble_eq_true rfl) (by decide) (fun r u hu => ?_)
  obtain ⟨hu1, z, hu⟩ := hu
  refine z_eqs (σ' := (ap b (wx_Z σ z) [] [] [])) (hu.trans az_ap) ?_
  show zx p l e _ s m _ below meth c g 8 _ _ _ _ 183 [(4, .int 0), (3, .ref (b + 431)), (2, .ref (b + 405)), (1, .ref (b + 0)), (0, .ref bS)] _
  refine z_seti (y := 2) hu1 ?_
  refine z_istore (lv' := [(5, .int 2), (4, .int 0), (3, .ref (b + 431)), (2, .ref (b + 405)), (1, .ref (b + 0)), (0, .ref bS)]) B dL_law_183 (by decide) rfl ?_
  refine z_aload_n B dL_law_185 rfl 3 rfl ?_
  refine z_aload_n B dL_law_186 rfl 5 rfl ?_
  refine z_iload B dL_law_187 1 rfl ?_
  refine z_iconst (v := 1) B dL_law_189 (by decide) ?_
  refine z_iadd B dL_law_190 ?_
  refine z_seti (y := 1) (by decide) ?_
  refine z_sld (j := 1) (x := 3) B hX hbl hbA (by decide) (show ¬ ((1 : Int32) < 0 ∨ 6 ≤ (1 : Int32).toNatClampNeg) by decide) h_x1 dL_law_191 ?_
  refine z_aload_n B dL_law_192 rfl 5 rfl ?_
  refine z_iload B dL_law_193 1 rfl ?_
  refine z_iconst (v := 2) B dL_law_195 (by decide) ?_
  refine z_iadd B dL_law_196 ?_
  refine z_seti (y := 2) (by decide) ?_
  refine z_sld (j := 2) (x := x2) B hX hbl hbA (by decide) (show ¬ ((2 : Int32) < 0 ∨ 6 ≤ (2 : Int32).toNatClampNeg) by decide) h_x2 dL_law_197 ?_
  refine z_aload_n B dL_law_198 rfl 5 rfl ?_
  refine z_iload B dL_law_199 1 rfl ?_
  refine z_iconst (v := 3) B dL_law_201 (by decide) ?_
  refine z_iadd B dL_law_202 ?_
  refine z_seti (y := 3) (by decide) ?_
  refine z_sld (j := 3) (x := x3) B hX hbl hbA (by decide) (show ¬ ((3 : Int32) < 0 ∨ 6 ≤ (3 : Int32).toNatClampNeg) by decide) h_x3 dL_law_203 ?_
  refine z_aload_n B dL_law_204 rfl 5 rfl ?_
  refine z_iload B dL_law_205 1 rfl ?_
  refine z_iconst (v := 4) B dL_law_207 (by decide) ?_
  refine z_iadd B dL_law_208 ?_
  refine z_seti (y := 4) (by decide) ?_
  refine z_sld (j := 4) (x := x4) B hX hbl hbA (by decide) (show ¬ ((4 : Int32) < 0 ∨ 6 ≤ (4 : Int32).toNatClampNeg) by decide) h_x4 dL_law_209 ?_
  refine z_aload_n B dL_law_210 rfl 5 rfl ?_
  refine z_iload B dL_law_211 1 rfl ?_
  refine z_iconst (v := 5) B dL_law_213 (by decide) ?_
  refine z_iadd B dL_law_214 ?_
  refine z_seti (y := 5) (by decide) ?_
  refine z_sld (j := 5) (x := x5) B hX hbl hbA (by decide) (show ¬ ((5 : Int32) < 0 ∨ 6 ≤ (5 : Int32).toNatClampNeg) by decide) h_x5 dL_law_215 ?_
  refine z_cVi (As := [.int 3, .int x2, .int x3, .int x4, .int x5]) (rest := []) B cw_L_79 cx_10 dL_law_216 (ci_X9_set_238 l (σ := (ap b (wx_Z σ z) [] [] [])) (b := b) (lyA (lyZ hK)) x2 x3 x4 x5 q1_x2 q2_x2 q1_x3 q2_x3 q1_x4 q2_x4) (lKA (lKZ (hk_K hK 405 rfl rfl))) rfl (by decide) rfl (Nat.le_of_ble_eq_true rfl) (by decide) (fun r u hu => ?_)
  refine z_eqs (σ' := (ap b (wx_Z σ z) [(405, 0, 2)] [] [])) (hu.2.trans ap_ap) ?_
  show zx p l e _ s m _ below meth c g 8 _ _ _ _ 219 [(5, .int 2), (4, .int 0), (3, .ref (b + 431)), (2, .ref (b + 405)), (1, .ref (b + 0)), (0, .ref bS)] _
  refine z_seti (y := 0) hu.1 ?_
  refine z_istore (lv' := [(6, .int 0), (5, .int 2), (4, .int 0), (3, .ref (b + 431)), (2, .ref (b + 405)), (1, .ref (b + 0)), (0, .ref bS)]) B dL_law_219 (by decide) rfl ?_
  refine z_aload_n B dL_law_221 rfl 4 rfl ?_
  refine z_cVi (As := []) (rest := []) B cw_L_80 cx_10 dL_law_222 (ci_X9_thrown_73 l (σ := (ap b (wx_Z σ z) [(405, 0, 2)] [] [])) (b := b) (lyA (lyZ hK)) (rI_at 405 0 rfl)) (lKA (lKZ (hk_K hK 405 rfl rfl))) rfl (by decide) rfl (Nat.le_of_ble_eq_true rfl) (by decide) (fun r u hu => ?_)
  refine z_eqs (σ' := (ap b (wx_Z σ z) [(405, 0, 2)] [] [])) hu.2 ?_
  show zx p l e _ s m _ below meth c g 8 _ _ _ _ 225 [(6, .int 0), (5, .int 2), (4, .int 0), (3, .ref (b + 431)), (2, .ref (b + 405)), (1, .ref (b + 0)), (0, .ref bS)] _
  refine z_seti (y := 2) hu.1 ?_
  refine z_iload B dL_law_225 1 rfl ?_
  refine z_icmp_eq (tgt := 232) B dL_law_227 (by decide) (fun _ => ?_) (fun h => absurd (by decide) h)
  refine z_iload B dL_law_232 1 rfl ?_
  refine z_if_ne (tgt := 249) B dL_law_234 (by decide) (fun _ => ?_) (fun h => absurd h (by decide))
  refine z_goto (tgt := 1395) B dL_law_249 (by decide) ?_
  exact z_widen (Nat.le_of_ble_eq_true rfl) (Nat.le_of_ble_eq_true rfl) (z_sub _ [2, 6] rfl (kk _))
set_option maxRecDepth 100000 in
set_option maxHeartbeats 4000000 in
theorem lf_0_79 {p : Program} {l : Launch} {e : Env} {s : State} {m : MethodId} {args : Array Value} {below : List Frame} {meth : Method} {c : Code} {g : gx_T} {Q : State → Prop} {σ : sx_T} {b t bS : Nat} {xs : Nat → Int32} (hlt : l.stackTraces = false) (B : zx_B p s m args meth c code RL 8 g) (hX : va_X bS 6 xs s s.heap) (hbl : bS < s.heap.size) (hbA : ¬ gx_b g ≤ bS) (hF : fz_P b t σ) (h_x1 : xs 1 = 3) {x2 : Int32} (h_x2 : xs 2 = x2) (q1_x2 : (0 : Int) ≤ x2.toInt) (q2_x2 : x2.toInt ≤ (19 : Int)) {x3 : Int32} (h_x3 : xs 3 = x3) (q1_x3 : (0 : Int) ≤ x3.toInt) (q2_x3 : x3.toInt ≤ (17 : Int)) {x4 : Int32} (h_x4 : xs 4 = x4) (q1_x4 : (0 : Int) ≤ x4.toInt) (q2_x4 : x4.toInt ≤ (99 : Int)) {x5 : Int32} (h_x5 : xs 5 = x5) (q1_x5 : (-2147483648 : Int) ≤ x5.toInt) (q2_x5 : x5.toInt ≤ (-1 : Int)) (kk : ∀ σ', zx p l e room_1 s m args below meth c g 8 600002 7302232 Q σ' 1395 [(4, .int 0), (0, .ref bS)] []) : zx p l e room_1 s m args below meth c g 8 500 100000 Q σ 148 [(4, .int 0), (3, .ref (b + 431)), (2, .ref (b + 405)), (1, .ref (b + 0)), (0, .ref bS)] [] := by
  have hK := fz_lay hF
  refine z_eqs (σ' := (ap b σ [] [] [])) rfl ?_
  refine z_aload_n B dL_law_148 rfl 3 rfl ?_
  refine z_aload_n B dL_law_149 rfl 4 rfl ?_
  refine z_iload B dL_law_150 0 rfl ?_
  refine z_iconst (v := 1) B dL_law_152 (by decide) ?_
  refine z_iadd B dL_law_153 ?_
  refine z_seti (y := 1) (by decide) ?_
  refine z_sld (j := 1) (x := 3) B hX hbl hbA (by decide) (show ¬ ((1 : Int32) < 0 ∨ 6 ≤ (1 : Int32).toNatClampNeg) by decide) h_x1 dL_law_154 ?_
  refine z_aload_n B dL_law_155 rfl 4 rfl ?_
  refine z_iload B dL_law_156 0 rfl ?_
  refine z_iconst (v := 2) B dL_law_158 (by decide) ?_
  refine z_iadd B dL_law_159 ?_
  refine z_seti (y := 2) (by decide) ?_
  refine z_sld (j := 2) (x := x2) B hX hbl hbA (by decide) (show ¬ ((2 : Int32) < 0 ∨ 6 ≤ (2 : Int32).toNatClampNeg) by decide) h_x2 dL_law_160 ?_
  refine z_aload_n B dL_law_161 rfl 4 rfl ?_
  refine z_iload B dL_law_162 0 rfl ?_
  refine z_iconst (v := 3) B dL_law_164 (by decide) ?_
  refine z_iadd B dL_law_165 ?_
  refine z_seti (y := 3) (by decide) ?_
  refine z_sld (j := 3) (x := x3) B hX hbl hbA (by decide) (show ¬ ((3 : Int32) < 0 ∨ 6 ≤ (3 : Int32).toNatClampNeg) by decide) h_x3 dL_law_166 ?_
  refine z_aload_n B dL_law_167 rfl 4 rfl ?_
  refine z_iload B dL_law_168 0 rfl ?_
  refine z_iconst (v := 4) B dL_law_170 (by decide) ?_
  refine z_iadd B dL_law_171 ?_
  refine z_seti (y := 4) (by decide) ?_
  refine z_sld (j := 4) (x := x4) B hX hbl hbA (by decide) (show ¬ ((4 : Int32) < 0 ∨ 6 ≤ (4 : Int32).toNatClampNeg) by decide) h_x4 dL_law_172 ?_
  refine z_aload_n B dL_law_173 rfl 4 rfl ?_
  refine z_iload B dL_law_174 0 rfl ?_
  refine z_iconst (v := 5) B dL_law_176 (by decide) ?_
  refine z_iadd B dL_law_177 ?_
  refine z_seti (y := 5) (by decide) ?_
  refine z_sld (j := 5) (x := x5) B hX hbl hbA (by decide) (show ¬ ((5 : Int32) < 0 ∨ 6 ≤ (5 : Int32).toNatClampNeg) by decide) h_x5 dL_law_178 ?_
  refine z_aload_n B dL_law_179 rfl 1 rfl ?_
  refine z_cSWi (As := [.ref (b + 0), .int 3, .int x2, .int x3, .int x4, .int x5, .ref (b + 431)]) (rest := []) B cw_L_74 dL_law_180 (ci_L_set_240 l hlt (σ := (ap b σ [] [] [])) (b := b) (lyA hK) x2 x3 x4 x5 q1_x2 q2_x2 q1_x3 q2_x3 q1_x4 q2_x4 q1_x5 q2_x5 (rR_at 0 0 (fz_R hF 0 0 rfl rfl)) (rR_at 1 3 (fz_R hF 1 3 rfl rfl))) rfl (by decide) rfl (Nat.le_of_ble_eq_true rfl) (by decide) (fun r u hu => ?_)
  obtain ⟨hu1, z, hu⟩ := hu
  refine z_eqs (σ' := (ap b (wx_Z σ z) [] [] [])) (hu.trans az_ap) ?_
  show zx p l e _ s m _ below meth c g 8 _ _ _ _ 183 [(4, .int 0), (3, .ref (b + 431)), (2, .ref (b + 405)), (1, .ref (b + 0)), (0, .ref bS)] _
  refine z_seti (y := 2) hu1 ?_
  refine z_istore (lv' := [(5, .int 2), (4, .int 0), (3, .ref (b + 431)), (2, .ref (b + 405)), (1, .ref (b + 0)), (0, .ref bS)]) B dL_law_183 (by decide) rfl ?_
  refine z_aload_n B dL_law_185 rfl 3 rfl ?_
  refine z_aload_n B dL_law_186 rfl 5 rfl ?_
  refine z_iload B dL_law_187 1 rfl ?_
  refine z_iconst (v := 1) B dL_law_189 (by decide) ?_
  refine z_iadd B dL_law_190 ?_
  refine z_seti (y := 1) (by decide) ?_
  refine z_sld (j := 1) (x := 3) B hX hbl hbA (by decide) (show ¬ ((1 : Int32) < 0 ∨ 6 ≤ (1 : Int32).toNatClampNeg) by decide) h_x1 dL_law_191 ?_
  refine z_aload_n B dL_law_192 rfl 5 rfl ?_
  refine z_iload B dL_law_193 1 rfl ?_
  refine z_iconst (v := 2) B dL_law_195 (by decide) ?_
  refine z_iadd B dL_law_196 ?_
  refine z_seti (y := 2) (by decide) ?_
  refine z_sld (j := 2) (x := x2) B hX hbl hbA (by decide) (show ¬ ((2 : Int32) < 0 ∨ 6 ≤ (2 : Int32).toNatClampNeg) by decide) h_x2 dL_law_197 ?_
  refine z_aload_n B dL_law_198 rfl 5 rfl ?_
  refine z_iload B dL_law_199 1 rfl ?_
  refine z_iconst (v := 3) B dL_law_201 (by decide) ?_
  refine z_iadd B dL_law_202 ?_
  refine z_seti (y := 3) (by decide) ?_
  refine z_sld (j := 3) (x := x3) B hX hbl hbA (by decide) (show ¬ ((3 : Int32) < 0 ∨ 6 ≤ (3 : Int32).toNatClampNeg) by decide) h_x3 dL_law_203 ?_
  refine z_aload_n B dL_law_204 rfl 5 rfl ?_
  refine z_iload B dL_law_205 1 rfl ?_
  refine z_iconst (v := 4) B dL_law_207 (by decide) ?_
  refine z_iadd B dL_law_208 ?_
  refine z_seti (y := 4) (by decide) ?_
  refine z_sld (j := 4) (x := x4) B hX hbl hbA (by decide) (show ¬ ((4 : Int32) < 0 ∨ 6 ≤ (4 : Int32).toNatClampNeg) by decide) h_x4 dL_law_209 ?_
  refine z_aload_n B dL_law_210 rfl 5 rfl ?_
  refine z_iload B dL_law_211 1 rfl ?_
  refine z_iconst (v := 5) B dL_law_213 (by decide) ?_
  refine z_iadd B dL_law_214 ?_
  refine z_seti (y := 5) (by decide) ?_
  refine z_sld (j := 5) (x := x5) B hX hbl hbA (by decide) (show ¬ ((5 : Int32) < 0 ∨ 6 ≤ (5 : Int32).toNatClampNeg) by decide) h_x5 dL_law_215 ?_
  refine z_cVi (As := [.int 3, .int x2, .int x3, .int x4, .int x5]) (rest := []) B cw_L_79 cx_10 dL_law_216 (ci_X9_set_241 l (σ := (ap b (wx_Z σ z) [] [] [])) (b := b) (lyA (lyZ hK)) x2 x3 x4 x5 q1_x2 q2_x2 q1_x3 q2_x3 q1_x4 q2_x4 q1_x5 q2_x5) (lKA (lKZ (hk_K hK 405 rfl rfl))) rfl (by decide) rfl (Nat.le_of_ble_eq_true rfl) (by decide) (fun r u hu => ?_)
  refine z_eqs (σ' := (ap b (wx_Z σ z) [(405, 0, 2)] [] [])) (hu.2.trans ap_ap) ?_
  show zx p l e _ s m _ below meth c g 8 _ _ _ _ 219 [(5, .int 2), (4, .int 0), (3, .ref (b + 431)), (2, .ref (b + 405)), (1, .ref (b + 0)), (0, .ref bS)] _
  refine z_seti (y := 0) hu.1 ?_
  refine z_istore (lv' := [(6, .int 0), (5, .int 2), (4, .int 0), (3, .ref (b + 431)), (2, .ref (b + 405)), (1, .ref (b + 0)), (0, .ref bS)]) B dL_law_219 (by decide) rfl ?_
  refine z_aload_n B dL_law_221 rfl 4 rfl ?_
  refine z_cVi (As := []) (rest := []) B cw_L_80 cx_10 dL_law_222 (ci_X9_thrown_73 l (σ := (ap b (wx_Z σ z) [(405, 0, 2)] [] [])) (b := b) (lyA (lyZ hK)) (rI_at 405 0 rfl)) (lKA (lKZ (hk_K hK 405 rfl rfl))) rfl (by decide) rfl (Nat.le_of_ble_eq_true rfl) (by decide) (fun r u hu => ?_)
  refine z_eqs (σ' := (ap b (wx_Z σ z) [(405, 0, 2)] [] [])) hu.2 ?_
  show zx p l e _ s m _ below meth c g 8 _ _ _ _ 225 [(6, .int 0), (5, .int 2), (4, .int 0), (3, .ref (b + 431)), (2, .ref (b + 405)), (1, .ref (b + 0)), (0, .ref bS)] _
  refine z_seti (y := 2) hu.1 ?_
  refine z_iload B dL_law_225 1 rfl ?_
  refine z_icmp_eq (tgt := 232) B dL_law_227 (by decide) (fun _ => ?_) (fun h => absurd (by decide) h)
  refine z_iload B dL_law_232 1 rfl ?_
  refine z_if_ne (tgt := 249) B dL_law_234 (by decide) (fun _ => ?_) (fun h => absurd h (by decide))
  refine z_goto (tgt := 1395) B dL_law_249 (by decide) ?_
  exact z_widen (Nat.le_of_ble_eq_true rfl) (Nat.le_of_ble_eq_true rfl) (z_sub _ [2, 6] rfl (kk _))
set_option maxRecDepth 100000 in
set_option maxHeartbeats 4000000 in
theorem lf_0_80 {p : Program} {l : Launch} {e : Env} {s : State} {m : MethodId} {args : Array Value} {below : List Frame} {meth : Method} {c : Code} {g : gx_T} {Q : State → Prop} {σ : sx_T} {b t bS : Nat} {xs : Nat → Int32} (hlt : l.stackTraces = false) (B : zx_B p s m args meth c code RL 8 g) (hX : va_X bS 6 xs s s.heap) (hbl : bS < s.heap.size) (hbA : ¬ gx_b g ≤ bS) (hF : fz_P b t σ) (h_x1 : xs 1 = 3) {x2 : Int32} (h_x2 : xs 2 = x2) (q1_x2 : (0 : Int) ≤ x2.toInt) (q2_x2 : x2.toInt ≤ (19 : Int)) {x3 : Int32} (h_x3 : xs 3 = x3) (q1_x3 : (0 : Int) ≤ x3.toInt) (q2_x3 : x3.toInt ≤ (17 : Int)) {x4 : Int32} (h_x4 : xs 4 = x4) (q1_x4 : (0 : Int) ≤ x4.toInt) (q2_x4 : x4.toInt ≤ (99 : Int)) {x5 : Int32} (h_x5 : xs 5 = x5) (q1_x5 : (0 : Int) ≤ x5.toInt) (q2_x5 : x5.toInt ≤ (99 : Int)) (kk : ∀ σ', zx p l e room_1 s m args below meth c g 8 600002 7302232 Q σ' 1395 [(4, .int 0), (0, .ref bS)] []) : zx p l e room_1 s m args below meth c g 8 500 100000 Q σ 148 [(4, .int 0), (3, .ref (b + 431)), (2, .ref (b + 405)), (1, .ref (b + 0)), (0, .ref bS)] [] := by
  have hK := fz_lay hF
  refine z_eqs (σ' := (ap b σ [] [] [])) rfl ?_
  refine z_aload_n B dL_law_148 rfl 3 rfl ?_
  refine z_aload_n B dL_law_149 rfl 4 rfl ?_
  refine z_iload B dL_law_150 0 rfl ?_
  refine z_iconst (v := 1) B dL_law_152 (by decide) ?_
  refine z_iadd B dL_law_153 ?_
  refine z_seti (y := 1) (by decide) ?_
  refine z_sld (j := 1) (x := 3) B hX hbl hbA (by decide) (show ¬ ((1 : Int32) < 0 ∨ 6 ≤ (1 : Int32).toNatClampNeg) by decide) h_x1 dL_law_154 ?_
  refine z_aload_n B dL_law_155 rfl 4 rfl ?_
  refine z_iload B dL_law_156 0 rfl ?_
  refine z_iconst (v := 2) B dL_law_158 (by decide) ?_
  refine z_iadd B dL_law_159 ?_
  refine z_seti (y := 2) (by decide) ?_
  refine z_sld (j := 2) (x := x2) B hX hbl hbA (by decide) (show ¬ ((2 : Int32) < 0 ∨ 6 ≤ (2 : Int32).toNatClampNeg) by decide) h_x2 dL_law_160 ?_
  refine z_aload_n B dL_law_161 rfl 4 rfl ?_
  refine z_iload B dL_law_162 0 rfl ?_
  refine z_iconst (v := 3) B dL_law_164 (by decide) ?_
  refine z_iadd B dL_law_165 ?_
  refine z_seti (y := 3) (by decide) ?_
  refine z_sld (j := 3) (x := x3) B hX hbl hbA (by decide) (show ¬ ((3 : Int32) < 0 ∨ 6 ≤ (3 : Int32).toNatClampNeg) by decide) h_x3 dL_law_166 ?_
  refine z_aload_n B dL_law_167 rfl 4 rfl ?_
  refine z_iload B dL_law_168 0 rfl ?_
  refine z_iconst (v := 4) B dL_law_170 (by decide) ?_
  refine z_iadd B dL_law_171 ?_
  refine z_seti (y := 4) (by decide) ?_
  refine z_sld (j := 4) (x := x4) B hX hbl hbA (by decide) (show ¬ ((4 : Int32) < 0 ∨ 6 ≤ (4 : Int32).toNatClampNeg) by decide) h_x4 dL_law_172 ?_
  refine z_aload_n B dL_law_173 rfl 4 rfl ?_
  refine z_iload B dL_law_174 0 rfl ?_
  refine z_iconst (v := 5) B dL_law_176 (by decide) ?_
  refine z_iadd B dL_law_177 ?_
  refine z_seti (y := 5) (by decide) ?_
  refine z_sld (j := 5) (x := x5) B hX hbl hbA (by decide) (show ¬ ((5 : Int32) < 0 ∨ 6 ≤ (5 : Int32).toNatClampNeg) by decide) h_x5 dL_law_178 ?_
  refine z_aload_n B dL_law_179 rfl 1 rfl ?_
  refine z_cSWi (As := [.ref (b + 0), .int 3, .int x2, .int x3, .int x4, .int x5, .ref (b + 431)]) (rest := []) B cw_L_74 dL_law_180 (ci_L_set_246 l (σ := (ap b σ [] [] [])) (b := b) (lyA hK) x2 x3 x4 x5 q1_x2 q2_x2 q1_x3 q2_x3 q1_x4 q2_x4 q1_x5 q2_x5 (rI_at 0 7 (fz_I hF 0 7 rfl rfl)) (rR_at 0 0 (fz_R hF 0 0 rfl rfl)) (rR_at 1 3 (fz_R hF 1 3 rfl rfl)) (rR_at 21 1 (fz_R hF 21 1 rfl rfl)) (rR_at 21 2 (fz_R hF 21 2 rfl rfl)) (rR_at 21 3 (fz_R hF 21 3 rfl rfl))) rfl (by decide) rfl (Nat.le_of_ble_eq_true rfl) (by decide) (fun r u hu => ?_)
  refine z_eqs (σ' := (ap b (wx_I (ap b (wx_I (ap b (wx_I (ap b (ap b (ap b (ap b σ [] [] []) [] [] []) [] [] []) [] [] []) (b + 22) x2.toNatClampNeg x3) [] [] []) (b + 23) x2.toNatClampNeg x4) [] [] []) (b + 24) x2.toNatClampNeg x5) [] [(431, 0, 0)] [])) hu.2 ?_
  show zx p l e _ s m _ below meth c g 8 _ _ _ _ 183 [(4, .int 0), (3, .ref (b + 431)), (2, .ref (b + 405)), (1, .ref (b + 0)), (0, .ref bS)] _
  refine z_seti (y := 0) hu.1 ?_
  refine z_istore (lv' := [(5, .int 0), (4, .int 0), (3, .ref (b + 431)), (2, .ref (b + 405)), (1, .ref (b + 0)), (0, .ref bS)]) B dL_law_183 (by decide) rfl ?_
  refine z_aload_n B dL_law_185 rfl 3 rfl ?_
  refine z_aload_n B dL_law_186 rfl 5 rfl ?_
  refine z_iload B dL_law_187 1 rfl ?_
  refine z_iconst (v := 1) B dL_law_189 (by decide) ?_
  refine z_iadd B dL_law_190 ?_
  refine z_seti (y := 1) (by decide) ?_
  refine z_sld (j := 1) (x := 3) B hX hbl hbA (by decide) (show ¬ ((1 : Int32) < 0 ∨ 6 ≤ (1 : Int32).toNatClampNeg) by decide) h_x1 dL_law_191 ?_
  refine z_aload_n B dL_law_192 rfl 5 rfl ?_
  refine z_iload B dL_law_193 1 rfl ?_
  refine z_iconst (v := 2) B dL_law_195 (by decide) ?_
  refine z_iadd B dL_law_196 ?_
  refine z_seti (y := 2) (by decide) ?_
  refine z_sld (j := 2) (x := x2) B hX hbl hbA (by decide) (show ¬ ((2 : Int32) < 0 ∨ 6 ≤ (2 : Int32).toNatClampNeg) by decide) h_x2 dL_law_197 ?_
  refine z_aload_n B dL_law_198 rfl 5 rfl ?_
  refine z_iload B dL_law_199 1 rfl ?_
  refine z_iconst (v := 3) B dL_law_201 (by decide) ?_
  refine z_iadd B dL_law_202 ?_
  refine z_seti (y := 3) (by decide) ?_
  refine z_sld (j := 3) (x := x3) B hX hbl hbA (by decide) (show ¬ ((3 : Int32) < 0 ∨ 6 ≤ (3 : Int32).toNatClampNeg) by decide) h_x3 dL_law_203 ?_
  refine z_aload_n B dL_law_204 rfl 5 rfl ?_
  refine z_iload B dL_law_205 1 rfl ?_
  refine z_iconst (v := 4) B dL_law_207 (by decide) ?_
  refine z_iadd B dL_law_208 ?_
  refine z_seti (y := 4) (by decide) ?_
  refine z_sld (j := 4) (x := x4) B hX hbl hbA (by decide) (show ¬ ((4 : Int32) < 0 ∨ 6 ≤ (4 : Int32).toNatClampNeg) by decide) h_x4 dL_law_209 ?_
  refine z_aload_n B dL_law_210 rfl 5 rfl ?_
  refine z_iload B dL_law_211 1 rfl ?_
  refine z_iconst (v := 5) B dL_law_213 (by decide) ?_
  refine z_iadd B dL_law_214 ?_
  refine z_seti (y := 5) (by decide) ?_
  refine z_sld (j := 5) (x := x5) B hX hbl hbA (by decide) (show ¬ ((5 : Int32) < 0 ∨ 6 ≤ (5 : Int32).toNatClampNeg) by decide) h_x5 dL_law_215 ?_
  refine z_cVi (As := [.int 3, .int x2, .int x3, .int x4, .int x5]) (rest := []) B cw_L_79 cx_10 dL_law_216 (ci_X9_set_249 l (σ := (ap b (wx_I (ap b (wx_I (ap b (wx_I (ap b (ap b (ap b (ap b σ [] [] []) [] [] []) [] [] []) [] [] []) (b + 22) x2.toNatClampNeg x3) [] [] []) (b + 23) x2.toNatClampNeg x4) [] [] []) (b + 24) x2.toNatClampNeg x5) [] [(431, 0, 0)] [])) (b := b) (lyA (lyW (lyA (lyW (lyA (lyW (lyA (lyA (lyA (lyA hK)))))))))) x2 x3 x4 x5 q1_x2 q2_x2 q1_x3 q2_x3 q1_x4 q2_x4 q1_x5 q2_x5 (rI_at 405 6 ((ux_a (by omega)).trans (rI_at 405 6 ((ux_a (by omega)).trans (rI_at 405 6 ((ux_a (by omega)).trans (rI_at 405 6 (rI_at 405 6 (rI_at 405 6 (rI_at 405 6 (fz_I hF 405 6 rfl rfl))))))))))) (rR_at 405 3 (rR_w (rR_at 405 3 (rR_w (rR_at 405 3 (rR_w (rR_at 405 3 (rR_at 405 3 (rR_at 405 3 (rR_at 405 3 (fz_R hF 405 3 rfl rfl))))))))))) (rR_at 405 4 (rR_w (rR_at 405 4 (rR_w (rR_at 405 4 (rR_w (rR_at 405 4 (rR_at 405 4 (rR_at 405 4 (rR_at 405 4 (fz_R hF 405 4 rfl rfl))))))))))) (rR_at 405 5 (rR_w (rR_at 405 5 (rR_w (rR_at 405 5 (rR_w (rR_at 405 5 (rR_at 405 5 (rR_at 405 5 (rR_at 405 5 (fz_R hF 405 5 rfl rfl)))))))))))) (lKA (lKW (lKA (lKW (lKA (lKW (lKA (lKA (lKA (lKA (hk_K hK 405 rfl rfl))))))))))) rfl (by decide) rfl (Nat.le_of_ble_eq_true rfl) (by decide) (fun r u hu => ?_)
  refine z_eqs (σ' := (ap b (wx_I (ap b (wx_I (ap b (wx_I (ap b (ap b (ap b (wx_I (ap b (wx_I (ap b (wx_I (ap b (ap b (ap b (ap b σ [] [] []) [] [] []) [] [] []) [] [] []) (b + 22) x2.toNatClampNeg x3) [] [] []) (b + 23) x2.toNatClampNeg x4) [] [] []) (b + 24) x2.toNatClampNeg x5) [] [(431, 0, 0)] []) [(405, 0, 0)] [] []) [] [] []) (b + 406) (60 + x2).toNatClampNeg x3) [] [] []) (b + 407) (60 + x2).toNatClampNeg x4) [] [] []) (b + 408) (60 + x2).toNatClampNeg x5) [] [] [])) hu.2 ?_
  show zx p l e _ s m _ below meth c g 8 _ _ _ _ 219 [(5, .int 0), (4, .int 0), (3, .ref (b + 431)), (2, .ref (b + 405)), (1, .ref (b + 0)), (0, .ref bS)] _
  refine z_seti (y := 0) hu.1 ?_
  refine z_istore (lv' := [(6, .int 0), (5, .int 0), (4, .int 0), (3, .ref (b + 431)), (2, .ref (b + 405)), (1, .ref (b + 0)), (0, .ref bS)]) B dL_law_219 (by decide) rfl ?_
  refine z_aload_n B dL_law_221 rfl 4 rfl ?_
  refine z_cVi (As := []) (rest := []) B cw_L_80 cx_10 dL_law_222 (ci_X9_thrown_95 l (σ := (ap b (wx_I (ap b (wx_I (ap b (wx_I (ap b (ap b (ap b (wx_I (ap b (wx_I (ap b (wx_I (ap b (ap b (ap b (ap b σ [] [] []) [] [] []) [] [] []) [] [] []) (b + 22) x2.toNatClampNeg x3) [] [] []) (b + 23) x2.toNatClampNeg x4) [] [] []) (b + 24) x2.toNatClampNeg x5) [] [(431, 0, 0)] []) [(405, 0, 0)] [] []) [] [] []) (b + 406) (60 + x2).toNatClampNeg x3) [] [] []) (b + 407) (60 + x2).toNatClampNeg x4) [] [] []) (b + 408) (60 + x2).toNatClampNeg x5) [] [] [])) (b := b) (lyA (lyW (lyA (lyW (lyA (lyW (lyA (lyA (lyA (lyW (lyA (lyW (lyA (lyW (lyA (lyA (lyA (lyA hK)))))))))))))))))) (rI_at 405 0 ((ux_a (by omega)).trans (rI_at 405 0 ((ux_a (by omega)).trans (rI_at 405 0 ((ux_a (by omega)).trans (rI_at 405 0 (rI_at 405 0 rfl))))))))) (lKA (lKW (lKA (lKW (lKA (lKW (lKA (lKA (lKA (lKW (lKA (lKW (lKA (lKW (lKA (lKA (lKA (lKA (hk_K hK 405 rfl rfl))))))))))))))))))) rfl (by decide) rfl (Nat.le_of_ble_eq_true rfl) (by decide) (fun r u hu => ?_)
  refine z_eqs (σ' := (ap b (wx_I (ap b (wx_I (ap b (wx_I (ap b (ap b (ap b (wx_I (ap b (wx_I (ap b (wx_I (ap b (ap b (ap b (ap b σ [] [] []) [] [] []) [] [] []) [] [] []) (b + 22) x2.toNatClampNeg x3) [] [] []) (b + 23) x2.toNatClampNeg x4) [] [] []) (b + 24) x2.toNatClampNeg x5) [] [(431, 0, 0)] []) [(405, 0, 0)] [] []) [] [] []) (b + 406) (60 + x2).toNatClampNeg x3) [] [] []) (b + 407) (60 + x2).toNatClampNeg x4) [] [] []) (b + 408) (60 + x2).toNatClampNeg x5) [] [] [])) hu.2 ?_
  show zx p l e _ s m _ below meth c g 8 _ _ _ _ 225 [(6, .int 0), (5, .int 0), (4, .int 0), (3, .ref (b + 431)), (2, .ref (b + 405)), (1, .ref (b + 0)), (0, .ref bS)] _
  refine z_seti (y := 0) hu.1 ?_
  refine z_iload B dL_law_225 1 rfl ?_
  refine z_icmp_eq (tgt := 232) B dL_law_227 (by decide) (fun _ => ?_) (fun h => absurd (by decide) h)
  refine z_iload B dL_law_232 1 rfl ?_
  refine z_if_ne (tgt := 249) B dL_law_234 (by decide) (fun h => absurd (by decide) h) (fun _ => ?_)
  refine z_aload_n B dL_law_237 rfl 3 rfl ?_
  refine z_iconst (v := 0) B dL_law_238 (by decide) ?_
  refine z_lald (j := 0) (x := 0) B (lKA (lKW (lKA (lKW (lKA (lKW (lKA (lKA (lKA (lKW (lKA (lKW (lKA (lKW (lKA (lKA (lKA (lKA (hk_K hK 431 rfl rfl))))))))))))))))))) (by decide) (in_of (lNA (lNW (lNA (lNW (lNA (lNW (lNA (lNA (lNA (lNW (lNA (lNW (lNA (lNW (lNA (lNA (lNA (lNA (hk_N hK 431 rfl rfl))))))))))))))))))) (show ¬ ((0 : Int32) < 0 ∨ 1 ≤ (0 : Int32).toNatClampNeg) by decide)) (rJ_at 431 0 (rJ_w (rJ_at 431 0 (rJ_w (rJ_at 431 0 (rJ_w (rJ_at 431 0 (rJ_at 431 0 (rJ_at 431 0 rfl))))))))) dL_law_239 ?_
  refine z_iload B dL_law_240 0 rfl ?_
  refine z_i2l (v := 0) B dL_law_242 (by decide) ?_
  refine z_lcmp (v := 0) B dL_law_243 (by decide) ?_
  refine z_if_eq (tgt := 249) B dL_law_244 (by decide) (fun _ => ?_) (fun h => absurd (by decide) h)
  refine z_goto (tgt := 1395) B dL_law_249 (by decide) ?_
  exact z_widen (Nat.le_of_ble_eq_true rfl) (Nat.le_of_ble_eq_true rfl) (z_sub _ [2, 6] rfl (kk _))
set_option maxRecDepth 100000 in
set_option maxHeartbeats 4000000 in
theorem lf_0_81 {p : Program} {l : Launch} {e : Env} {s : State} {m : MethodId} {args : Array Value} {below : List Frame} {meth : Method} {c : Code} {g : gx_T} {Q : State → Prop} {σ : sx_T} {b t bS : Nat} {xs : Nat → Int32} (hlt : l.stackTraces = false) (B : zx_B p s m args meth c code RL 8 g) (hX : va_X bS 6 xs s s.heap) (hbl : bS < s.heap.size) (hbA : ¬ gx_b g ≤ bS) (hF : fz_P b t σ) (h_x1 : xs 1 = 3) {x2 : Int32} (h_x2 : xs 2 = x2) (q1_x2 : (0 : Int) ≤ x2.toInt) (q2_x2 : x2.toInt ≤ (19 : Int)) {x3 : Int32} (h_x3 : xs 3 = x3) (q1_x3 : (0 : Int) ≤ x3.toInt) (q2_x3 : x3.toInt ≤ (17 : Int)) {x4 : Int32} (h_x4 : xs 4 = x4) (q1_x4 : (0 : Int) ≤ x4.toInt) (q2_x4 : x4.toInt ≤ (99 : Int)) {x5 : Int32} (h_x5 : xs 5 = x5) (q1_x5 : (100 : Int) ≤ x5.toInt) (q2_x5 : x5.toInt ≤ (2147483647 : Int)) (kk : ∀ σ', zx p l e room_1 s m args below meth c g 8 600002 7302232 Q σ' 1395 [(4, .int 0), (0, .ref bS)] []) : zx p l e room_1 s m args below meth c g 8 500 100000 Q σ 148 [(4, .int 0), (3, .ref (b + 431)), (2, .ref (b + 405)), (1, .ref (b + 0)), (0, .ref bS)] [] := by
  have hK := fz_lay hF
  refine z_eqs (σ' := (ap b σ [] [] [])) rfl ?_
  refine z_aload_n B dL_law_148 rfl 3 rfl ?_
  refine z_aload_n B dL_law_149 rfl 4 rfl ?_
  refine z_iload B dL_law_150 0 rfl ?_
  refine z_iconst (v := 1) B dL_law_152 (by decide) ?_
  refine z_iadd B dL_law_153 ?_
  refine z_seti (y := 1) (by decide) ?_
  refine z_sld (j := 1) (x := 3) B hX hbl hbA (by decide) (show ¬ ((1 : Int32) < 0 ∨ 6 ≤ (1 : Int32).toNatClampNeg) by decide) h_x1 dL_law_154 ?_
  refine z_aload_n B dL_law_155 rfl 4 rfl ?_
  refine z_iload B dL_law_156 0 rfl ?_
  refine z_iconst (v := 2) B dL_law_158 (by decide) ?_
  refine z_iadd B dL_law_159 ?_
  refine z_seti (y := 2) (by decide) ?_
  refine z_sld (j := 2) (x := x2) B hX hbl hbA (by decide) (show ¬ ((2 : Int32) < 0 ∨ 6 ≤ (2 : Int32).toNatClampNeg) by decide) h_x2 dL_law_160 ?_
  refine z_aload_n B dL_law_161 rfl 4 rfl ?_
  refine z_iload B dL_law_162 0 rfl ?_
  refine z_iconst (v := 3) B dL_law_164 (by decide) ?_
  refine z_iadd B dL_law_165 ?_
  refine z_seti (y := 3) (by decide) ?_
  refine z_sld (j := 3) (x := x3) B hX hbl hbA (by decide) (show ¬ ((3 : Int32) < 0 ∨ 6 ≤ (3 : Int32).toNatClampNeg) by decide) h_x3 dL_law_166 ?_
  refine z_aload_n B dL_law_167 rfl 4 rfl ?_
  refine z_iload B dL_law_168 0 rfl ?_
  refine z_iconst (v := 4) B dL_law_170 (by decide) ?_
  refine z_iadd B dL_law_171 ?_
  refine z_seti (y := 4) (by decide) ?_
  refine z_sld (j := 4) (x := x4) B hX hbl hbA (by decide) (show ¬ ((4 : Int32) < 0 ∨ 6 ≤ (4 : Int32).toNatClampNeg) by decide) h_x4 dL_law_172 ?_
  refine z_aload_n B dL_law_173 rfl 4 rfl ?_
  refine z_iload B dL_law_174 0 rfl ?_
  refine z_iconst (v := 5) B dL_law_176 (by decide) ?_
  refine z_iadd B dL_law_177 ?_
  refine z_seti (y := 5) (by decide) ?_
  refine z_sld (j := 5) (x := x5) B hX hbl hbA (by decide) (show ¬ ((5 : Int32) < 0 ∨ 6 ≤ (5 : Int32).toNatClampNeg) by decide) h_x5 dL_law_178 ?_
  refine z_aload_n B dL_law_179 rfl 1 rfl ?_
  refine z_cSWi (As := [.ref (b + 0), .int 3, .int x2, .int x3, .int x4, .int x5, .ref (b + 431)]) (rest := []) B cw_L_74 dL_law_180 (ci_L_set_251 l hlt (σ := (ap b σ [] [] [])) (b := b) (lyA hK) x2 x3 x4 x5 q1_x2 q2_x2 q1_x3 q2_x3 q1_x4 q2_x4 q1_x5 q2_x5 (rR_at 0 0 (fz_R hF 0 0 rfl rfl)) (rR_at 1 3 (fz_R hF 1 3 rfl rfl))) rfl (by decide) rfl (Nat.le_of_ble_eq_true rfl) (by decide) (fun r u hu => ?_)
  obtain ⟨hu1, z, hu⟩ := hu
  refine z_eqs (σ' := (ap b (wx_Z σ z) [] [] [])) (hu.trans az_ap) ?_
  show zx p l e _ s m _ below meth c g 8 _ _ _ _ 183 [(4, .int 0), (3, .ref (b + 431)), (2, .ref (b + 405)), (1, .ref (b + 0)), (0, .ref bS)] _
  refine z_seti (y := 2) hu1 ?_
  refine z_istore (lv' := [(5, .int 2), (4, .int 0), (3, .ref (b + 431)), (2, .ref (b + 405)), (1, .ref (b + 0)), (0, .ref bS)]) B dL_law_183 (by decide) rfl ?_
  refine z_aload_n B dL_law_185 rfl 3 rfl ?_
  refine z_aload_n B dL_law_186 rfl 5 rfl ?_
  refine z_iload B dL_law_187 1 rfl ?_
  refine z_iconst (v := 1) B dL_law_189 (by decide) ?_
  refine z_iadd B dL_law_190 ?_
  refine z_seti (y := 1) (by decide) ?_
  refine z_sld (j := 1) (x := 3) B hX hbl hbA (by decide) (show ¬ ((1 : Int32) < 0 ∨ 6 ≤ (1 : Int32).toNatClampNeg) by decide) h_x1 dL_law_191 ?_
  refine z_aload_n B dL_law_192 rfl 5 rfl ?_
  refine z_iload B dL_law_193 1 rfl ?_
  refine z_iconst (v := 2) B dL_law_195 (by decide) ?_
  refine z_iadd B dL_law_196 ?_
  refine z_seti (y := 2) (by decide) ?_
  refine z_sld (j := 2) (x := x2) B hX hbl hbA (by decide) (show ¬ ((2 : Int32) < 0 ∨ 6 ≤ (2 : Int32).toNatClampNeg) by decide) h_x2 dL_law_197 ?_
  refine z_aload_n B dL_law_198 rfl 5 rfl ?_
  refine z_iload B dL_law_199 1 rfl ?_
  refine z_iconst (v := 3) B dL_law_201 (by decide) ?_
  refine z_iadd B dL_law_202 ?_
  refine z_seti (y := 3) (by decide) ?_
  refine z_sld (j := 3) (x := x3) B hX hbl hbA (by decide) (show ¬ ((3 : Int32) < 0 ∨ 6 ≤ (3 : Int32).toNatClampNeg) by decide) h_x3 dL_law_203 ?_
  refine z_aload_n B dL_law_204 rfl 5 rfl ?_
  refine z_iload B dL_law_205 1 rfl ?_
  refine z_iconst (v := 4) B dL_law_207 (by decide) ?_
  refine z_iadd B dL_law_208 ?_
  refine z_seti (y := 4) (by decide) ?_
  refine z_sld (j := 4) (x := x4) B hX hbl hbA (by decide) (show ¬ ((4 : Int32) < 0 ∨ 6 ≤ (4 : Int32).toNatClampNeg) by decide) h_x4 dL_law_209 ?_
  refine z_aload_n B dL_law_210 rfl 5 rfl ?_
  refine z_iload B dL_law_211 1 rfl ?_
  refine z_iconst (v := 5) B dL_law_213 (by decide) ?_
  refine z_iadd B dL_law_214 ?_
  refine z_seti (y := 5) (by decide) ?_
  refine z_sld (j := 5) (x := x5) B hX hbl hbA (by decide) (show ¬ ((5 : Int32) < 0 ∨ 6 ≤ (5 : Int32).toNatClampNeg) by decide) h_x5 dL_law_215 ?_
  refine z_cVi (As := [.int 3, .int x2, .int x3, .int x4, .int x5]) (rest := []) B cw_L_79 cx_10 dL_law_216 (ci_X9_set_252 l (σ := (ap b (wx_Z σ z) [] [] [])) (b := b) (lyA (lyZ hK)) x2 x3 x4 x5 q1_x2 q2_x2 q1_x3 q2_x3 q1_x4 q2_x4 q1_x5 q2_x5) (lKA (lKZ (hk_K hK 405 rfl rfl))) rfl (by decide) rfl (Nat.le_of_ble_eq_true rfl) (by decide) (fun r u hu => ?_)
  refine z_eqs (σ' := (ap b (wx_Z σ z) [(405, 0, 2)] [] [])) (hu.2.trans ap_ap) ?_
  show zx p l e _ s m _ below meth c g 8 _ _ _ _ 219 [(5, .int 2), (4, .int 0), (3, .ref (b + 431)), (2, .ref (b + 405)), (1, .ref (b + 0)), (0, .ref bS)] _
  refine z_seti (y := 0) hu.1 ?_
  refine z_istore (lv' := [(6, .int 0), (5, .int 2), (4, .int 0), (3, .ref (b + 431)), (2, .ref (b + 405)), (1, .ref (b + 0)), (0, .ref bS)]) B dL_law_219 (by decide) rfl ?_
  refine z_aload_n B dL_law_221 rfl 4 rfl ?_
  refine z_cVi (As := []) (rest := []) B cw_L_80 cx_10 dL_law_222 (ci_X9_thrown_73 l (σ := (ap b (wx_Z σ z) [(405, 0, 2)] [] [])) (b := b) (lyA (lyZ hK)) (rI_at 405 0 rfl)) (lKA (lKZ (hk_K hK 405 rfl rfl))) rfl (by decide) rfl (Nat.le_of_ble_eq_true rfl) (by decide) (fun r u hu => ?_)
  refine z_eqs (σ' := (ap b (wx_Z σ z) [(405, 0, 2)] [] [])) hu.2 ?_
  show zx p l e _ s m _ below meth c g 8 _ _ _ _ 225 [(6, .int 0), (5, .int 2), (4, .int 0), (3, .ref (b + 431)), (2, .ref (b + 405)), (1, .ref (b + 0)), (0, .ref bS)] _
  refine z_seti (y := 2) hu.1 ?_
  refine z_iload B dL_law_225 1 rfl ?_
  refine z_icmp_eq (tgt := 232) B dL_law_227 (by decide) (fun _ => ?_) (fun h => absurd (by decide) h)
  refine z_iload B dL_law_232 1 rfl ?_
  refine z_if_ne (tgt := 249) B dL_law_234 (by decide) (fun _ => ?_) (fun h => absurd h (by decide))
  refine z_goto (tgt := 1395) B dL_law_249 (by decide) ?_
  exact z_widen (Nat.le_of_ble_eq_true rfl) (Nat.le_of_ble_eq_true rfl) (z_sub _ [2, 6] rfl (kk _))
set_option maxRecDepth 100000 in
set_option maxHeartbeats 4000000 in
theorem lf_0_82 {p : Program} {l : Launch} {e : Env} {s : State} {m : MethodId} {args : Array Value} {below : List Frame} {meth : Method} {c : Code} {g : gx_T} {Q : State → Prop} {σ : sx_T} {b t bS : Nat} {xs : Nat → Int32} (hlt : l.stackTraces = false) (B : zx_B p s m args meth c code RL 8 g) (hX : va_X bS 6 xs s s.heap) (hbl : bS < s.heap.size) (hbA : ¬ gx_b g ≤ bS) (hF : fz_P b t σ) (h_x1 : xs 1 = 3) {x2 : Int32} (h_x2 : xs 2 = x2) (q1_x2 : (0 : Int) ≤ x2.toInt) (q2_x2 : x2.toInt ≤ (19 : Int)) {x3 : Int32} (h_x3 : xs 3 = x3) (q1_x3 : (0 : Int) ≤ x3.toInt) (q2_x3 : x3.toInt ≤ (17 : Int)) {x4 : Int32} (h_x4 : xs 4 = x4) (q1_x4 : (100 : Int) ≤ x4.toInt) (q2_x4 : x4.toInt ≤ (2147483647 : Int)) {x5 : Int32} (h_x5 : xs 5 = x5) (q1_x5 : (-2147483648 : Int) ≤ x5.toInt) (q2_x5 : x5.toInt ≤ (2147483647 : Int)) (kk : ∀ σ', zx p l e room_1 s m args below meth c g 8 600002 7302232 Q σ' 1395 [(4, .int 0), (0, .ref bS)] []) : zx p l e room_1 s m args below meth c g 8 500 100000 Q σ 148 [(4, .int 0), (3, .ref (b + 431)), (2, .ref (b + 405)), (1, .ref (b + 0)), (0, .ref bS)] [] := by
  have hK := fz_lay hF
  refine z_eqs (σ' := (ap b σ [] [] [])) rfl ?_
  refine z_aload_n B dL_law_148 rfl 3 rfl ?_
  refine z_aload_n B dL_law_149 rfl 4 rfl ?_
  refine z_iload B dL_law_150 0 rfl ?_
  refine z_iconst (v := 1) B dL_law_152 (by decide) ?_
  refine z_iadd B dL_law_153 ?_
  refine z_seti (y := 1) (by decide) ?_
  refine z_sld (j := 1) (x := 3) B hX hbl hbA (by decide) (show ¬ ((1 : Int32) < 0 ∨ 6 ≤ (1 : Int32).toNatClampNeg) by decide) h_x1 dL_law_154 ?_
  refine z_aload_n B dL_law_155 rfl 4 rfl ?_
  refine z_iload B dL_law_156 0 rfl ?_
  refine z_iconst (v := 2) B dL_law_158 (by decide) ?_
  refine z_iadd B dL_law_159 ?_
  refine z_seti (y := 2) (by decide) ?_
  refine z_sld (j := 2) (x := x2) B hX hbl hbA (by decide) (show ¬ ((2 : Int32) < 0 ∨ 6 ≤ (2 : Int32).toNatClampNeg) by decide) h_x2 dL_law_160 ?_
  refine z_aload_n B dL_law_161 rfl 4 rfl ?_
  refine z_iload B dL_law_162 0 rfl ?_
  refine z_iconst (v := 3) B dL_law_164 (by decide) ?_
  refine z_iadd B dL_law_165 ?_
  refine z_seti (y := 3) (by decide) ?_
  refine z_sld (j := 3) (x := x3) B hX hbl hbA (by decide) (show ¬ ((3 : Int32) < 0 ∨ 6 ≤ (3 : Int32).toNatClampNeg) by decide) h_x3 dL_law_166 ?_
  refine z_aload_n B dL_law_167 rfl 4 rfl ?_
  refine z_iload B dL_law_168 0 rfl ?_
  refine z_iconst (v := 4) B dL_law_170 (by decide) ?_
  refine z_iadd B dL_law_171 ?_
  refine z_seti (y := 4) (by decide) ?_
  refine z_sld (j := 4) (x := x4) B hX hbl hbA (by decide) (show ¬ ((4 : Int32) < 0 ∨ 6 ≤ (4 : Int32).toNatClampNeg) by decide) h_x4 dL_law_172 ?_
  refine z_aload_n B dL_law_173 rfl 4 rfl ?_
  refine z_iload B dL_law_174 0 rfl ?_
  refine z_iconst (v := 5) B dL_law_176 (by decide) ?_
  refine z_iadd B dL_law_177 ?_
  refine z_seti (y := 5) (by decide) ?_
  refine z_sld (j := 5) (x := x5) B hX hbl hbA (by decide) (show ¬ ((5 : Int32) < 0 ∨ 6 ≤ (5 : Int32).toNatClampNeg) by decide) h_x5 dL_law_178 ?_
  refine z_aload_n B dL_law_179 rfl 1 rfl ?_
  refine z_cSWi (As := [.ref (b + 0), .int 3, .int x2, .int x3, .int x4, .int x5, .ref (b + 431)]) (rest := []) B cw_L_74 dL_law_180 (ci_L_set_254 l hlt (σ := (ap b σ [] [] [])) (b := b) (lyA hK) x2 x3 x4 x5 q1_x2 q2_x2 q1_x3 q2_x3 q1_x4 q2_x4 (rR_at 0 0 (fz_R hF 0 0 rfl rfl)) (rR_at 1 3 (fz_R hF 1 3 rfl rfl))) rfl (by decide) rfl (Nat.le_of_ble_eq_true rfl) (by decide) (fun r u hu => ?_)
  obtain ⟨hu1, z, hu⟩ := hu
  refine z_eqs (σ' := (ap b (wx_Z σ z) [] [] [])) (hu.trans az_ap) ?_
  show zx p l e _ s m _ below meth c g 8 _ _ _ _ 183 [(4, .int 0), (3, .ref (b + 431)), (2, .ref (b + 405)), (1, .ref (b + 0)), (0, .ref bS)] _
  refine z_seti (y := 2) hu1 ?_
  refine z_istore (lv' := [(5, .int 2), (4, .int 0), (3, .ref (b + 431)), (2, .ref (b + 405)), (1, .ref (b + 0)), (0, .ref bS)]) B dL_law_183 (by decide) rfl ?_
  refine z_aload_n B dL_law_185 rfl 3 rfl ?_
  refine z_aload_n B dL_law_186 rfl 5 rfl ?_
  refine z_iload B dL_law_187 1 rfl ?_
  refine z_iconst (v := 1) B dL_law_189 (by decide) ?_
  refine z_iadd B dL_law_190 ?_
  refine z_seti (y := 1) (by decide) ?_
  refine z_sld (j := 1) (x := 3) B hX hbl hbA (by decide) (show ¬ ((1 : Int32) < 0 ∨ 6 ≤ (1 : Int32).toNatClampNeg) by decide) h_x1 dL_law_191 ?_
  refine z_aload_n B dL_law_192 rfl 5 rfl ?_
  refine z_iload B dL_law_193 1 rfl ?_
  refine z_iconst (v := 2) B dL_law_195 (by decide) ?_
  refine z_iadd B dL_law_196 ?_
  refine z_seti (y := 2) (by decide) ?_
  refine z_sld (j := 2) (x := x2) B hX hbl hbA (by decide) (show ¬ ((2 : Int32) < 0 ∨ 6 ≤ (2 : Int32).toNatClampNeg) by decide) h_x2 dL_law_197 ?_
  refine z_aload_n B dL_law_198 rfl 5 rfl ?_
  refine z_iload B dL_law_199 1 rfl ?_
  refine z_iconst (v := 3) B dL_law_201 (by decide) ?_
  refine z_iadd B dL_law_202 ?_
  refine z_seti (y := 3) (by decide) ?_
  refine z_sld (j := 3) (x := x3) B hX hbl hbA (by decide) (show ¬ ((3 : Int32) < 0 ∨ 6 ≤ (3 : Int32).toNatClampNeg) by decide) h_x3 dL_law_203 ?_
  refine z_aload_n B dL_law_204 rfl 5 rfl ?_
  refine z_iload B dL_law_205 1 rfl ?_
  refine z_iconst (v := 4) B dL_law_207 (by decide) ?_
  refine z_iadd B dL_law_208 ?_
  refine z_seti (y := 4) (by decide) ?_
  refine z_sld (j := 4) (x := x4) B hX hbl hbA (by decide) (show ¬ ((4 : Int32) < 0 ∨ 6 ≤ (4 : Int32).toNatClampNeg) by decide) h_x4 dL_law_209 ?_
  refine z_aload_n B dL_law_210 rfl 5 rfl ?_
  refine z_iload B dL_law_211 1 rfl ?_
  refine z_iconst (v := 5) B dL_law_213 (by decide) ?_
  refine z_iadd B dL_law_214 ?_
  refine z_seti (y := 5) (by decide) ?_
  refine z_sld (j := 5) (x := x5) B hX hbl hbA (by decide) (show ¬ ((5 : Int32) < 0 ∨ 6 ≤ (5 : Int32).toNatClampNeg) by decide) h_x5 dL_law_215 ?_
  refine z_cVi (As := [.int 3, .int x2, .int x3, .int x4, .int x5]) (rest := []) B cw_L_79 cx_10 dL_law_216 (ci_X9_set_255 l (σ := (ap b (wx_Z σ z) [] [] [])) (b := b) (lyA (lyZ hK)) x2 x3 x4 x5 q1_x2 q2_x2 q1_x3 q2_x3 q1_x4 q2_x4) (lKA (lKZ (hk_K hK 405 rfl rfl))) rfl (by decide) rfl (Nat.le_of_ble_eq_true rfl) (by decide) (fun r u hu => ?_)
  refine z_eqs (σ' := (ap b (wx_Z σ z) [(405, 0, 2)] [] [])) (hu.2.trans ap_ap) ?_
  show zx p l e _ s m _ below meth c g 8 _ _ _ _ 219 [(5, .int 2), (4, .int 0), (3, .ref (b + 431)), (2, .ref (b + 405)), (1, .ref (b + 0)), (0, .ref bS)] _
  refine z_seti (y := 0) hu.1 ?_
  refine z_istore (lv' := [(6, .int 0), (5, .int 2), (4, .int 0), (3, .ref (b + 431)), (2, .ref (b + 405)), (1, .ref (b + 0)), (0, .ref bS)]) B dL_law_219 (by decide) rfl ?_
  refine z_aload_n B dL_law_221 rfl 4 rfl ?_
  refine z_cVi (As := []) (rest := []) B cw_L_80 cx_10 dL_law_222 (ci_X9_thrown_73 l (σ := (ap b (wx_Z σ z) [(405, 0, 2)] [] [])) (b := b) (lyA (lyZ hK)) (rI_at 405 0 rfl)) (lKA (lKZ (hk_K hK 405 rfl rfl))) rfl (by decide) rfl (Nat.le_of_ble_eq_true rfl) (by decide) (fun r u hu => ?_)
  refine z_eqs (σ' := (ap b (wx_Z σ z) [(405, 0, 2)] [] [])) hu.2 ?_
  show zx p l e _ s m _ below meth c g 8 _ _ _ _ 225 [(6, .int 0), (5, .int 2), (4, .int 0), (3, .ref (b + 431)), (2, .ref (b + 405)), (1, .ref (b + 0)), (0, .ref bS)] _
  refine z_seti (y := 2) hu.1 ?_
  refine z_iload B dL_law_225 1 rfl ?_
  refine z_icmp_eq (tgt := 232) B dL_law_227 (by decide) (fun _ => ?_) (fun h => absurd (by decide) h)
  refine z_iload B dL_law_232 1 rfl ?_
  refine z_if_ne (tgt := 249) B dL_law_234 (by decide) (fun _ => ?_) (fun h => absurd h (by decide))
  refine z_goto (tgt := 1395) B dL_law_249 (by decide) ?_
  exact z_widen (Nat.le_of_ble_eq_true rfl) (Nat.le_of_ble_eq_true rfl) (z_sub _ [2, 6] rfl (kk _))
set_option maxRecDepth 100000 in
set_option maxHeartbeats 4000000 in
theorem lf_0_83 {p : Program} {l : Launch} {e : Env} {s : State} {m : MethodId} {args : Array Value} {below : List Frame} {meth : Method} {c : Code} {g : gx_T} {Q : State → Prop} {σ : sx_T} {b t bS : Nat} {xs : Nat → Int32} (hlt : l.stackTraces = false) (B : zx_B p s m args meth c code RL 8 g) (hX : va_X bS 6 xs s s.heap) (hbl : bS < s.heap.size) (hbA : ¬ gx_b g ≤ bS) (hF : fz_P b t σ) (h_x1 : xs 1 = 3) {x2 : Int32} (h_x2 : xs 2 = x2) (q1_x2 : (0 : Int) ≤ x2.toInt) (q2_x2 : x2.toInt ≤ (19 : Int)) {x3 : Int32} (h_x3 : xs 3 = x3) (q1_x3 : (18 : Int) ≤ x3.toInt) (q2_x3 : x3.toInt ≤ (2147483647 : Int)) {x4 : Int32} (h_x4 : xs 4 = x4) (q1_x4 : (-2147483648 : Int) ≤ x4.toInt) (q2_x4 : x4.toInt ≤ (2147483647 : Int)) {x5 : Int32} (h_x5 : xs 5 = x5) (q1_x5 : (-2147483648 : Int) ≤ x5.toInt) (q2_x5 : x5.toInt ≤ (2147483647 : Int)) (kk : ∀ σ', zx p l e room_1 s m args below meth c g 8 600002 7302232 Q σ' 1395 [(4, .int 0), (0, .ref bS)] []) : zx p l e room_1 s m args below meth c g 8 500 100000 Q σ 148 [(4, .int 0), (3, .ref (b + 431)), (2, .ref (b + 405)), (1, .ref (b + 0)), (0, .ref bS)] [] := by
  have hK := fz_lay hF
  refine z_eqs (σ' := (ap b σ [] [] [])) rfl ?_
  refine z_aload_n B dL_law_148 rfl 3 rfl ?_
  refine z_aload_n B dL_law_149 rfl 4 rfl ?_
  refine z_iload B dL_law_150 0 rfl ?_
  refine z_iconst (v := 1) B dL_law_152 (by decide) ?_
  refine z_iadd B dL_law_153 ?_
  refine z_seti (y := 1) (by decide) ?_
  refine z_sld (j := 1) (x := 3) B hX hbl hbA (by decide) (show ¬ ((1 : Int32) < 0 ∨ 6 ≤ (1 : Int32).toNatClampNeg) by decide) h_x1 dL_law_154 ?_
  refine z_aload_n B dL_law_155 rfl 4 rfl ?_
  refine z_iload B dL_law_156 0 rfl ?_
  refine z_iconst (v := 2) B dL_law_158 (by decide) ?_
  refine z_iadd B dL_law_159 ?_
  refine z_seti (y := 2) (by decide) ?_
  refine z_sld (j := 2) (x := x2) B hX hbl hbA (by decide) (show ¬ ((2 : Int32) < 0 ∨ 6 ≤ (2 : Int32).toNatClampNeg) by decide) h_x2 dL_law_160 ?_
  refine z_aload_n B dL_law_161 rfl 4 rfl ?_
  refine z_iload B dL_law_162 0 rfl ?_
  refine z_iconst (v := 3) B dL_law_164 (by decide) ?_
  refine z_iadd B dL_law_165 ?_
  refine z_seti (y := 3) (by decide) ?_
  refine z_sld (j := 3) (x := x3) B hX hbl hbA (by decide) (show ¬ ((3 : Int32) < 0 ∨ 6 ≤ (3 : Int32).toNatClampNeg) by decide) h_x3 dL_law_166 ?_
  refine z_aload_n B dL_law_167 rfl 4 rfl ?_
  refine z_iload B dL_law_168 0 rfl ?_
  refine z_iconst (v := 4) B dL_law_170 (by decide) ?_
  refine z_iadd B dL_law_171 ?_
  refine z_seti (y := 4) (by decide) ?_
  refine z_sld (j := 4) (x := x4) B hX hbl hbA (by decide) (show ¬ ((4 : Int32) < 0 ∨ 6 ≤ (4 : Int32).toNatClampNeg) by decide) h_x4 dL_law_172 ?_
  refine z_aload_n B dL_law_173 rfl 4 rfl ?_
  refine z_iload B dL_law_174 0 rfl ?_
  refine z_iconst (v := 5) B dL_law_176 (by decide) ?_
  refine z_iadd B dL_law_177 ?_
  refine z_seti (y := 5) (by decide) ?_
  refine z_sld (j := 5) (x := x5) B hX hbl hbA (by decide) (show ¬ ((5 : Int32) < 0 ∨ 6 ≤ (5 : Int32).toNatClampNeg) by decide) h_x5 dL_law_178 ?_
  refine z_aload_n B dL_law_179 rfl 1 rfl ?_
  refine z_cSWi (As := [.ref (b + 0), .int 3, .int x2, .int x3, .int x4, .int x5, .ref (b + 431)]) (rest := []) B cw_L_74 dL_law_180 (ci_L_set_257 l hlt (σ := (ap b σ [] [] [])) (b := b) (lyA hK) x2 x3 x4 x5 q1_x2 q2_x2 q1_x3 q2_x3 (rR_at 0 0 (fz_R hF 0 0 rfl rfl)) (rR_at 1 3 (fz_R hF 1 3 rfl rfl))) rfl (by decide) rfl (Nat.le_of_ble_eq_true rfl) (by decide) (fun r u hu => ?_)
  obtain ⟨hu1, z, hu⟩ := hu
  refine z_eqs (σ' := (ap b (wx_Z σ z) [] [] [])) (hu.trans az_ap) ?_
  show zx p l e _ s m _ below meth c g 8 _ _ _ _ 183 [(4, .int 0), (3, .ref (b + 431)), (2, .ref (b + 405)), (1, .ref (b + 0)), (0, .ref bS)] _
  refine z_seti (y := 2) hu1 ?_
  refine z_istore (lv' := [(5, .int 2), (4, .int 0), (3, .ref (b + 431)), (2, .ref (b + 405)), (1, .ref (b + 0)), (0, .ref bS)]) B dL_law_183 (by decide) rfl ?_
  refine z_aload_n B dL_law_185 rfl 3 rfl ?_
  refine z_aload_n B dL_law_186 rfl 5 rfl ?_
  refine z_iload B dL_law_187 1 rfl ?_
  refine z_iconst (v := 1) B dL_law_189 (by decide) ?_
  refine z_iadd B dL_law_190 ?_
  refine z_seti (y := 1) (by decide) ?_
  refine z_sld (j := 1) (x := 3) B hX hbl hbA (by decide) (show ¬ ((1 : Int32) < 0 ∨ 6 ≤ (1 : Int32).toNatClampNeg) by decide) h_x1 dL_law_191 ?_
  refine z_aload_n B dL_law_192 rfl 5 rfl ?_
  refine z_iload B dL_law_193 1 rfl ?_
  refine z_iconst (v := 2) B dL_law_195 (by decide) ?_
  refine z_iadd B dL_law_196 ?_
  refine z_seti (y := 2) (by decide) ?_
  refine z_sld (j := 2) (x := x2) B hX hbl hbA (by decide) (show ¬ ((2 : Int32) < 0 ∨ 6 ≤ (2 : Int32).toNatClampNeg) by decide) h_x2 dL_law_197 ?_
  refine z_aload_n B dL_law_198 rfl 5 rfl ?_
  refine z_iload B dL_law_199 1 rfl ?_
  refine z_iconst (v := 3) B dL_law_201 (by decide) ?_
  refine z_iadd B dL_law_202 ?_
  refine z_seti (y := 3) (by decide) ?_
  refine z_sld (j := 3) (x := x3) B hX hbl hbA (by decide) (show ¬ ((3 : Int32) < 0 ∨ 6 ≤ (3 : Int32).toNatClampNeg) by decide) h_x3 dL_law_203 ?_
  refine z_aload_n B dL_law_204 rfl 5 rfl ?_
  refine z_iload B dL_law_205 1 rfl ?_
  refine z_iconst (v := 4) B dL_law_207 (by decide) ?_
  refine z_iadd B dL_law_208 ?_
  refine z_seti (y := 4) (by decide) ?_
  refine z_sld (j := 4) (x := x4) B hX hbl hbA (by decide) (show ¬ ((4 : Int32) < 0 ∨ 6 ≤ (4 : Int32).toNatClampNeg) by decide) h_x4 dL_law_209 ?_
  refine z_aload_n B dL_law_210 rfl 5 rfl ?_
  refine z_iload B dL_law_211 1 rfl ?_
  refine z_iconst (v := 5) B dL_law_213 (by decide) ?_
  refine z_iadd B dL_law_214 ?_
  refine z_seti (y := 5) (by decide) ?_
  refine z_sld (j := 5) (x := x5) B hX hbl hbA (by decide) (show ¬ ((5 : Int32) < 0 ∨ 6 ≤ (5 : Int32).toNatClampNeg) by decide) h_x5 dL_law_215 ?_
  refine z_cVi (As := [.int 3, .int x2, .int x3, .int x4, .int x5]) (rest := []) B cw_L_79 cx_10 dL_law_216 (ci_X9_set_258 l (σ := (ap b (wx_Z σ z) [] [] [])) (b := b) (lyA (lyZ hK)) x2 x3 x4 x5 q1_x2 q2_x2 q1_x3 q2_x3) (lKA (lKZ (hk_K hK 405 rfl rfl))) rfl (by decide) rfl (Nat.le_of_ble_eq_true rfl) (by decide) (fun r u hu => ?_)
  refine z_eqs (σ' := (ap b (wx_Z σ z) [(405, 0, 2)] [] [])) (hu.2.trans ap_ap) ?_
  show zx p l e _ s m _ below meth c g 8 _ _ _ _ 219 [(5, .int 2), (4, .int 0), (3, .ref (b + 431)), (2, .ref (b + 405)), (1, .ref (b + 0)), (0, .ref bS)] _
  refine z_seti (y := 0) hu.1 ?_
  refine z_istore (lv' := [(6, .int 0), (5, .int 2), (4, .int 0), (3, .ref (b + 431)), (2, .ref (b + 405)), (1, .ref (b + 0)), (0, .ref bS)]) B dL_law_219 (by decide) rfl ?_
  refine z_aload_n B dL_law_221 rfl 4 rfl ?_
  refine z_cVi (As := []) (rest := []) B cw_L_80 cx_10 dL_law_222 (ci_X9_thrown_73 l (σ := (ap b (wx_Z σ z) [(405, 0, 2)] [] [])) (b := b) (lyA (lyZ hK)) (rI_at 405 0 rfl)) (lKA (lKZ (hk_K hK 405 rfl rfl))) rfl (by decide) rfl (Nat.le_of_ble_eq_true rfl) (by decide) (fun r u hu => ?_)
  refine z_eqs (σ' := (ap b (wx_Z σ z) [(405, 0, 2)] [] [])) hu.2 ?_
  show zx p l e _ s m _ below meth c g 8 _ _ _ _ 225 [(6, .int 0), (5, .int 2), (4, .int 0), (3, .ref (b + 431)), (2, .ref (b + 405)), (1, .ref (b + 0)), (0, .ref bS)] _
  refine z_seti (y := 2) hu.1 ?_
  refine z_iload B dL_law_225 1 rfl ?_
  refine z_icmp_eq (tgt := 232) B dL_law_227 (by decide) (fun _ => ?_) (fun h => absurd (by decide) h)
  refine z_iload B dL_law_232 1 rfl ?_
  refine z_if_ne (tgt := 249) B dL_law_234 (by decide) (fun _ => ?_) (fun h => absurd h (by decide))
  refine z_goto (tgt := 1395) B dL_law_249 (by decide) ?_
  exact z_widen (Nat.le_of_ble_eq_true rfl) (Nat.le_of_ble_eq_true rfl) (z_sub _ [2, 6] rfl (kk _))
set_option maxRecDepth 100000 in
set_option maxHeartbeats 4000000 in
theorem lf_0_84 {p : Program} {l : Launch} {e : Env} {s : State} {m : MethodId} {args : Array Value} {below : List Frame} {meth : Method} {c : Code} {g : gx_T} {Q : State → Prop} {σ : sx_T} {b t bS : Nat} {xs : Nat → Int32} (hlt : l.stackTraces = false) (B : zx_B p s m args meth c code RL 8 g) (hX : va_X bS 6 xs s s.heap) (hbl : bS < s.heap.size) (hbA : ¬ gx_b g ≤ bS) (hF : fz_P b t σ) (h_x1 : xs 1 = 3) {x2 : Int32} (h_x2 : xs 2 = x2) (q1_x2 : (20 : Int) ≤ x2.toInt) (q2_x2 : x2.toInt ≤ (2147483647 : Int)) {x3 : Int32} (h_x3 : xs 3 = x3) (q1_x3 : (-2147483648 : Int) ≤ x3.toInt) (q2_x3 : x3.toInt ≤ (-1 : Int)) {x4 : Int32} (h_x4 : xs 4 = x4) (q1_x4 : (-2147483648 : Int) ≤ x4.toInt) (q2_x4 : x4.toInt ≤ (2147483647 : Int)) {x5 : Int32} (h_x5 : xs 5 = x5) (q1_x5 : (-2147483648 : Int) ≤ x5.toInt) (q2_x5 : x5.toInt ≤ (2147483647 : Int)) (kk : ∀ σ', zx p l e room_1 s m args below meth c g 8 600002 7302232 Q σ' 1395 [(4, .int 0), (0, .ref bS)] []) : zx p l e room_1 s m args below meth c g 8 500 100000 Q σ 148 [(4, .int 0), (3, .ref (b + 431)), (2, .ref (b + 405)), (1, .ref (b + 0)), (0, .ref bS)] [] := by
  have hK := fz_lay hF
  refine z_eqs (σ' := (ap b σ [] [] [])) rfl ?_
  refine z_aload_n B dL_law_148 rfl 3 rfl ?_
  refine z_aload_n B dL_law_149 rfl 4 rfl ?_
  refine z_iload B dL_law_150 0 rfl ?_
  refine z_iconst (v := 1) B dL_law_152 (by decide) ?_
  refine z_iadd B dL_law_153 ?_
  refine z_seti (y := 1) (by decide) ?_
  refine z_sld (j := 1) (x := 3) B hX hbl hbA (by decide) (show ¬ ((1 : Int32) < 0 ∨ 6 ≤ (1 : Int32).toNatClampNeg) by decide) h_x1 dL_law_154 ?_
  refine z_aload_n B dL_law_155 rfl 4 rfl ?_
  refine z_iload B dL_law_156 0 rfl ?_
  refine z_iconst (v := 2) B dL_law_158 (by decide) ?_
  refine z_iadd B dL_law_159 ?_
  refine z_seti (y := 2) (by decide) ?_
  refine z_sld (j := 2) (x := x2) B hX hbl hbA (by decide) (show ¬ ((2 : Int32) < 0 ∨ 6 ≤ (2 : Int32).toNatClampNeg) by decide) h_x2 dL_law_160 ?_
  refine z_aload_n B dL_law_161 rfl 4 rfl ?_
  refine z_iload B dL_law_162 0 rfl ?_
  refine z_iconst (v := 3) B dL_law_164 (by decide) ?_
  refine z_iadd B dL_law_165 ?_
  refine z_seti (y := 3) (by decide) ?_
  refine z_sld (j := 3) (x := x3) B hX hbl hbA (by decide) (show ¬ ((3 : Int32) < 0 ∨ 6 ≤ (3 : Int32).toNatClampNeg) by decide) h_x3 dL_law_166 ?_
  refine z_aload_n B dL_law_167 rfl 4 rfl ?_
  refine z_iload B dL_law_168 0 rfl ?_
  refine z_iconst (v := 4) B dL_law_170 (by decide) ?_
  refine z_iadd B dL_law_171 ?_
  refine z_seti (y := 4) (by decide) ?_
  refine z_sld (j := 4) (x := x4) B hX hbl hbA (by decide) (show ¬ ((4 : Int32) < 0 ∨ 6 ≤ (4 : Int32).toNatClampNeg) by decide) h_x4 dL_law_172 ?_
  refine z_aload_n B dL_law_173 rfl 4 rfl ?_
  refine z_iload B dL_law_174 0 rfl ?_
  refine z_iconst (v := 5) B dL_law_176 (by decide) ?_
  refine z_iadd B dL_law_177 ?_
  refine z_seti (y := 5) (by decide) ?_
  refine z_sld (j := 5) (x := x5) B hX hbl hbA (by decide) (show ¬ ((5 : Int32) < 0 ∨ 6 ≤ (5 : Int32).toNatClampNeg) by decide) h_x5 dL_law_178 ?_
  refine z_aload_n B dL_law_179 rfl 1 rfl ?_
  refine z_cSWi (As := [.ref (b + 0), .int 3, .int x2, .int x3, .int x4, .int x5, .ref (b + 431)]) (rest := []) B cw_L_74 dL_law_180 (ci_L_set_260 l hlt (σ := (ap b σ [] [] [])) (b := b) (lyA hK) x2 x3 x4 x5 q1_x2 q2_x2 (rR_at 0 0 (fz_R hF 0 0 rfl rfl)) (rR_at 1 3 (fz_R hF 1 3 rfl rfl))) rfl (by decide) rfl (Nat.le_of_ble_eq_true rfl) (by decide) (fun r u hu => ?_)
  obtain ⟨hu1, z, hu⟩ := hu
  refine z_eqs (σ' := (ap b (wx_Z σ z) [] [] [])) (hu.trans az_ap) ?_
  show zx p l e _ s m _ below meth c g 8 _ _ _ _ 183 [(4, .int 0), (3, .ref (b + 431)), (2, .ref (b + 405)), (1, .ref (b + 0)), (0, .ref bS)] _
  refine z_seti (y := 1) hu1 ?_
  refine z_istore (lv' := [(5, .int 1), (4, .int 0), (3, .ref (b + 431)), (2, .ref (b + 405)), (1, .ref (b + 0)), (0, .ref bS)]) B dL_law_183 (by decide) rfl ?_
  refine z_aload_n B dL_law_185 rfl 3 rfl ?_
  refine z_aload_n B dL_law_186 rfl 5 rfl ?_
  refine z_iload B dL_law_187 1 rfl ?_
  refine z_iconst (v := 1) B dL_law_189 (by decide) ?_
  refine z_iadd B dL_law_190 ?_
  refine z_seti (y := 1) (by decide) ?_
  refine z_sld (j := 1) (x := 3) B hX hbl hbA (by decide) (show ¬ ((1 : Int32) < 0 ∨ 6 ≤ (1 : Int32).toNatClampNeg) by decide) h_x1 dL_law_191 ?_
  refine z_aload_n B dL_law_192 rfl 5 rfl ?_
  refine z_iload B dL_law_193 1 rfl ?_
  refine z_iconst (v := 2) B dL_law_195 (by decide) ?_
  refine z_iadd B dL_law_196 ?_
  refine z_seti (y := 2) (by decide) ?_
  refine z_sld (j := 2) (x := x2) B hX hbl hbA (by decide) (show ¬ ((2 : Int32) < 0 ∨ 6 ≤ (2 : Int32).toNatClampNeg) by decide) h_x2 dL_law_197 ?_
  refine z_aload_n B dL_law_198 rfl 5 rfl ?_
  refine z_iload B dL_law_199 1 rfl ?_
  refine z_iconst (v := 3) B dL_law_201 (by decide) ?_
  refine z_iadd B dL_law_202 ?_
  refine z_seti (y := 3) (by decide) ?_
  refine z_sld (j := 3) (x := x3) B hX hbl hbA (by decide) (show ¬ ((3 : Int32) < 0 ∨ 6 ≤ (3 : Int32).toNatClampNeg) by decide) h_x3 dL_law_203 ?_
  refine z_aload_n B dL_law_204 rfl 5 rfl ?_
  refine z_iload B dL_law_205 1 rfl ?_
  refine z_iconst (v := 4) B dL_law_207 (by decide) ?_
  refine z_iadd B dL_law_208 ?_
  refine z_seti (y := 4) (by decide) ?_
  refine z_sld (j := 4) (x := x4) B hX hbl hbA (by decide) (show ¬ ((4 : Int32) < 0 ∨ 6 ≤ (4 : Int32).toNatClampNeg) by decide) h_x4 dL_law_209 ?_
  refine z_aload_n B dL_law_210 rfl 5 rfl ?_
  refine z_iload B dL_law_211 1 rfl ?_
  refine z_iconst (v := 5) B dL_law_213 (by decide) ?_
  refine z_iadd B dL_law_214 ?_
  refine z_seti (y := 5) (by decide) ?_
  refine z_sld (j := 5) (x := x5) B hX hbl hbA (by decide) (show ¬ ((5 : Int32) < 0 ∨ 6 ≤ (5 : Int32).toNatClampNeg) by decide) h_x5 dL_law_215 ?_
  refine z_cVi (As := [.int 3, .int x2, .int x3, .int x4, .int x5]) (rest := []) B cw_L_79 cx_10 dL_law_216 (ci_X9_set_262 l (σ := (ap b (wx_Z σ z) [] [] [])) (b := b) (lyA (lyZ hK)) x2 x3 x4 x5 q1_x2 q2_x2 q1_x3 q2_x3) (lKA (lKZ (hk_K hK 405 rfl rfl))) rfl (by decide) rfl (Nat.le_of_ble_eq_true rfl) (by decide) (fun r u hu => ?_)
  refine z_eqs (σ' := (ap b (wx_Z σ z) [(405, 0, 1)] [] [])) (hu.2.trans ap_ap) ?_
  show zx p l e _ s m _ below meth c g 8 _ _ _ _ 219 [(5, .int 1), (4, .int 0), (3, .ref (b + 431)), (2, .ref (b + 405)), (1, .ref (b + 0)), (0, .ref bS)] _
  refine z_seti (y := 0) hu.1 ?_
  refine z_istore (lv' := [(6, .int 0), (5, .int 1), (4, .int 0), (3, .ref (b + 431)), (2, .ref (b + 405)), (1, .ref (b + 0)), (0, .ref bS)]) B dL_law_219 (by decide) rfl ?_
  refine z_aload_n B dL_law_221 rfl 4 rfl ?_
  refine z_cVi (As := []) (rest := []) B cw_L_80 cx_10 dL_law_222 (ci_X9_thrown_31 l (σ := (ap b (wx_Z σ z) [(405, 0, 1)] [] [])) (b := b) (lyA (lyZ hK)) (rI_at 405 0 rfl)) (lKA (lKZ (hk_K hK 405 rfl rfl))) rfl (by decide) rfl (Nat.le_of_ble_eq_true rfl) (by decide) (fun r u hu => ?_)
  refine z_eqs (σ' := (ap b (wx_Z σ z) [(405, 0, 1)] [] [])) hu.2 ?_
  show zx p l e _ s m _ below meth c g 8 _ _ _ _ 225 [(6, .int 0), (5, .int 1), (4, .int 0), (3, .ref (b + 431)), (2, .ref (b + 405)), (1, .ref (b + 0)), (0, .ref bS)] _
  refine z_seti (y := 1) hu.1 ?_
  refine z_iload B dL_law_225 1 rfl ?_
  refine z_icmp_eq (tgt := 232) B dL_law_227 (by decide) (fun _ => ?_) (fun h => absurd (by decide) h)
  refine z_iload B dL_law_232 1 rfl ?_
  refine z_if_ne (tgt := 249) B dL_law_234 (by decide) (fun _ => ?_) (fun h => absurd h (by decide))
  refine z_goto (tgt := 1395) B dL_law_249 (by decide) ?_
  exact z_widen (Nat.le_of_ble_eq_true rfl) (Nat.le_of_ble_eq_true rfl) (z_sub _ [2, 6] rfl (kk _))
set_option maxRecDepth 100000 in
set_option maxHeartbeats 4000000 in
theorem lf_0_85 {p : Program} {l : Launch} {e : Env} {s : State} {m : MethodId} {args : Array Value} {below : List Frame} {meth : Method} {c : Code} {g : gx_T} {Q : State → Prop} {σ : sx_T} {b t bS : Nat} {xs : Nat → Int32} (hlt : l.stackTraces = false) (B : zx_B p s m args meth c code RL 8 g) (hX : va_X bS 6 xs s s.heap) (hbl : bS < s.heap.size) (hbA : ¬ gx_b g ≤ bS) (hF : fz_P b t σ) (h_x1 : xs 1 = 3) {x2 : Int32} (h_x2 : xs 2 = x2) (q1_x2 : (20 : Int) ≤ x2.toInt) (q2_x2 : x2.toInt ≤ (2147483647 : Int)) {x3 : Int32} (h_x3 : xs 3 = x3) (q1_x3 : (0 : Int) ≤ x3.toInt) (q2_x3 : x3.toInt ≤ (17 : Int)) {x4 : Int32} (h_x4 : xs 4 = x4) (q1_x4 : (-2147483648 : Int) ≤ x4.toInt) (q2_x4 : x4.toInt ≤ (-1 : Int)) {x5 : Int32} (h_x5 : xs 5 = x5) (q1_x5 : (-2147483648 : Int) ≤ x5.toInt) (q2_x5 : x5.toInt ≤ (2147483647 : Int)) (kk : ∀ σ', zx p l e room_1 s m args below meth c g 8 600002 7302232 Q σ' 1395 [(4, .int 0), (0, .ref bS)] []) : zx p l e room_1 s m args below meth c g 8 500 100000 Q σ 148 [(4, .int 0), (3, .ref (b + 431)), (2, .ref (b + 405)), (1, .ref (b + 0)), (0, .ref bS)] [] := by
  have hK := fz_lay hF
  refine z_eqs (σ' := (ap b σ [] [] [])) rfl ?_
  refine z_aload_n B dL_law_148 rfl 3 rfl ?_
  refine z_aload_n B dL_law_149 rfl 4 rfl ?_
  refine z_iload B dL_law_150 0 rfl ?_
  refine z_iconst (v := 1) B dL_law_152 (by decide) ?_
  refine z_iadd B dL_law_153 ?_
  refine z_seti (y := 1) (by decide) ?_
  refine z_sld (j := 1) (x := 3) B hX hbl hbA (by decide) (show ¬ ((1 : Int32) < 0 ∨ 6 ≤ (1 : Int32).toNatClampNeg) by decide) h_x1 dL_law_154 ?_
  refine z_aload_n B dL_law_155 rfl 4 rfl ?_
  refine z_iload B dL_law_156 0 rfl ?_
  refine z_iconst (v := 2) B dL_law_158 (by decide) ?_
  refine z_iadd B dL_law_159 ?_
  refine z_seti (y := 2) (by decide) ?_
  refine z_sld (j := 2) (x := x2) B hX hbl hbA (by decide) (show ¬ ((2 : Int32) < 0 ∨ 6 ≤ (2 : Int32).toNatClampNeg) by decide) h_x2 dL_law_160 ?_
  refine z_aload_n B dL_law_161 rfl 4 rfl ?_
  refine z_iload B dL_law_162 0 rfl ?_
  refine z_iconst (v := 3) B dL_law_164 (by decide) ?_
  refine z_iadd B dL_law_165 ?_
  refine z_seti (y := 3) (by decide) ?_
  refine z_sld (j := 3) (x := x3) B hX hbl hbA (by decide) (show ¬ ((3 : Int32) < 0 ∨ 6 ≤ (3 : Int32).toNatClampNeg) by decide) h_x3 dL_law_166 ?_
  refine z_aload_n B dL_law_167 rfl 4 rfl ?_
  refine z_iload B dL_law_168 0 rfl ?_
  refine z_iconst (v := 4) B dL_law_170 (by decide) ?_
  refine z_iadd B dL_law_171 ?_
  refine z_seti (y := 4) (by decide) ?_
  refine z_sld (j := 4) (x := x4) B hX hbl hbA (by decide) (show ¬ ((4 : Int32) < 0 ∨ 6 ≤ (4 : Int32).toNatClampNeg) by decide) h_x4 dL_law_172 ?_
  refine z_aload_n B dL_law_173 rfl 4 rfl ?_
  refine z_iload B dL_law_174 0 rfl ?_
  refine z_iconst (v := 5) B dL_law_176 (by decide) ?_
  refine z_iadd B dL_law_177 ?_
  refine z_seti (y := 5) (by decide) ?_
  refine z_sld (j := 5) (x := x5) B hX hbl hbA (by decide) (show ¬ ((5 : Int32) < 0 ∨ 6 ≤ (5 : Int32).toNatClampNeg) by decide) h_x5 dL_law_178 ?_
  refine z_aload_n B dL_law_179 rfl 1 rfl ?_
  refine z_cSWi (As := [.ref (b + 0), .int 3, .int x2, .int x3, .int x4, .int x5, .ref (b + 431)]) (rest := []) B cw_L_74 dL_law_180 (ci_L_set_260 l hlt (σ := (ap b σ [] [] [])) (b := b) (lyA hK) x2 x3 x4 x5 q1_x2 q2_x2 (rR_at 0 0 (fz_R hF 0 0 rfl rfl)) (rR_at 1 3 (fz_R hF 1 3 rfl rfl))) rfl (by decide) rfl (Nat.le_of_ble_eq_true rfl) (by decide) (fun r u hu => ?_)
  obtain ⟨hu1, z, hu⟩ := hu
  refine z_eqs (σ' := (ap b (wx_Z σ z) [] [] [])) (hu.trans az_ap) ?_
  show zx p l e _ s m _ below meth c g 8 _ _ _ _ 183 [(4, .int 0), (3, .ref (b + 431)), (2, .ref (b + 405)), (1, .ref (b + 0)), (0, .ref bS)] _
  refine z_seti (y := 1) hu1 ?_
  refine z_istore (lv' := [(5, .int 1), (4, .int 0), (3, .ref (b + 431)), (2, .ref (b + 405)), (1, .ref (b + 0)), (0, .ref bS)]) B dL_law_183 (by decide) rfl ?_
  refine z_aload_n B dL_law_185 rfl 3 rfl ?_
  refine z_aload_n B dL_law_186 rfl 5 rfl ?_
  refine z_iload B dL_law_187 1 rfl ?_
  refine z_iconst (v := 1) B dL_law_189 (by decide) ?_
  refine z_iadd B dL_law_190 ?_
  refine z_seti (y := 1) (by decide) ?_
  refine z_sld (j := 1) (x := 3) B hX hbl hbA (by decide) (show ¬ ((1 : Int32) < 0 ∨ 6 ≤ (1 : Int32).toNatClampNeg) by decide) h_x1 dL_law_191 ?_
  refine z_aload_n B dL_law_192 rfl 5 rfl ?_
  refine z_iload B dL_law_193 1 rfl ?_
  refine z_iconst (v := 2) B dL_law_195 (by decide) ?_
  refine z_iadd B dL_law_196 ?_
  refine z_seti (y := 2) (by decide) ?_
  refine z_sld (j := 2) (x := x2) B hX hbl hbA (by decide) (show ¬ ((2 : Int32) < 0 ∨ 6 ≤ (2 : Int32).toNatClampNeg) by decide) h_x2 dL_law_197 ?_
  refine z_aload_n B dL_law_198 rfl 5 rfl ?_
  refine z_iload B dL_law_199 1 rfl ?_
  refine z_iconst (v := 3) B dL_law_201 (by decide) ?_
  refine z_iadd B dL_law_202 ?_
  refine z_seti (y := 3) (by decide) ?_
  refine z_sld (j := 3) (x := x3) B hX hbl hbA (by decide) (show ¬ ((3 : Int32) < 0 ∨ 6 ≤ (3 : Int32).toNatClampNeg) by decide) h_x3 dL_law_203 ?_
  refine z_aload_n B dL_law_204 rfl 5 rfl ?_
  refine z_iload B dL_law_205 1 rfl ?_
  refine z_iconst (v := 4) B dL_law_207 (by decide) ?_
  refine z_iadd B dL_law_208 ?_
  refine z_seti (y := 4) (by decide) ?_
  refine z_sld (j := 4) (x := x4) B hX hbl hbA (by decide) (show ¬ ((4 : Int32) < 0 ∨ 6 ≤ (4 : Int32).toNatClampNeg) by decide) h_x4 dL_law_209 ?_
  refine z_aload_n B dL_law_210 rfl 5 rfl ?_
  refine z_iload B dL_law_211 1 rfl ?_
  refine z_iconst (v := 5) B dL_law_213 (by decide) ?_
  refine z_iadd B dL_law_214 ?_
  refine z_seti (y := 5) (by decide) ?_
  refine z_sld (j := 5) (x := x5) B hX hbl hbA (by decide) (show ¬ ((5 : Int32) < 0 ∨ 6 ≤ (5 : Int32).toNatClampNeg) by decide) h_x5 dL_law_215 ?_
  refine z_cVi (As := [.int 3, .int x2, .int x3, .int x4, .int x5]) (rest := []) B cw_L_79 cx_10 dL_law_216 (ci_X9_set_263 l (σ := (ap b (wx_Z σ z) [] [] [])) (b := b) (lyA (lyZ hK)) x2 x3 x4 x5 q1_x2 q2_x2 q1_x3 q2_x3 q1_x4 q2_x4) (lKA (lKZ (hk_K hK 405 rfl rfl))) rfl (by decide) rfl (Nat.le_of_ble_eq_true rfl) (by decide) (fun r u hu => ?_)
  refine z_eqs (σ' := (ap b (wx_Z σ z) [(405, 0, 1)] [] [])) (hu.2.trans ap_ap) ?_
  show zx p l e _ s m _ below meth c g 8 _ _ _ _ 219 [(5, .int 1), (4, .int 0), (3, .ref (b + 431)), (2, .ref (b + 405)), (1, .ref (b + 0)), (0, .ref bS)] _
  refine z_seti (y := 0) hu.1 ?_
  refine z_istore (lv' := [(6, .int 0), (5, .int 1), (4, .int 0), (3, .ref (b + 431)), (2, .ref (b + 405)), (1, .ref (b + 0)), (0, .ref bS)]) B dL_law_219 (by decide) rfl ?_
  refine z_aload_n B dL_law_221 rfl 4 rfl ?_
  refine z_cVi (As := []) (rest := []) B cw_L_80 cx_10 dL_law_222 (ci_X9_thrown_31 l (σ := (ap b (wx_Z σ z) [(405, 0, 1)] [] [])) (b := b) (lyA (lyZ hK)) (rI_at 405 0 rfl)) (lKA (lKZ (hk_K hK 405 rfl rfl))) rfl (by decide) rfl (Nat.le_of_ble_eq_true rfl) (by decide) (fun r u hu => ?_)
  refine z_eqs (σ' := (ap b (wx_Z σ z) [(405, 0, 1)] [] [])) hu.2 ?_
  show zx p l e _ s m _ below meth c g 8 _ _ _ _ 225 [(6, .int 0), (5, .int 1), (4, .int 0), (3, .ref (b + 431)), (2, .ref (b + 405)), (1, .ref (b + 0)), (0, .ref bS)] _
  refine z_seti (y := 1) hu.1 ?_
  refine z_iload B dL_law_225 1 rfl ?_
  refine z_icmp_eq (tgt := 232) B dL_law_227 (by decide) (fun _ => ?_) (fun h => absurd (by decide) h)
  refine z_iload B dL_law_232 1 rfl ?_
  refine z_if_ne (tgt := 249) B dL_law_234 (by decide) (fun _ => ?_) (fun h => absurd h (by decide))
  refine z_goto (tgt := 1395) B dL_law_249 (by decide) ?_
  exact z_widen (Nat.le_of_ble_eq_true rfl) (Nat.le_of_ble_eq_true rfl) (z_sub _ [2, 6] rfl (kk _))
set_option maxRecDepth 100000 in
set_option maxHeartbeats 4000000 in
theorem lf_0_86 {p : Program} {l : Launch} {e : Env} {s : State} {m : MethodId} {args : Array Value} {below : List Frame} {meth : Method} {c : Code} {g : gx_T} {Q : State → Prop} {σ : sx_T} {b t bS : Nat} {xs : Nat → Int32} (hlt : l.stackTraces = false) (B : zx_B p s m args meth c code RL 8 g) (hX : va_X bS 6 xs s s.heap) (hbl : bS < s.heap.size) (hbA : ¬ gx_b g ≤ bS) (hF : fz_P b t σ) (h_x1 : xs 1 = 3) {x2 : Int32} (h_x2 : xs 2 = x2) (q1_x2 : (20 : Int) ≤ x2.toInt) (q2_x2 : x2.toInt ≤ (2147483647 : Int)) {x3 : Int32} (h_x3 : xs 3 = x3) (q1_x3 : (0 : Int) ≤ x3.toInt) (q2_x3 : x3.toInt ≤ (17 : Int)) {x4 : Int32} (h_x4 : xs 4 = x4) (q1_x4 : (0 : Int) ≤ x4.toInt) (q2_x4 : x4.toInt ≤ (99 : Int)) {x5 : Int32} (h_x5 : xs 5 = x5) (q1_x5 : (-2147483648 : Int) ≤ x5.toInt) (q2_x5 : x5.toInt ≤ (-1 : Int)) (kk : ∀ σ', zx p l e room_1 s m args below meth c g 8 600002 7302232 Q σ' 1395 [(4, .int 0), (0, .ref bS)] []) : zx p l e room_1 s m args below meth c g 8 500 100000 Q σ 148 [(4, .int 0), (3, .ref (b + 431)), (2, .ref (b + 405)), (1, .ref (b + 0)), (0, .ref bS)] [] := by
  have hK := fz_lay hF
  refine z_eqs (σ' := (ap b σ [] [] [])) rfl ?_
  refine z_aload_n B dL_law_148 rfl 3 rfl ?_
  refine z_aload_n B dL_law_149 rfl 4 rfl ?_
  refine z_iload B dL_law_150 0 rfl ?_
  refine z_iconst (v := 1) B dL_law_152 (by decide) ?_
  refine z_iadd B dL_law_153 ?_
  refine z_seti (y := 1) (by decide) ?_
  refine z_sld (j := 1) (x := 3) B hX hbl hbA (by decide) (show ¬ ((1 : Int32) < 0 ∨ 6 ≤ (1 : Int32).toNatClampNeg) by decide) h_x1 dL_law_154 ?_
  refine z_aload_n B dL_law_155 rfl 4 rfl ?_
  refine z_iload B dL_law_156 0 rfl ?_
  refine z_iconst (v := 2) B dL_law_158 (by decide) ?_
  refine z_iadd B dL_law_159 ?_
  refine z_seti (y := 2) (by decide) ?_
  refine z_sld (j := 2) (x := x2) B hX hbl hbA (by decide) (show ¬ ((2 : Int32) < 0 ∨ 6 ≤ (2 : Int32).toNatClampNeg) by decide) h_x2 dL_law_160 ?_
  refine z_aload_n B dL_law_161 rfl 4 rfl ?_
  refine z_iload B dL_law_162 0 rfl ?_
  refine z_iconst (v := 3) B dL_law_164 (by decide) ?_
  refine z_iadd B dL_law_165 ?_
  refine z_seti (y := 3) (by decide) ?_
  refine z_sld (j := 3) (x := x3) B hX hbl hbA (by decide) (show ¬ ((3 : Int32) < 0 ∨ 6 ≤ (3 : Int32).toNatClampNeg) by decide) h_x3 dL_law_166 ?_
  refine z_aload_n B dL_law_167 rfl 4 rfl ?_
  refine z_iload B dL_law_168 0 rfl ?_
  refine z_iconst (v := 4) B dL_law_170 (by decide) ?_
  refine z_iadd B dL_law_171 ?_
  refine z_seti (y := 4) (by decide) ?_
  refine z_sld (j := 4) (x := x4) B hX hbl hbA (by decide) (show ¬ ((4 : Int32) < 0 ∨ 6 ≤ (4 : Int32).toNatClampNeg) by decide) h_x4 dL_law_172 ?_
  refine z_aload_n B dL_law_173 rfl 4 rfl ?_
  refine z_iload B dL_law_174 0 rfl ?_
  refine z_iconst (v := 5) B dL_law_176 (by decide) ?_
  refine z_iadd B dL_law_177 ?_
  refine z_seti (y := 5) (by decide) ?_
  refine z_sld (j := 5) (x := x5) B hX hbl hbA (by decide) (show ¬ ((5 : Int32) < 0 ∨ 6 ≤ (5 : Int32).toNatClampNeg) by decide) h_x5 dL_law_178 ?_
  refine z_aload_n B dL_law_179 rfl 1 rfl ?_
  refine z_cSWi (As := [.ref (b + 0), .int 3, .int x2, .int x3, .int x4, .int x5, .ref (b + 431)]) (rest := []) B cw_L_74 dL_law_180 (ci_L_set_260 l hlt (σ := (ap b σ [] [] [])) (b := b) (lyA hK) x2 x3 x4 x5 q1_x2 q2_x2 (rR_at 0 0 (fz_R hF 0 0 rfl rfl)) (rR_at 1 3 (fz_R hF 1 3 rfl rfl))) rfl (by decide) rfl (Nat.le_of_ble_eq_true rfl) (by decide) (fun r u hu => ?_)
  obtain ⟨hu1, z, hu⟩ := hu
  refine z_eqs (σ' := (ap b (wx_Z σ z) [] [] [])) (hu.trans az_ap) ?_
  show zx p l e _ s m _ below meth c g 8 _ _ _ _ 183 [(4, .int 0), (3, .ref (b + 431)), (2, .ref (b + 405)), (1, .ref (b + 0)), (0, .ref bS)] _
  refine z_seti (y := 1) hu1 ?_
  refine z_istore (lv' := [(5, .int 1), (4, .int 0), (3, .ref (b + 431)), (2, .ref (b + 405)), (1, .ref (b + 0)), (0, .ref bS)]) B dL_law_183 (by decide) rfl ?_
  refine z_aload_n B dL_law_185 rfl 3 rfl ?_
  refine z_aload_n B dL_law_186 rfl 5 rfl ?_
  refine z_iload B dL_law_187 1 rfl ?_
  refine z_iconst (v := 1) B dL_law_189 (by decide) ?_
  refine z_iadd B dL_law_190 ?_
  refine z_seti (y := 1) (by decide) ?_
  refine z_sld (j := 1) (x := 3) B hX hbl hbA (by decide) (show ¬ ((1 : Int32) < 0 ∨ 6 ≤ (1 : Int32).toNatClampNeg) by decide) h_x1 dL_law_191 ?_
  refine z_aload_n B dL_law_192 rfl 5 rfl ?_
  refine z_iload B dL_law_193 1 rfl ?_
  refine z_iconst (v := 2) B dL_law_195 (by decide) ?_
  refine z_iadd B dL_law_196 ?_
  refine z_seti (y := 2) (by decide) ?_
  refine z_sld (j := 2) (x := x2) B hX hbl hbA (by decide) (show ¬ ((2 : Int32) < 0 ∨ 6 ≤ (2 : Int32).toNatClampNeg) by decide) h_x2 dL_law_197 ?_
  refine z_aload_n B dL_law_198 rfl 5 rfl ?_
  refine z_iload B dL_law_199 1 rfl ?_
  refine z_iconst (v := 3) B dL_law_201 (by decide) ?_
  refine z_iadd B dL_law_202 ?_
  refine z_seti (y := 3) (by decide) ?_
  refine z_sld (j := 3) (x := x3) B hX hbl hbA (by decide) (show ¬ ((3 : Int32) < 0 ∨ 6 ≤ (3 : Int32).toNatClampNeg) by decide) h_x3 dL_law_203 ?_
  refine z_aload_n B dL_law_204 rfl 5 rfl ?_
  refine z_iload B dL_law_205 1 rfl ?_
  refine z_iconst (v := 4) B dL_law_207 (by decide) ?_
  refine z_iadd B dL_law_208 ?_
  refine z_seti (y := 4) (by decide) ?_
  refine z_sld (j := 4) (x := x4) B hX hbl hbA (by decide) (show ¬ ((4 : Int32) < 0 ∨ 6 ≤ (4 : Int32).toNatClampNeg) by decide) h_x4 dL_law_209 ?_
  refine z_aload_n B dL_law_210 rfl 5 rfl ?_
  refine z_iload B dL_law_211 1 rfl ?_
  refine z_iconst (v := 5) B dL_law_213 (by decide) ?_
  refine z_iadd B dL_law_214 ?_
  refine z_seti (y := 5) (by decide) ?_
  refine z_sld (j := 5) (x := x5) B hX hbl hbA (by decide) (show ¬ ((5 : Int32) < 0 ∨ 6 ≤ (5 : Int32).toNatClampNeg) by decide) h_x5 dL_law_215 ?_
  refine z_cVi (As := [.int 3, .int x2, .int x3, .int x4, .int x5]) (rest := []) B cw_L_79 cx_10 dL_law_216 (ci_X9_set_264 l (σ := (ap b (wx_Z σ z) [] [] [])) (b := b) (lyA (lyZ hK)) x2 x3 x4 x5 q1_x2 q2_x2 q1_x3 q2_x3 q1_x4 q2_x4 q1_x5 q2_x5) (lKA (lKZ (hk_K hK 405 rfl rfl))) rfl (by decide) rfl (Nat.le_of_ble_eq_true rfl) (by decide) (fun r u hu => ?_)
  refine z_eqs (σ' := (ap b (wx_Z σ z) [(405, 0, 1)] [] [])) (hu.2.trans ap_ap) ?_
  show zx p l e _ s m _ below meth c g 8 _ _ _ _ 219 [(5, .int 1), (4, .int 0), (3, .ref (b + 431)), (2, .ref (b + 405)), (1, .ref (b + 0)), (0, .ref bS)] _
  refine z_seti (y := 0) hu.1 ?_
  refine z_istore (lv' := [(6, .int 0), (5, .int 1), (4, .int 0), (3, .ref (b + 431)), (2, .ref (b + 405)), (1, .ref (b + 0)), (0, .ref bS)]) B dL_law_219 (by decide) rfl ?_
  refine z_aload_n B dL_law_221 rfl 4 rfl ?_
  refine z_cVi (As := []) (rest := []) B cw_L_80 cx_10 dL_law_222 (ci_X9_thrown_31 l (σ := (ap b (wx_Z σ z) [(405, 0, 1)] [] [])) (b := b) (lyA (lyZ hK)) (rI_at 405 0 rfl)) (lKA (lKZ (hk_K hK 405 rfl rfl))) rfl (by decide) rfl (Nat.le_of_ble_eq_true rfl) (by decide) (fun r u hu => ?_)
  refine z_eqs (σ' := (ap b (wx_Z σ z) [(405, 0, 1)] [] [])) hu.2 ?_
  show zx p l e _ s m _ below meth c g 8 _ _ _ _ 225 [(6, .int 0), (5, .int 1), (4, .int 0), (3, .ref (b + 431)), (2, .ref (b + 405)), (1, .ref (b + 0)), (0, .ref bS)] _
  refine z_seti (y := 1) hu.1 ?_
  refine z_iload B dL_law_225 1 rfl ?_
  refine z_icmp_eq (tgt := 232) B dL_law_227 (by decide) (fun _ => ?_) (fun h => absurd (by decide) h)
  refine z_iload B dL_law_232 1 rfl ?_
  refine z_if_ne (tgt := 249) B dL_law_234 (by decide) (fun _ => ?_) (fun h => absurd h (by decide))
  refine z_goto (tgt := 1395) B dL_law_249 (by decide) ?_
  exact z_widen (Nat.le_of_ble_eq_true rfl) (Nat.le_of_ble_eq_true rfl) (z_sub _ [2, 6] rfl (kk _))
set_option maxRecDepth 100000 in
set_option maxHeartbeats 4000000 in
theorem lf_0_87 {p : Program} {l : Launch} {e : Env} {s : State} {m : MethodId} {args : Array Value} {below : List Frame} {meth : Method} {c : Code} {g : gx_T} {Q : State → Prop} {σ : sx_T} {b t bS : Nat} {xs : Nat → Int32} (hlt : l.stackTraces = false) (B : zx_B p s m args meth c code RL 8 g) (hX : va_X bS 6 xs s s.heap) (hbl : bS < s.heap.size) (hbA : ¬ gx_b g ≤ bS) (hF : fz_P b t σ) (h_x1 : xs 1 = 3) {x2 : Int32} (h_x2 : xs 2 = x2) (q1_x2 : (20 : Int) ≤ x2.toInt) (q2_x2 : x2.toInt ≤ (2147483647 : Int)) {x3 : Int32} (h_x3 : xs 3 = x3) (q1_x3 : (0 : Int) ≤ x3.toInt) (q2_x3 : x3.toInt ≤ (17 : Int)) {x4 : Int32} (h_x4 : xs 4 = x4) (q1_x4 : (0 : Int) ≤ x4.toInt) (q2_x4 : x4.toInt ≤ (99 : Int)) {x5 : Int32} (h_x5 : xs 5 = x5) (q1_x5 : (0 : Int) ≤ x5.toInt) (q2_x5 : x5.toInt ≤ (99 : Int)) (kk : ∀ σ', zx p l e room_1 s m args below meth c g 8 600002 7302232 Q σ' 1395 [(4, .int 0), (0, .ref bS)] []) : zx p l e room_1 s m args below meth c g 8 500 100000 Q σ 148 [(4, .int 0), (3, .ref (b + 431)), (2, .ref (b + 405)), (1, .ref (b + 0)), (0, .ref bS)] [] := by
  have hK := fz_lay hF
  refine z_eqs (σ' := (ap b σ [] [] [])) rfl ?_
  refine z_aload_n B dL_law_148 rfl 3 rfl ?_
  refine z_aload_n B dL_law_149 rfl 4 rfl ?_
  refine z_iload B dL_law_150 0 rfl ?_
  refine z_iconst (v := 1) B dL_law_152 (by decide) ?_
  refine z_iadd B dL_law_153 ?_
  refine z_seti (y := 1) (by decide) ?_
  refine z_sld (j := 1) (x := 3) B hX hbl hbA (by decide) (show ¬ ((1 : Int32) < 0 ∨ 6 ≤ (1 : Int32).toNatClampNeg) by decide) h_x1 dL_law_154 ?_
  refine z_aload_n B dL_law_155 rfl 4 rfl ?_
  refine z_iload B dL_law_156 0 rfl ?_
  refine z_iconst (v := 2) B dL_law_158 (by decide) ?_
  refine z_iadd B dL_law_159 ?_
  refine z_seti (y := 2) (by decide) ?_
  refine z_sld (j := 2) (x := x2) B hX hbl hbA (by decide) (show ¬ ((2 : Int32) < 0 ∨ 6 ≤ (2 : Int32).toNatClampNeg) by decide) h_x2 dL_law_160 ?_
  refine z_aload_n B dL_law_161 rfl 4 rfl ?_
  refine z_iload B dL_law_162 0 rfl ?_
  refine z_iconst (v := 3) B dL_law_164 (by decide) ?_
  refine z_iadd B dL_law_165 ?_
  refine z_seti (y := 3) (by decide) ?_
  refine z_sld (j := 3) (x := x3) B hX hbl hbA (by decide) (show ¬ ((3 : Int32) < 0 ∨ 6 ≤ (3 : Int32).toNatClampNeg) by decide) h_x3 dL_law_166 ?_
  refine z_aload_n B dL_law_167 rfl 4 rfl ?_
  refine z_iload B dL_law_168 0 rfl ?_
  refine z_iconst (v := 4) B dL_law_170 (by decide) ?_
  refine z_iadd B dL_law_171 ?_
  refine z_seti (y := 4) (by decide) ?_
  refine z_sld (j := 4) (x := x4) B hX hbl hbA (by decide) (show ¬ ((4 : Int32) < 0 ∨ 6 ≤ (4 : Int32).toNatClampNeg) by decide) h_x4 dL_law_172 ?_
  refine z_aload_n B dL_law_173 rfl 4 rfl ?_
  refine z_iload B dL_law_174 0 rfl ?_
  refine z_iconst (v := 5) B dL_law_176 (by decide) ?_
  refine z_iadd B dL_law_177 ?_
  refine z_seti (y := 5) (by decide) ?_
  refine z_sld (j := 5) (x := x5) B hX hbl hbA (by decide) (show ¬ ((5 : Int32) < 0 ∨ 6 ≤ (5 : Int32).toNatClampNeg) by decide) h_x5 dL_law_178 ?_
  refine z_aload_n B dL_law_179 rfl 1 rfl ?_
  refine z_cSWi (As := [.ref (b + 0), .int 3, .int x2, .int x3, .int x4, .int x5, .ref (b + 431)]) (rest := []) B cw_L_74 dL_law_180 (ci_L_set_260 l hlt (σ := (ap b σ [] [] [])) (b := b) (lyA hK) x2 x3 x4 x5 q1_x2 q2_x2 (rR_at 0 0 (fz_R hF 0 0 rfl rfl)) (rR_at 1 3 (fz_R hF 1 3 rfl rfl))) rfl (by decide) rfl (Nat.le_of_ble_eq_true rfl) (by decide) (fun r u hu => ?_)
  obtain ⟨hu1, z, hu⟩ := hu
  refine z_eqs (σ' := (ap b (wx_Z σ z) [] [] [])) (hu.trans az_ap) ?_
  show zx p l e _ s m _ below meth c g 8 _ _ _ _ 183 [(4, .int 0), (3, .ref (b + 431)), (2, .ref (b + 405)), (1, .ref (b + 0)), (0, .ref bS)] _
  refine z_seti (y := 1) hu1 ?_
  refine z_istore (lv' := [(5, .int 1), (4, .int 0), (3, .ref (b + 431)), (2, .ref (b + 405)), (1, .ref (b + 0)), (0, .ref bS)]) B dL_law_183 (by decide) rfl ?_
  refine z_aload_n B dL_law_185 rfl 3 rfl ?_
  refine z_aload_n B dL_law_186 rfl 5 rfl ?_
  refine z_iload B dL_law_187 1 rfl ?_
  refine z_iconst (v := 1) B dL_law_189 (by decide) ?_
  refine z_iadd B dL_law_190 ?_
  refine z_seti (y := 1) (by decide) ?_
  refine z_sld (j := 1) (x := 3) B hX hbl hbA (by decide) (show ¬ ((1 : Int32) < 0 ∨ 6 ≤ (1 : Int32).toNatClampNeg) by decide) h_x1 dL_law_191 ?_
  refine z_aload_n B dL_law_192 rfl 5 rfl ?_
  refine z_iload B dL_law_193 1 rfl ?_
  refine z_iconst (v := 2) B dL_law_195 (by decide) ?_
  refine z_iadd B dL_law_196 ?_
  refine z_seti (y := 2) (by decide) ?_
  refine z_sld (j := 2) (x := x2) B hX hbl hbA (by decide) (show ¬ ((2 : Int32) < 0 ∨ 6 ≤ (2 : Int32).toNatClampNeg) by decide) h_x2 dL_law_197 ?_
  refine z_aload_n B dL_law_198 rfl 5 rfl ?_
  refine z_iload B dL_law_199 1 rfl ?_
  refine z_iconst (v := 3) B dL_law_201 (by decide) ?_
  refine z_iadd B dL_law_202 ?_
  refine z_seti (y := 3) (by decide) ?_
  refine z_sld (j := 3) (x := x3) B hX hbl hbA (by decide) (show ¬ ((3 : Int32) < 0 ∨ 6 ≤ (3 : Int32).toNatClampNeg) by decide) h_x3 dL_law_203 ?_
  refine z_aload_n B dL_law_204 rfl 5 rfl ?_
  refine z_iload B dL_law_205 1 rfl ?_
  refine z_iconst (v := 4) B dL_law_207 (by decide) ?_
  refine z_iadd B dL_law_208 ?_
  refine z_seti (y := 4) (by decide) ?_
  refine z_sld (j := 4) (x := x4) B hX hbl hbA (by decide) (show ¬ ((4 : Int32) < 0 ∨ 6 ≤ (4 : Int32).toNatClampNeg) by decide) h_x4 dL_law_209 ?_
  refine z_aload_n B dL_law_210 rfl 5 rfl ?_
  refine z_iload B dL_law_211 1 rfl ?_
  refine z_iconst (v := 5) B dL_law_213 (by decide) ?_
  refine z_iadd B dL_law_214 ?_
  refine z_seti (y := 5) (by decide) ?_
  refine z_sld (j := 5) (x := x5) B hX hbl hbA (by decide) (show ¬ ((5 : Int32) < 0 ∨ 6 ≤ (5 : Int32).toNatClampNeg) by decide) h_x5 dL_law_215 ?_
  refine z_cVi (As := [.int 3, .int x2, .int x3, .int x4, .int x5]) (rest := []) B cw_L_79 cx_10 dL_law_216 (ci_X9_set_265 l (σ := (ap b (wx_Z σ z) [] [] [])) (b := b) (lyA (lyZ hK)) x2 x3 x4 x5 q1_x2 q2_x2 q1_x3 q2_x3 q1_x4 q2_x4 q1_x5 q2_x5) (lKA (lKZ (hk_K hK 405 rfl rfl))) rfl (by decide) rfl (Nat.le_of_ble_eq_true rfl) (by decide) (fun r u hu => ?_)
  refine z_eqs (σ' := (ap b (wx_Z σ z) [(405, 0, 1)] [] [])) (hu.2.trans ap_ap) ?_
  show zx p l e _ s m _ below meth c g 8 _ _ _ _ 219 [(5, .int 1), (4, .int 0), (3, .ref (b + 431)), (2, .ref (b + 405)), (1, .ref (b + 0)), (0, .ref bS)] _
  refine z_seti (y := 0) hu.1 ?_
  refine z_istore (lv' := [(6, .int 0), (5, .int 1), (4, .int 0), (3, .ref (b + 431)), (2, .ref (b + 405)), (1, .ref (b + 0)), (0, .ref bS)]) B dL_law_219 (by decide) rfl ?_
  refine z_aload_n B dL_law_221 rfl 4 rfl ?_
  refine z_cVi (As := []) (rest := []) B cw_L_80 cx_10 dL_law_222 (ci_X9_thrown_31 l (σ := (ap b (wx_Z σ z) [(405, 0, 1)] [] [])) (b := b) (lyA (lyZ hK)) (rI_at 405 0 rfl)) (lKA (lKZ (hk_K hK 405 rfl rfl))) rfl (by decide) rfl (Nat.le_of_ble_eq_true rfl) (by decide) (fun r u hu => ?_)
  refine z_eqs (σ' := (ap b (wx_Z σ z) [(405, 0, 1)] [] [])) hu.2 ?_
  show zx p l e _ s m _ below meth c g 8 _ _ _ _ 225 [(6, .int 0), (5, .int 1), (4, .int 0), (3, .ref (b + 431)), (2, .ref (b + 405)), (1, .ref (b + 0)), (0, .ref bS)] _
  refine z_seti (y := 1) hu.1 ?_
  refine z_iload B dL_law_225 1 rfl ?_
  refine z_icmp_eq (tgt := 232) B dL_law_227 (by decide) (fun _ => ?_) (fun h => absurd (by decide) h)
  refine z_iload B dL_law_232 1 rfl ?_
  refine z_if_ne (tgt := 249) B dL_law_234 (by decide) (fun _ => ?_) (fun h => absurd h (by decide))
  refine z_goto (tgt := 1395) B dL_law_249 (by decide) ?_
  exact z_widen (Nat.le_of_ble_eq_true rfl) (Nat.le_of_ble_eq_true rfl) (z_sub _ [2, 6] rfl (kk _))
set_option maxRecDepth 100000 in
set_option maxHeartbeats 4000000 in
theorem lf_0_88 {p : Program} {l : Launch} {e : Env} {s : State} {m : MethodId} {args : Array Value} {below : List Frame} {meth : Method} {c : Code} {g : gx_T} {Q : State → Prop} {σ : sx_T} {b t bS : Nat} {xs : Nat → Int32} (hlt : l.stackTraces = false) (B : zx_B p s m args meth c code RL 8 g) (hX : va_X bS 6 xs s s.heap) (hbl : bS < s.heap.size) (hbA : ¬ gx_b g ≤ bS) (hF : fz_P b t σ) (h_x1 : xs 1 = 3) {x2 : Int32} (h_x2 : xs 2 = x2) (q1_x2 : (20 : Int) ≤ x2.toInt) (q2_x2 : x2.toInt ≤ (2147483647 : Int)) {x3 : Int32} (h_x3 : xs 3 = x3) (q1_x3 : (0 : Int) ≤ x3.toInt) (q2_x3 : x3.toInt ≤ (17 : Int)) {x4 : Int32} (h_x4 : xs 4 = x4) (q1_x4 : (0 : Int) ≤ x4.toInt) (q2_x4 : x4.toInt ≤ (99 : Int)) {x5 : Int32} (h_x5 : xs 5 = x5) (q1_x5 : (100 : Int) ≤ x5.toInt) (q2_x5 : x5.toInt ≤ (2147483647 : Int)) (kk : ∀ σ', zx p l e room_1 s m args below meth c g 8 600002 7302232 Q σ' 1395 [(4, .int 0), (0, .ref bS)] []) : zx p l e room_1 s m args below meth c g 8 500 100000 Q σ 148 [(4, .int 0), (3, .ref (b + 431)), (2, .ref (b + 405)), (1, .ref (b + 0)), (0, .ref bS)] [] := by
  have hK := fz_lay hF
  refine z_eqs (σ' := (ap b σ [] [] [])) rfl ?_
  refine z_aload_n B dL_law_148 rfl 3 rfl ?_
  refine z_aload_n B dL_law_149 rfl 4 rfl ?_
  refine z_iload B dL_law_150 0 rfl ?_
  refine z_iconst (v := 1) B dL_law_152 (by decide) ?_
  refine z_iadd B dL_law_153 ?_
  refine z_seti (y := 1) (by decide) ?_
  refine z_sld (j := 1) (x := 3) B hX hbl hbA (by decide) (show ¬ ((1 : Int32) < 0 ∨ 6 ≤ (1 : Int32).toNatClampNeg) by decide) h_x1 dL_law_154 ?_
  refine z_aload_n B dL_law_155 rfl 4 rfl ?_
  refine z_iload B dL_law_156 0 rfl ?_
  refine z_iconst (v := 2) B dL_law_158 (by decide) ?_
  refine z_iadd B dL_law_159 ?_
  refine z_seti (y := 2) (by decide) ?_
  refine z_sld (j := 2) (x := x2) B hX hbl hbA (by decide) (show ¬ ((2 : Int32) < 0 ∨ 6 ≤ (2 : Int32).toNatClampNeg) by decide) h_x2 dL_law_160 ?_
  refine z_aload_n B dL_law_161 rfl 4 rfl ?_
  refine z_iload B dL_law_162 0 rfl ?_
  refine z_iconst (v := 3) B dL_law_164 (by decide) ?_
  refine z_iadd B dL_law_165 ?_
  refine z_seti (y := 3) (by decide) ?_
  refine z_sld (j := 3) (x := x3) B hX hbl hbA (by decide) (show ¬ ((3 : Int32) < 0 ∨ 6 ≤ (3 : Int32).toNatClampNeg) by decide) h_x3 dL_law_166 ?_
  refine z_aload_n B dL_law_167 rfl 4 rfl ?_
  refine z_iload B dL_law_168 0 rfl ?_
  refine z_iconst (v := 4) B dL_law_170 (by decide) ?_
  refine z_iadd B dL_law_171 ?_
  refine z_seti (y := 4) (by decide) ?_
  refine z_sld (j := 4) (x := x4) B hX hbl hbA (by decide) (show ¬ ((4 : Int32) < 0 ∨ 6 ≤ (4 : Int32).toNatClampNeg) by decide) h_x4 dL_law_172 ?_
  refine z_aload_n B dL_law_173 rfl 4 rfl ?_
  refine z_iload B dL_law_174 0 rfl ?_
  refine z_iconst (v := 5) B dL_law_176 (by decide) ?_
  refine z_iadd B dL_law_177 ?_
  refine z_seti (y := 5) (by decide) ?_
  refine z_sld (j := 5) (x := x5) B hX hbl hbA (by decide) (show ¬ ((5 : Int32) < 0 ∨ 6 ≤ (5 : Int32).toNatClampNeg) by decide) h_x5 dL_law_178 ?_
  refine z_aload_n B dL_law_179 rfl 1 rfl ?_
  refine z_cSWi (As := [.ref (b + 0), .int 3, .int x2, .int x3, .int x4, .int x5, .ref (b + 431)]) (rest := []) B cw_L_74 dL_law_180 (ci_L_set_260 l hlt (σ := (ap b σ [] [] [])) (b := b) (lyA hK) x2 x3 x4 x5 q1_x2 q2_x2 (rR_at 0 0 (fz_R hF 0 0 rfl rfl)) (rR_at 1 3 (fz_R hF 1 3 rfl rfl))) rfl (by decide) rfl (Nat.le_of_ble_eq_true rfl) (by decide) (fun r u hu => ?_)
  obtain ⟨hu1, z, hu⟩ := hu
  refine z_eqs (σ' := (ap b (wx_Z σ z) [] [] [])) (hu.trans az_ap) ?_
  show zx p l e _ s m _ below meth c g 8 _ _ _ _ 183 [(4, .int 0), (3, .ref (b + 431)), (2, .ref (b + 405)), (1, .ref (b + 0)), (0, .ref bS)] _
  refine z_seti (y := 1) hu1 ?_
  refine z_istore (lv' := [(5, .int 1), (4, .int 0), (3, .ref (b + 431)), (2, .ref (b + 405)), (1, .ref (b + 0)), (0, .ref bS)]) B dL_law_183 (by decide) rfl ?_
  refine z_aload_n B dL_law_185 rfl 3 rfl ?_
  refine z_aload_n B dL_law_186 rfl 5 rfl ?_
  refine z_iload B dL_law_187 1 rfl ?_
  refine z_iconst (v := 1) B dL_law_189 (by decide) ?_
  refine z_iadd B dL_law_190 ?_
  refine z_seti (y := 1) (by decide) ?_
  refine z_sld (j := 1) (x := 3) B hX hbl hbA (by decide) (show ¬ ((1 : Int32) < 0 ∨ 6 ≤ (1 : Int32).toNatClampNeg) by decide) h_x1 dL_law_191 ?_
  refine z_aload_n B dL_law_192 rfl 5 rfl ?_
  refine z_iload B dL_law_193 1 rfl ?_
  refine z_iconst (v := 2) B dL_law_195 (by decide) ?_
  refine z_iadd B dL_law_196 ?_
  refine z_seti (y := 2) (by decide) ?_
  refine z_sld (j := 2) (x := x2) B hX hbl hbA (by decide) (show ¬ ((2 : Int32) < 0 ∨ 6 ≤ (2 : Int32).toNatClampNeg) by decide) h_x2 dL_law_197 ?_
  refine z_aload_n B dL_law_198 rfl 5 rfl ?_
  refine z_iload B dL_law_199 1 rfl ?_
  refine z_iconst (v := 3) B dL_law_201 (by decide) ?_
  refine z_iadd B dL_law_202 ?_
  refine z_seti (y := 3) (by decide) ?_
  refine z_sld (j := 3) (x := x3) B hX hbl hbA (by decide) (show ¬ ((3 : Int32) < 0 ∨ 6 ≤ (3 : Int32).toNatClampNeg) by decide) h_x3 dL_law_203 ?_
  refine z_aload_n B dL_law_204 rfl 5 rfl ?_
  refine z_iload B dL_law_205 1 rfl ?_
  refine z_iconst (v := 4) B dL_law_207 (by decide) ?_
  refine z_iadd B dL_law_208 ?_
  refine z_seti (y := 4) (by decide) ?_
  refine z_sld (j := 4) (x := x4) B hX hbl hbA (by decide) (show ¬ ((4 : Int32) < 0 ∨ 6 ≤ (4 : Int32).toNatClampNeg) by decide) h_x4 dL_law_209 ?_
  refine z_aload_n B dL_law_210 rfl 5 rfl ?_
  refine z_iload B dL_law_211 1 rfl ?_
  refine z_iconst (v := 5) B dL_law_213 (by decide) ?_
  refine z_iadd B dL_law_214 ?_
  refine z_seti (y := 5) (by decide) ?_
  refine z_sld (j := 5) (x := x5) B hX hbl hbA (by decide) (show ¬ ((5 : Int32) < 0 ∨ 6 ≤ (5 : Int32).toNatClampNeg) by decide) h_x5 dL_law_215 ?_
  refine z_cVi (As := [.int 3, .int x2, .int x3, .int x4, .int x5]) (rest := []) B cw_L_79 cx_10 dL_law_216 (ci_X9_set_266 l (σ := (ap b (wx_Z σ z) [] [] [])) (b := b) (lyA (lyZ hK)) x2 x3 x4 x5 q1_x2 q2_x2 q1_x3 q2_x3 q1_x4 q2_x4 q1_x5 q2_x5) (lKA (lKZ (hk_K hK 405 rfl rfl))) rfl (by decide) rfl (Nat.le_of_ble_eq_true rfl) (by decide) (fun r u hu => ?_)
  refine z_eqs (σ' := (ap b (wx_Z σ z) [(405, 0, 1)] [] [])) (hu.2.trans ap_ap) ?_
  show zx p l e _ s m _ below meth c g 8 _ _ _ _ 219 [(5, .int 1), (4, .int 0), (3, .ref (b + 431)), (2, .ref (b + 405)), (1, .ref (b + 0)), (0, .ref bS)] _
  refine z_seti (y := 0) hu.1 ?_
  refine z_istore (lv' := [(6, .int 0), (5, .int 1), (4, .int 0), (3, .ref (b + 431)), (2, .ref (b + 405)), (1, .ref (b + 0)), (0, .ref bS)]) B dL_law_219 (by decide) rfl ?_
  refine z_aload_n B dL_law_221 rfl 4 rfl ?_
  refine z_cVi (As := []) (rest := []) B cw_L_80 cx_10 dL_law_222 (ci_X9_thrown_31 l (σ := (ap b (wx_Z σ z) [(405, 0, 1)] [] [])) (b := b) (lyA (lyZ hK)) (rI_at 405 0 rfl)) (lKA (lKZ (hk_K hK 405 rfl rfl))) rfl (by decide) rfl (Nat.le_of_ble_eq_true rfl) (by decide) (fun r u hu => ?_)
  refine z_eqs (σ' := (ap b (wx_Z σ z) [(405, 0, 1)] [] [])) hu.2 ?_
  show zx p l e _ s m _ below meth c g 8 _ _ _ _ 225 [(6, .int 0), (5, .int 1), (4, .int 0), (3, .ref (b + 431)), (2, .ref (b + 405)), (1, .ref (b + 0)), (0, .ref bS)] _
  refine z_seti (y := 1) hu.1 ?_
  refine z_iload B dL_law_225 1 rfl ?_
  refine z_icmp_eq (tgt := 232) B dL_law_227 (by decide) (fun _ => ?_) (fun h => absurd (by decide) h)
  refine z_iload B dL_law_232 1 rfl ?_
  refine z_if_ne (tgt := 249) B dL_law_234 (by decide) (fun _ => ?_) (fun h => absurd h (by decide))
  refine z_goto (tgt := 1395) B dL_law_249 (by decide) ?_
  exact z_widen (Nat.le_of_ble_eq_true rfl) (Nat.le_of_ble_eq_true rfl) (z_sub _ [2, 6] rfl (kk _))
set_option maxRecDepth 100000 in
set_option maxHeartbeats 4000000 in
theorem lf_0_89 {p : Program} {l : Launch} {e : Env} {s : State} {m : MethodId} {args : Array Value} {below : List Frame} {meth : Method} {c : Code} {g : gx_T} {Q : State → Prop} {σ : sx_T} {b t bS : Nat} {xs : Nat → Int32} (hlt : l.stackTraces = false) (B : zx_B p s m args meth c code RL 8 g) (hX : va_X bS 6 xs s s.heap) (hbl : bS < s.heap.size) (hbA : ¬ gx_b g ≤ bS) (hF : fz_P b t σ) (h_x1 : xs 1 = 3) {x2 : Int32} (h_x2 : xs 2 = x2) (q1_x2 : (20 : Int) ≤ x2.toInt) (q2_x2 : x2.toInt ≤ (2147483647 : Int)) {x3 : Int32} (h_x3 : xs 3 = x3) (q1_x3 : (0 : Int) ≤ x3.toInt) (q2_x3 : x3.toInt ≤ (17 : Int)) {x4 : Int32} (h_x4 : xs 4 = x4) (q1_x4 : (100 : Int) ≤ x4.toInt) (q2_x4 : x4.toInt ≤ (2147483647 : Int)) {x5 : Int32} (h_x5 : xs 5 = x5) (q1_x5 : (-2147483648 : Int) ≤ x5.toInt) (q2_x5 : x5.toInt ≤ (2147483647 : Int)) (kk : ∀ σ', zx p l e room_1 s m args below meth c g 8 600002 7302232 Q σ' 1395 [(4, .int 0), (0, .ref bS)] []) : zx p l e room_1 s m args below meth c g 8 500 100000 Q σ 148 [(4, .int 0), (3, .ref (b + 431)), (2, .ref (b + 405)), (1, .ref (b + 0)), (0, .ref bS)] [] := by
  have hK := fz_lay hF
  refine z_eqs (σ' := (ap b σ [] [] [])) rfl ?_
  refine z_aload_n B dL_law_148 rfl 3 rfl ?_
  refine z_aload_n B dL_law_149 rfl 4 rfl ?_
  refine z_iload B dL_law_150 0 rfl ?_
  refine z_iconst (v := 1) B dL_law_152 (by decide) ?_
  refine z_iadd B dL_law_153 ?_
  refine z_seti (y := 1) (by decide) ?_
  refine z_sld (j := 1) (x := 3) B hX hbl hbA (by decide) (show ¬ ((1 : Int32) < 0 ∨ 6 ≤ (1 : Int32).toNatClampNeg) by decide) h_x1 dL_law_154 ?_
  refine z_aload_n B dL_law_155 rfl 4 rfl ?_
  refine z_iload B dL_law_156 0 rfl ?_
  refine z_iconst (v := 2) B dL_law_158 (by decide) ?_
  refine z_iadd B dL_law_159 ?_
  refine z_seti (y := 2) (by decide) ?_
  refine z_sld (j := 2) (x := x2) B hX hbl hbA (by decide) (show ¬ ((2 : Int32) < 0 ∨ 6 ≤ (2 : Int32).toNatClampNeg) by decide) h_x2 dL_law_160 ?_
  refine z_aload_n B dL_law_161 rfl 4 rfl ?_
  refine z_iload B dL_law_162 0 rfl ?_
  refine z_iconst (v := 3) B dL_law_164 (by decide) ?_
  refine z_iadd B dL_law_165 ?_
  refine z_seti (y := 3) (by decide) ?_
  refine z_sld (j := 3) (x := x3) B hX hbl hbA (by decide) (show ¬ ((3 : Int32) < 0 ∨ 6 ≤ (3 : Int32).toNatClampNeg) by decide) h_x3 dL_law_166 ?_
  refine z_aload_n B dL_law_167 rfl 4 rfl ?_
  refine z_iload B dL_law_168 0 rfl ?_
  refine z_iconst (v := 4) B dL_law_170 (by decide) ?_
  refine z_iadd B dL_law_171 ?_
  refine z_seti (y := 4) (by decide) ?_
  refine z_sld (j := 4) (x := x4) B hX hbl hbA (by decide) (show ¬ ((4 : Int32) < 0 ∨ 6 ≤ (4 : Int32).toNatClampNeg) by decide) h_x4 dL_law_172 ?_
  refine z_aload_n B dL_law_173 rfl 4 rfl ?_
  refine z_iload B dL_law_174 0 rfl ?_
  refine z_iconst (v := 5) B dL_law_176 (by decide) ?_
  refine z_iadd B dL_law_177 ?_
  refine z_seti (y := 5) (by decide) ?_
  refine z_sld (j := 5) (x := x5) B hX hbl hbA (by decide) (show ¬ ((5 : Int32) < 0 ∨ 6 ≤ (5 : Int32).toNatClampNeg) by decide) h_x5 dL_law_178 ?_
  refine z_aload_n B dL_law_179 rfl 1 rfl ?_
  refine z_cSWi (As := [.ref (b + 0), .int 3, .int x2, .int x3, .int x4, .int x5, .ref (b + 431)]) (rest := []) B cw_L_74 dL_law_180 (ci_L_set_260 l hlt (σ := (ap b σ [] [] [])) (b := b) (lyA hK) x2 x3 x4 x5 q1_x2 q2_x2 (rR_at 0 0 (fz_R hF 0 0 rfl rfl)) (rR_at 1 3 (fz_R hF 1 3 rfl rfl))) rfl (by decide) rfl (Nat.le_of_ble_eq_true rfl) (by decide) (fun r u hu => ?_)
  obtain ⟨hu1, z, hu⟩ := hu
  refine z_eqs (σ' := (ap b (wx_Z σ z) [] [] [])) (hu.trans az_ap) ?_
  show zx p l e _ s m _ below meth c g 8 _ _ _ _ 183 [(4, .int 0), (3, .ref (b + 431)), (2, .ref (b + 405)), (1, .ref (b + 0)), (0, .ref bS)] _
  refine z_seti (y := 1) hu1 ?_
  refine z_istore (lv' := [(5, .int 1), (4, .int 0), (3, .ref (b + 431)), (2, .ref (b + 405)), (1, .ref (b + 0)), (0, .ref bS)]) B dL_law_183 (by decide) rfl ?_
  refine z_aload_n B dL_law_185 rfl 3 rfl ?_
  refine z_aload_n B dL_law_186 rfl 5 rfl ?_
  refine z_iload B dL_law_187 1 rfl ?_
  refine z_iconst (v := 1) B dL_law_189 (by decide) ?_
  refine z_iadd B dL_law_190 ?_
  refine z_seti (y := 1) (by decide) ?_
  refine z_sld (j := 1) (x := 3) B hX hbl hbA (by decide) (show ¬ ((1 : Int32) < 0 ∨ 6 ≤ (1 : Int32).toNatClampNeg) by decide) h_x1 dL_law_191 ?_
  refine z_aload_n B dL_law_192 rfl 5 rfl ?_
  refine z_iload B dL_law_193 1 rfl ?_
  refine z_iconst (v := 2) B dL_law_195 (by decide) ?_
  refine z_iadd B dL_law_196 ?_
  refine z_seti (y := 2) (by decide) ?_
  refine z_sld (j := 2) (x := x2) B hX hbl hbA (by decide) (show ¬ ((2 : Int32) < 0 ∨ 6 ≤ (2 : Int32).toNatClampNeg) by decide) h_x2 dL_law_197 ?_
  refine z_aload_n B dL_law_198 rfl 5 rfl ?_
  refine z_iload B dL_law_199 1 rfl ?_
  refine z_iconst (v := 3) B dL_law_201 (by decide) ?_
  refine z_iadd B dL_law_202 ?_
  refine z_seti (y := 3) (by decide) ?_
  refine z_sld (j := 3) (x := x3) B hX hbl hbA (by decide) (show ¬ ((3 : Int32) < 0 ∨ 6 ≤ (3 : Int32).toNatClampNeg) by decide) h_x3 dL_law_203 ?_
  refine z_aload_n B dL_law_204 rfl 5 rfl ?_
  refine z_iload B dL_law_205 1 rfl ?_
  refine z_iconst (v := 4) B dL_law_207 (by decide) ?_
  refine z_iadd B dL_law_208 ?_
  refine z_seti (y := 4) (by decide) ?_
  refine z_sld (j := 4) (x := x4) B hX hbl hbA (by decide) (show ¬ ((4 : Int32) < 0 ∨ 6 ≤ (4 : Int32).toNatClampNeg) by decide) h_x4 dL_law_209 ?_
  refine z_aload_n B dL_law_210 rfl 5 rfl ?_
  refine z_iload B dL_law_211 1 rfl ?_
  refine z_iconst (v := 5) B dL_law_213 (by decide) ?_
  refine z_iadd B dL_law_214 ?_
  refine z_seti (y := 5) (by decide) ?_
  refine z_sld (j := 5) (x := x5) B hX hbl hbA (by decide) (show ¬ ((5 : Int32) < 0 ∨ 6 ≤ (5 : Int32).toNatClampNeg) by decide) h_x5 dL_law_215 ?_
  refine z_cVi (As := [.int 3, .int x2, .int x3, .int x4, .int x5]) (rest := []) B cw_L_79 cx_10 dL_law_216 (ci_X9_set_267 l (σ := (ap b (wx_Z σ z) [] [] [])) (b := b) (lyA (lyZ hK)) x2 x3 x4 x5 q1_x2 q2_x2 q1_x3 q2_x3 q1_x4 q2_x4) (lKA (lKZ (hk_K hK 405 rfl rfl))) rfl (by decide) rfl (Nat.le_of_ble_eq_true rfl) (by decide) (fun r u hu => ?_)
  refine z_eqs (σ' := (ap b (wx_Z σ z) [(405, 0, 1)] [] [])) (hu.2.trans ap_ap) ?_
  show zx p l e _ s m _ below meth c g 8 _ _ _ _ 219 [(5, .int 1), (4, .int 0), (3, .ref (b + 431)), (2, .ref (b + 405)), (1, .ref (b + 0)), (0, .ref bS)] _
  refine z_seti (y := 0) hu.1 ?_
  refine z_istore (lv' := [(6, .int 0), (5, .int 1), (4, .int 0), (3, .ref (b + 431)), (2, .ref (b + 405)), (1, .ref (b + 0)), (0, .ref bS)]) B dL_law_219 (by decide) rfl ?_
  refine z_aload_n B dL_law_221 rfl 4 rfl ?_
  refine z_cVi (As := []) (rest := []) B cw_L_80 cx_10 dL_law_222 (ci_X9_thrown_31 l (σ := (ap b (wx_Z σ z) [(405, 0, 1)] [] [])) (b := b) (lyA (lyZ hK)) (rI_at 405 0 rfl)) (lKA (lKZ (hk_K hK 405 rfl rfl))) rfl (by decide) rfl (Nat.le_of_ble_eq_true rfl) (by decide) (fun r u hu => ?_)
  refine z_eqs (σ' := (ap b (wx_Z σ z) [(405, 0, 1)] [] [])) hu.2 ?_
  show zx p l e _ s m _ below meth c g 8 _ _ _ _ 225 [(6, .int 0), (5, .int 1), (4, .int 0), (3, .ref (b + 431)), (2, .ref (b + 405)), (1, .ref (b + 0)), (0, .ref bS)] _
  refine z_seti (y := 1) hu.1 ?_
  refine z_iload B dL_law_225 1 rfl ?_
  refine z_icmp_eq (tgt := 232) B dL_law_227 (by decide) (fun _ => ?_) (fun h => absurd (by decide) h)
  refine z_iload B dL_law_232 1 rfl ?_
  refine z_if_ne (tgt := 249) B dL_law_234 (by decide) (fun _ => ?_) (fun h => absurd h (by decide))
  refine z_goto (tgt := 1395) B dL_law_249 (by decide) ?_
  exact z_widen (Nat.le_of_ble_eq_true rfl) (Nat.le_of_ble_eq_true rfl) (z_sub _ [2, 6] rfl (kk _))
set_option maxRecDepth 100000 in
set_option maxHeartbeats 4000000 in
theorem lf_0_90 {p : Program} {l : Launch} {e : Env} {s : State} {m : MethodId} {args : Array Value} {below : List Frame} {meth : Method} {c : Code} {g : gx_T} {Q : State → Prop} {σ : sx_T} {b t bS : Nat} {xs : Nat → Int32} (hlt : l.stackTraces = false) (B : zx_B p s m args meth c code RL 8 g) (hX : va_X bS 6 xs s s.heap) (hbl : bS < s.heap.size) (hbA : ¬ gx_b g ≤ bS) (hF : fz_P b t σ) (h_x1 : xs 1 = 3) {x2 : Int32} (h_x2 : xs 2 = x2) (q1_x2 : (20 : Int) ≤ x2.toInt) (q2_x2 : x2.toInt ≤ (2147483647 : Int)) {x3 : Int32} (h_x3 : xs 3 = x3) (q1_x3 : (18 : Int) ≤ x3.toInt) (q2_x3 : x3.toInt ≤ (2147483647 : Int)) {x4 : Int32} (h_x4 : xs 4 = x4) (q1_x4 : (-2147483648 : Int) ≤ x4.toInt) (q2_x4 : x4.toInt ≤ (2147483647 : Int)) {x5 : Int32} (h_x5 : xs 5 = x5) (q1_x5 : (-2147483648 : Int) ≤ x5.toInt) (q2_x5 : x5.toInt ≤ (2147483647 : Int)) (kk : ∀ σ', zx p l e room_1 s m args below meth c g 8 600002 7302232 Q σ' 1395 [(4, .int 0), (0, .ref bS)] []) : zx p l e room_1 s m args below meth c g 8 500 100000 Q σ 148 [(4, .int 0), (3, .ref (b + 431)), (2, .ref (b + 405)), (1, .ref (b + 0)), (0, .ref bS)] [] := by
  have hK := fz_lay hF
  refine z_eqs (σ' := (ap b σ [] [] [])) rfl ?_
  refine z_aload_n B dL_law_148 rfl 3 rfl ?_
  refine z_aload_n B dL_law_149 rfl 4 rfl ?_
  refine z_iload B dL_law_150 0 rfl ?_
  refine z_iconst (v := 1) B dL_law_152 (by decide) ?_
  refine z_iadd B dL_law_153 ?_
  refine z_seti (y := 1) (by decide) ?_
  refine z_sld (j := 1) (x := 3) B hX hbl hbA (by decide) (show ¬ ((1 : Int32) < 0 ∨ 6 ≤ (1 : Int32).toNatClampNeg) by decide) h_x1 dL_law_154 ?_
  refine z_aload_n B dL_law_155 rfl 4 rfl ?_
  refine z_iload B dL_law_156 0 rfl ?_
  refine z_iconst (v := 2) B dL_law_158 (by decide) ?_
  refine z_iadd B dL_law_159 ?_
  refine z_seti (y := 2) (by decide) ?_
  refine z_sld (j := 2) (x := x2) B hX hbl hbA (by decide) (show ¬ ((2 : Int32) < 0 ∨ 6 ≤ (2 : Int32).toNatClampNeg) by decide) h_x2 dL_law_160 ?_
  refine z_aload_n B dL_law_161 rfl 4 rfl ?_
  refine z_iload B dL_law_162 0 rfl ?_
  refine z_iconst (v := 3) B dL_law_164 (by decide) ?_
  refine z_iadd B dL_law_165 ?_
  refine z_seti (y := 3) (by decide) ?_
  refine z_sld (j := 3) (x := x3) B hX hbl hbA (by decide) (show ¬ ((3 : Int32) < 0 ∨ 6 ≤ (3 : Int32).toNatClampNeg) by decide) h_x3 dL_law_166 ?_
  refine z_aload_n B dL_law_167 rfl 4 rfl ?_
  refine z_iload B dL_law_168 0 rfl ?_
  refine z_iconst (v := 4) B dL_law_170 (by decide) ?_
  refine z_iadd B dL_law_171 ?_
  refine z_seti (y := 4) (by decide) ?_
  refine z_sld (j := 4) (x := x4) B hX hbl hbA (by decide) (show ¬ ((4 : Int32) < 0 ∨ 6 ≤ (4 : Int32).toNatClampNeg) by decide) h_x4 dL_law_172 ?_
  refine z_aload_n B dL_law_173 rfl 4 rfl ?_
  refine z_iload B dL_law_174 0 rfl ?_
  refine z_iconst (v := 5) B dL_law_176 (by decide) ?_
  refine z_iadd B dL_law_177 ?_
  refine z_seti (y := 5) (by decide) ?_
  refine z_sld (j := 5) (x := x5) B hX hbl hbA (by decide) (show ¬ ((5 : Int32) < 0 ∨ 6 ≤ (5 : Int32).toNatClampNeg) by decide) h_x5 dL_law_178 ?_
  refine z_aload_n B dL_law_179 rfl 1 rfl ?_
  refine z_cSWi (As := [.ref (b + 0), .int 3, .int x2, .int x3, .int x4, .int x5, .ref (b + 431)]) (rest := []) B cw_L_74 dL_law_180 (ci_L_set_260 l hlt (σ := (ap b σ [] [] [])) (b := b) (lyA hK) x2 x3 x4 x5 q1_x2 q2_x2 (rR_at 0 0 (fz_R hF 0 0 rfl rfl)) (rR_at 1 3 (fz_R hF 1 3 rfl rfl))) rfl (by decide) rfl (Nat.le_of_ble_eq_true rfl) (by decide) (fun r u hu => ?_)
  obtain ⟨hu1, z, hu⟩ := hu
  refine z_eqs (σ' := (ap b (wx_Z σ z) [] [] [])) (hu.trans az_ap) ?_
  show zx p l e _ s m _ below meth c g 8 _ _ _ _ 183 [(4, .int 0), (3, .ref (b + 431)), (2, .ref (b + 405)), (1, .ref (b + 0)), (0, .ref bS)] _
  refine z_seti (y := 1) hu1 ?_
  refine z_istore (lv' := [(5, .int 1), (4, .int 0), (3, .ref (b + 431)), (2, .ref (b + 405)), (1, .ref (b + 0)), (0, .ref bS)]) B dL_law_183 (by decide) rfl ?_
  refine z_aload_n B dL_law_185 rfl 3 rfl ?_
  refine z_aload_n B dL_law_186 rfl 5 rfl ?_
  refine z_iload B dL_law_187 1 rfl ?_
  refine z_iconst (v := 1) B dL_law_189 (by decide) ?_
  refine z_iadd B dL_law_190 ?_
  refine z_seti (y := 1) (by decide) ?_
  refine z_sld (j := 1) (x := 3) B hX hbl hbA (by decide) (show ¬ ((1 : Int32) < 0 ∨ 6 ≤ (1 : Int32).toNatClampNeg) by decide) h_x1 dL_law_191 ?_
  refine z_aload_n B dL_law_192 rfl 5 rfl ?_
  refine z_iload B dL_law_193 1 rfl ?_
  refine z_iconst (v := 2) B dL_law_195 (by decide) ?_
  refine z_iadd B dL_law_196 ?_
  refine z_seti (y := 2) (by decide) ?_
  refine z_sld (j := 2) (x := x2) B hX hbl hbA (by decide) (show ¬ ((2 : Int32) < 0 ∨ 6 ≤ (2 : Int32).toNatClampNeg) by decide) h_x2 dL_law_197 ?_
  refine z_aload_n B dL_law_198 rfl 5 rfl ?_
  refine z_iload B dL_law_199 1 rfl ?_
  refine z_iconst (v := 3) B dL_law_201 (by decide) ?_
  refine z_iadd B dL_law_202 ?_
  refine z_seti (y := 3) (by decide) ?_
  refine z_sld (j := 3) (x := x3) B hX hbl hbA (by decide) (show ¬ ((3 : Int32) < 0 ∨ 6 ≤ (3 : Int32).toNatClampNeg) by decide) h_x3 dL_law_203 ?_
  refine z_aload_n B dL_law_204 rfl 5 rfl ?_
  refine z_iload B dL_law_205 1 rfl ?_
  refine z_iconst (v := 4) B dL_law_207 (by decide) ?_
  refine z_iadd B dL_law_208 ?_
  refine z_seti (y := 4) (by decide) ?_
  refine z_sld (j := 4) (x := x4) B hX hbl hbA (by decide) (show ¬ ((4 : Int32) < 0 ∨ 6 ≤ (4 : Int32).toNatClampNeg) by decide) h_x4 dL_law_209 ?_
  refine z_aload_n B dL_law_210 rfl 5 rfl ?_
  refine z_iload B dL_law_211 1 rfl ?_
  refine z_iconst (v := 5) B dL_law_213 (by decide) ?_
  refine z_iadd B dL_law_214 ?_
  refine z_seti (y := 5) (by decide) ?_
  refine z_sld (j := 5) (x := x5) B hX hbl hbA (by decide) (show ¬ ((5 : Int32) < 0 ∨ 6 ≤ (5 : Int32).toNatClampNeg) by decide) h_x5 dL_law_215 ?_
  refine z_cVi (As := [.int 3, .int x2, .int x3, .int x4, .int x5]) (rest := []) B cw_L_79 cx_10 dL_law_216 (ci_X9_set_268 l (σ := (ap b (wx_Z σ z) [] [] [])) (b := b) (lyA (lyZ hK)) x2 x3 x4 x5 q1_x2 q2_x2 q1_x3 q2_x3) (lKA (lKZ (hk_K hK 405 rfl rfl))) rfl (by decide) rfl (Nat.le_of_ble_eq_true rfl) (by decide) (fun r u hu => ?_)
  refine z_eqs (σ' := (ap b (wx_Z σ z) [(405, 0, 1)] [] [])) (hu.2.trans ap_ap) ?_
  show zx p l e _ s m _ below meth c g 8 _ _ _ _ 219 [(5, .int 1), (4, .int 0), (3, .ref (b + 431)), (2, .ref (b + 405)), (1, .ref (b + 0)), (0, .ref bS)] _
  refine z_seti (y := 0) hu.1 ?_
  refine z_istore (lv' := [(6, .int 0), (5, .int 1), (4, .int 0), (3, .ref (b + 431)), (2, .ref (b + 405)), (1, .ref (b + 0)), (0, .ref bS)]) B dL_law_219 (by decide) rfl ?_
  refine z_aload_n B dL_law_221 rfl 4 rfl ?_
  refine z_cVi (As := []) (rest := []) B cw_L_80 cx_10 dL_law_222 (ci_X9_thrown_31 l (σ := (ap b (wx_Z σ z) [(405, 0, 1)] [] [])) (b := b) (lyA (lyZ hK)) (rI_at 405 0 rfl)) (lKA (lKZ (hk_K hK 405 rfl rfl))) rfl (by decide) rfl (Nat.le_of_ble_eq_true rfl) (by decide) (fun r u hu => ?_)
  refine z_eqs (σ' := (ap b (wx_Z σ z) [(405, 0, 1)] [] [])) hu.2 ?_
  show zx p l e _ s m _ below meth c g 8 _ _ _ _ 225 [(6, .int 0), (5, .int 1), (4, .int 0), (3, .ref (b + 431)), (2, .ref (b + 405)), (1, .ref (b + 0)), (0, .ref bS)] _
  refine z_seti (y := 1) hu.1 ?_
  refine z_iload B dL_law_225 1 rfl ?_
  refine z_icmp_eq (tgt := 232) B dL_law_227 (by decide) (fun _ => ?_) (fun h => absurd (by decide) h)
  refine z_iload B dL_law_232 1 rfl ?_
  refine z_if_ne (tgt := 249) B dL_law_234 (by decide) (fun _ => ?_) (fun h => absurd h (by decide))
  refine z_goto (tgt := 1395) B dL_law_249 (by decide) ?_
  exact z_widen (Nat.le_of_ble_eq_true rfl) (Nat.le_of_ble_eq_true rfl) (z_sub _ [2, 6] rfl (kk _))
set_option maxRecDepth 100000 in
set_option maxHeartbeats 4000000 in
theorem lf_0_91 {p : Program} {l : Launch} {e : Env} {s : State} {m : MethodId} {args : Array Value} {below : List Frame} {meth : Method} {c : Code} {g : gx_T} {Q : State → Prop} {σ : sx_T} {b t bS : Nat} {xs : Nat → Int32} (hlt : l.stackTraces = false) (B : zx_B p s m args meth c code RL 8 g) (hX : va_X bS 6 xs s s.heap) (hbl : bS < s.heap.size) (hbA : ¬ gx_b g ≤ bS) (hF : fz_P b t σ) (h_x1 : xs 1 = 4) {x2 : Int32} (h_x2 : xs 2 = x2) (q1_x2 : (-2147483648 : Int) ≤ x2.toInt) (q2_x2 : x2.toInt ≤ (-1 : Int)) {x3 : Int32} (h_x3 : xs 3 = x3) (q1_x3 : (-2147483648 : Int) ≤ x3.toInt) (q2_x3 : x3.toInt ≤ (-1 : Int)) {x4 : Int32} (h_x4 : xs 4 = x4) (q1_x4 : (-2147483648 : Int) ≤ x4.toInt) (q2_x4 : x4.toInt ≤ (2147483647 : Int)) {x5 : Int32} (h_x5 : xs 5 = x5) (q1_x5 : (-2147483648 : Int) ≤ x5.toInt) (q2_x5 : x5.toInt ≤ (2147483647 : Int)) (kk : ∀ σ', zx p l e room_1 s m args below meth c g 8 600002 7302232 Q σ' 1395 [(4, .int 0), (0, .ref bS)] []) : zx p l e room_1 s m args below meth c g 8 500 100000 Q σ 148 [(4, .int 0), (3, .ref (b + 431)), (2, .ref (b + 405)), (1, .ref (b + 0)), (0, .ref bS)] [] := by
  have hK := fz_lay hF
  refine z_eqs (σ' := (ap b σ [] [] [])) rfl ?_
  refine z_aload_n B dL_law_148 rfl 3 rfl ?_
  refine z_aload_n B dL_law_149 rfl 4 rfl ?_
  refine z_iload B dL_law_150 0 rfl ?_
  refine z_iconst (v := 1) B dL_law_152 (by decide) ?_
  refine z_iadd B dL_law_153 ?_
  refine z_seti (y := 1) (by decide) ?_
  refine z_sld (j := 1) (x := 4) B hX hbl hbA (by decide) (show ¬ ((1 : Int32) < 0 ∨ 6 ≤ (1 : Int32).toNatClampNeg) by decide) h_x1 dL_law_154 ?_
  refine z_aload_n B dL_law_155 rfl 4 rfl ?_
  refine z_iload B dL_law_156 0 rfl ?_
  refine z_iconst (v := 2) B dL_law_158 (by decide) ?_
  refine z_iadd B dL_law_159 ?_
  refine z_seti (y := 2) (by decide) ?_
  refine z_sld (j := 2) (x := x2) B hX hbl hbA (by decide) (show ¬ ((2 : Int32) < 0 ∨ 6 ≤ (2 : Int32).toNatClampNeg) by decide) h_x2 dL_law_160 ?_
  refine z_aload_n B dL_law_161 rfl 4 rfl ?_
  refine z_iload B dL_law_162 0 rfl ?_
  refine z_iconst (v := 3) B dL_law_164 (by decide) ?_
  refine z_iadd B dL_law_165 ?_
  refine z_seti (y := 3) (by decide) ?_
  refine z_sld (j := 3) (x := x3) B hX hbl hbA (by decide) (show ¬ ((3 : Int32) < 0 ∨ 6 ≤ (3 : Int32).toNatClampNeg) by decide) h_x3 dL_law_166 ?_
  refine z_aload_n B dL_law_167 rfl 4 rfl ?_
  refine z_iload B dL_law_168 0 rfl ?_
  refine z_iconst (v := 4) B dL_law_170 (by decide) ?_
  refine z_iadd B dL_law_171 ?_
  refine z_seti (y := 4) (by decide) ?_
  refine z_sld (j := 4) (x := x4) B hX hbl hbA (by decide) (show ¬ ((4 : Int32) < 0 ∨ 6 ≤ (4 : Int32).toNatClampNeg) by decide) h_x4 dL_law_172 ?_
  refine z_aload_n B dL_law_173 rfl 4 rfl ?_
  refine z_iload B dL_law_174 0 rfl ?_
  refine z_iconst (v := 5) B dL_law_176 (by decide) ?_
  refine z_iadd B dL_law_177 ?_
  refine z_seti (y := 5) (by decide) ?_
  refine z_sld (j := 5) (x := x5) B hX hbl hbA (by decide) (show ¬ ((5 : Int32) < 0 ∨ 6 ≤ (5 : Int32).toNatClampNeg) by decide) h_x5 dL_law_178 ?_
  refine z_aload_n B dL_law_179 rfl 1 rfl ?_
  refine z_cSWi (As := [.ref (b + 0), .int 4, .int x2, .int x3, .int x4, .int x5, .ref (b + 431)]) (rest := []) B cw_L_74 dL_law_180 (ci_L_set_271 l hlt (σ := (ap b σ [] [] [])) (b := b) (lyA hK) x2 x3 x4 x5 q1_x2 q2_x2 (rR_at 0 0 (fz_R hF 0 0 rfl rfl)) (rR_at 1 4 (fz_R hF 1 4 rfl rfl))) rfl (by decide) rfl (Nat.le_of_ble_eq_true rfl) (by decide) (fun r u hu => ?_)
  obtain ⟨hu1, z, hu⟩ := hu
  refine z_eqs (σ' := (ap b (wx_Z σ z) [] [] [])) (hu.trans az_ap) ?_
  show zx p l e _ s m _ below meth c g 8 _ _ _ _ 183 [(4, .int 0), (3, .ref (b + 431)), (2, .ref (b + 405)), (1, .ref (b + 0)), (0, .ref bS)] _
  refine z_seti (y := 1) hu1 ?_
  refine z_istore (lv' := [(5, .int 1), (4, .int 0), (3, .ref (b + 431)), (2, .ref (b + 405)), (1, .ref (b + 0)), (0, .ref bS)]) B dL_law_183 (by decide) rfl ?_
  refine z_aload_n B dL_law_185 rfl 3 rfl ?_
  refine z_aload_n B dL_law_186 rfl 5 rfl ?_
  refine z_iload B dL_law_187 1 rfl ?_
  refine z_iconst (v := 1) B dL_law_189 (by decide) ?_
  refine z_iadd B dL_law_190 ?_
  refine z_seti (y := 1) (by decide) ?_
  refine z_sld (j := 1) (x := 4) B hX hbl hbA (by decide) (show ¬ ((1 : Int32) < 0 ∨ 6 ≤ (1 : Int32).toNatClampNeg) by decide) h_x1 dL_law_191 ?_
  refine z_aload_n B dL_law_192 rfl 5 rfl ?_
  refine z_iload B dL_law_193 1 rfl ?_
  refine z_iconst (v := 2) B dL_law_195 (by decide) ?_
  refine z_iadd B dL_law_196 ?_
  refine z_seti (y := 2) (by decide) ?_
  refine z_sld (j := 2) (x := x2) B hX hbl hbA (by decide) (show ¬ ((2 : Int32) < 0 ∨ 6 ≤ (2 : Int32).toNatClampNeg) by decide) h_x2 dL_law_197 ?_
  refine z_aload_n B dL_law_198 rfl 5 rfl ?_
  refine z_iload B dL_law_199 1 rfl ?_
  refine z_iconst (v := 3) B dL_law_201 (by decide) ?_
  refine z_iadd B dL_law_202 ?_
  refine z_seti (y := 3) (by decide) ?_
  refine z_sld (j := 3) (x := x3) B hX hbl hbA (by decide) (show ¬ ((3 : Int32) < 0 ∨ 6 ≤ (3 : Int32).toNatClampNeg) by decide) h_x3 dL_law_203 ?_
  refine z_aload_n B dL_law_204 rfl 5 rfl ?_
  refine z_iload B dL_law_205 1 rfl ?_
  refine z_iconst (v := 4) B dL_law_207 (by decide) ?_
  refine z_iadd B dL_law_208 ?_
  refine z_seti (y := 4) (by decide) ?_
  refine z_sld (j := 4) (x := x4) B hX hbl hbA (by decide) (show ¬ ((4 : Int32) < 0 ∨ 6 ≤ (4 : Int32).toNatClampNeg) by decide) h_x4 dL_law_209 ?_
  refine z_aload_n B dL_law_210 rfl 5 rfl ?_
  refine z_iload B dL_law_211 1 rfl ?_
  refine z_iconst (v := 5) B dL_law_213 (by decide) ?_
  refine z_iadd B dL_law_214 ?_
  refine z_seti (y := 5) (by decide) ?_
  refine z_sld (j := 5) (x := x5) B hX hbl hbA (by decide) (show ¬ ((5 : Int32) < 0 ∨ 6 ≤ (5 : Int32).toNatClampNeg) by decide) h_x5 dL_law_215 ?_
  refine z_cVi (As := [.int 4, .int x2, .int x3, .int x4, .int x5]) (rest := []) B cw_L_79 cx_10 dL_law_216 (ci_X9_set_274 l (σ := (ap b (wx_Z σ z) [] [] [])) (b := b) (lyA (lyZ hK)) x2 x3 x4 x5 q1_x2 q2_x2 q1_x3 q2_x3) (lKA (lKZ (hk_K hK 405 rfl rfl))) rfl (by decide) rfl (Nat.le_of_ble_eq_true rfl) (by decide) (fun r u hu => ?_)
  refine z_eqs (σ' := (ap b (wx_Z σ z) [(405, 0, 1)] [] [])) (hu.2.trans ap_ap) ?_
  show zx p l e _ s m _ below meth c g 8 _ _ _ _ 219 [(5, .int 1), (4, .int 0), (3, .ref (b + 431)), (2, .ref (b + 405)), (1, .ref (b + 0)), (0, .ref bS)] _
  refine z_seti (y := 0) hu.1 ?_
  refine z_istore (lv' := [(6, .int 0), (5, .int 1), (4, .int 0), (3, .ref (b + 431)), (2, .ref (b + 405)), (1, .ref (b + 0)), (0, .ref bS)]) B dL_law_219 (by decide) rfl ?_
  refine z_aload_n B dL_law_221 rfl 4 rfl ?_
  refine z_cVi (As := []) (rest := []) B cw_L_80 cx_10 dL_law_222 (ci_X9_thrown_31 l (σ := (ap b (wx_Z σ z) [(405, 0, 1)] [] [])) (b := b) (lyA (lyZ hK)) (rI_at 405 0 rfl)) (lKA (lKZ (hk_K hK 405 rfl rfl))) rfl (by decide) rfl (Nat.le_of_ble_eq_true rfl) (by decide) (fun r u hu => ?_)
  refine z_eqs (σ' := (ap b (wx_Z σ z) [(405, 0, 1)] [] [])) hu.2 ?_
  show zx p l e _ s m _ below meth c g 8 _ _ _ _ 225 [(6, .int 0), (5, .int 1), (4, .int 0), (3, .ref (b + 431)), (2, .ref (b + 405)), (1, .ref (b + 0)), (0, .ref bS)] _
  refine z_seti (y := 1) hu.1 ?_
  refine z_iload B dL_law_225 1 rfl ?_
  refine z_icmp_eq (tgt := 232) B dL_law_227 (by decide) (fun _ => ?_) (fun h => absurd (by decide) h)
  refine z_iload B dL_law_232 1 rfl ?_
  refine z_if_ne (tgt := 249) B dL_law_234 (by decide) (fun _ => ?_) (fun h => absurd h (by decide))
  refine z_goto (tgt := 1395) B dL_law_249 (by decide) ?_
  exact z_widen (Nat.le_of_ble_eq_true rfl) (Nat.le_of_ble_eq_true rfl) (z_sub _ [2, 6] rfl (kk _))
set_option maxRecDepth 100000 in
set_option maxHeartbeats 4000000 in
theorem lf_0_92 {p : Program} {l : Launch} {e : Env} {s : State} {m : MethodId} {args : Array Value} {below : List Frame} {meth : Method} {c : Code} {g : gx_T} {Q : State → Prop} {σ : sx_T} {b t bS : Nat} {xs : Nat → Int32} (hlt : l.stackTraces = false) (B : zx_B p s m args meth c code RL 8 g) (hX : va_X bS 6 xs s s.heap) (hbl : bS < s.heap.size) (hbA : ¬ gx_b g ≤ bS) (hF : fz_P b t σ) (h_x1 : xs 1 = 4) {x2 : Int32} (h_x2 : xs 2 = x2) (q1_x2 : (-2147483648 : Int) ≤ x2.toInt) (q2_x2 : x2.toInt ≤ (-1 : Int)) {x3 : Int32} (h_x3 : xs 3 = x3) (q1_x3 : (0 : Int) ≤ x3.toInt) (q2_x3 : x3.toInt ≤ (17 : Int)) {x4 : Int32} (h_x4 : xs 4 = x4) (q1_x4 : (-2147483648 : Int) ≤ x4.toInt) (q2_x4 : x4.toInt ≤ (-1 : Int)) {x5 : Int32} (h_x5 : xs 5 = x5) (q1_x5 : (-2147483648 : Int) ≤ x5.toInt) (q2_x5 : x5.toInt ≤ (2147483647 : Int)) (kk : ∀ σ', zx p l e room_1 s m args below meth c g 8 600002 7302232 Q σ' 1395 [(4, .int 0), (0, .ref bS)] []) : zx p l e room_1 s m args below meth c g 8 500 100000 Q σ 148 [(4, .int 0), (3, .ref (b + 431)), (2, .ref (b + 405)), (1, .ref (b + 0)), (0, .ref bS)] [] := by
  have hK := fz_lay hF
  refine z_eqs (σ' := (ap b σ [] [] [])) rfl ?_
  refine z_aload_n B dL_law_148 rfl 3 rfl ?_
  refine z_aload_n B dL_law_149 rfl 4 rfl ?_
  refine z_iload B dL_law_150 0 rfl ?_
  refine z_iconst (v := 1) B dL_law_152 (by decide) ?_
  refine z_iadd B dL_law_153 ?_
  refine z_seti (y := 1) (by decide) ?_
  refine z_sld (j := 1) (x := 4) B hX hbl hbA (by decide) (show ¬ ((1 : Int32) < 0 ∨ 6 ≤ (1 : Int32).toNatClampNeg) by decide) h_x1 dL_law_154 ?_
  refine z_aload_n B dL_law_155 rfl 4 rfl ?_
  refine z_iload B dL_law_156 0 rfl ?_
  refine z_iconst (v := 2) B dL_law_158 (by decide) ?_
  refine z_iadd B dL_law_159 ?_
  refine z_seti (y := 2) (by decide) ?_
  refine z_sld (j := 2) (x := x2) B hX hbl hbA (by decide) (show ¬ ((2 : Int32) < 0 ∨ 6 ≤ (2 : Int32).toNatClampNeg) by decide) h_x2 dL_law_160 ?_
  refine z_aload_n B dL_law_161 rfl 4 rfl ?_
  refine z_iload B dL_law_162 0 rfl ?_
  refine z_iconst (v := 3) B dL_law_164 (by decide) ?_
  refine z_iadd B dL_law_165 ?_
  refine z_seti (y := 3) (by decide) ?_
  refine z_sld (j := 3) (x := x3) B hX hbl hbA (by decide) (show ¬ ((3 : Int32) < 0 ∨ 6 ≤ (3 : Int32).toNatClampNeg) by decide) h_x3 dL_law_166 ?_
  refine z_aload_n B dL_law_167 rfl 4 rfl ?_
  refine z_iload B dL_law_168 0 rfl ?_
  refine z_iconst (v := 4) B dL_law_170 (by decide) ?_
  refine z_iadd B dL_law_171 ?_
  refine z_seti (y := 4) (by decide) ?_
  refine z_sld (j := 4) (x := x4) B hX hbl hbA (by decide) (show ¬ ((4 : Int32) < 0 ∨ 6 ≤ (4 : Int32).toNatClampNeg) by decide) h_x4 dL_law_172 ?_
  refine z_aload_n B dL_law_173 rfl 4 rfl ?_
  refine z_iload B dL_law_174 0 rfl ?_
  refine z_iconst (v := 5) B dL_law_176 (by decide) ?_
  refine z_iadd B dL_law_177 ?_
  refine z_seti (y := 5) (by decide) ?_
  refine z_sld (j := 5) (x := x5) B hX hbl hbA (by decide) (show ¬ ((5 : Int32) < 0 ∨ 6 ≤ (5 : Int32).toNatClampNeg) by decide) h_x5 dL_law_178 ?_
  refine z_aload_n B dL_law_179 rfl 1 rfl ?_
  refine z_cSWi (As := [.ref (b + 0), .int 4, .int x2, .int x3, .int x4, .int x5, .ref (b + 431)]) (rest := []) B cw_L_74 dL_law_180 (ci_L_set_271 l hlt (σ := (ap b σ [] [] [])) (b := b) (lyA hK) x2 x3 x4 x5 q1_x2 q2_x2 (rR_at 0 0 (fz_R hF 0 0 rfl rfl)) (rR_at 1 4 (fz_R hF 1 4 rfl rfl))) rfl (by decide) rfl (Nat.le_of_ble_eq_true rfl) (by decide) (fun r u hu => ?_)
  obtain ⟨hu1, z, hu⟩ := hu
  refine z_eqs (σ' := (ap b (wx_Z σ z) [] [] [])) (hu.trans az_ap) ?_
  show zx p l e _ s m _ below meth c g 8 _ _ _ _ 183 [(4, .int 0), (3, .ref (b + 431)), (2, .ref (b + 405)), (1, .ref (b + 0)), (0, .ref bS)] _
  refine z_seti (y := 1) hu1 ?_
  refine z_istore (lv' := [(5, .int 1), (4, .int 0), (3, .ref (b + 431)), (2, .ref (b + 405)), (1, .ref (b + 0)), (0, .ref bS)]) B dL_law_183 (by decide) rfl ?_
  refine z_aload_n B dL_law_185 rfl 3 rfl ?_
  refine z_aload_n B dL_law_186 rfl 5 rfl ?_
  refine z_iload B dL_law_187 1 rfl ?_
  refine z_iconst (v := 1) B dL_law_189 (by decide) ?_
  refine z_iadd B dL_law_190 ?_
  refine z_seti (y := 1) (by decide) ?_
  refine z_sld (j := 1) (x := 4) B hX hbl hbA (by decide) (show ¬ ((1 : Int32) < 0 ∨ 6 ≤ (1 : Int32).toNatClampNeg) by decide) h_x1 dL_law_191 ?_
  refine z_aload_n B dL_law_192 rfl 5 rfl ?_
  refine z_iload B dL_law_193 1 rfl ?_
  refine z_iconst (v := 2) B dL_law_195 (by decide) ?_
  refine z_iadd B dL_law_196 ?_
  refine z_seti (y := 2) (by decide) ?_
  refine z_sld (j := 2) (x := x2) B hX hbl hbA (by decide) (show ¬ ((2 : Int32) < 0 ∨ 6 ≤ (2 : Int32).toNatClampNeg) by decide) h_x2 dL_law_197 ?_
  refine z_aload_n B dL_law_198 rfl 5 rfl ?_
  refine z_iload B dL_law_199 1 rfl ?_
  refine z_iconst (v := 3) B dL_law_201 (by decide) ?_
  refine z_iadd B dL_law_202 ?_
  refine z_seti (y := 3) (by decide) ?_
  refine z_sld (j := 3) (x := x3) B hX hbl hbA (by decide) (show ¬ ((3 : Int32) < 0 ∨ 6 ≤ (3 : Int32).toNatClampNeg) by decide) h_x3 dL_law_203 ?_
  refine z_aload_n B dL_law_204 rfl 5 rfl ?_
  refine z_iload B dL_law_205 1 rfl ?_
  refine z_iconst (v := 4) B dL_law_207 (by decide) ?_
  refine z_iadd B dL_law_208 ?_
  refine z_seti (y := 4) (by decide) ?_
  refine z_sld (j := 4) (x := x4) B hX hbl hbA (by decide) (show ¬ ((4 : Int32) < 0 ∨ 6 ≤ (4 : Int32).toNatClampNeg) by decide) h_x4 dL_law_209 ?_
  refine z_aload_n B dL_law_210 rfl 5 rfl ?_
  refine z_iload B dL_law_211 1 rfl ?_
  refine z_iconst (v := 5) B dL_law_213 (by decide) ?_
  refine z_iadd B dL_law_214 ?_
  refine z_seti (y := 5) (by decide) ?_
  refine z_sld (j := 5) (x := x5) B hX hbl hbA (by decide) (show ¬ ((5 : Int32) < 0 ∨ 6 ≤ (5 : Int32).toNatClampNeg) by decide) h_x5 dL_law_215 ?_
  refine z_cVi (As := [.int 4, .int x2, .int x3, .int x4, .int x5]) (rest := []) B cw_L_79 cx_10 dL_law_216 (ci_X9_set_275 l (σ := (ap b (wx_Z σ z) [] [] [])) (b := b) (lyA (lyZ hK)) x2 x3 x4 x5 q1_x2 q2_x2 q1_x3 q2_x3 q1_x4 q2_x4) (lKA (lKZ (hk_K hK 405 rfl rfl))) rfl (by decide) rfl (Nat.le_of_ble_eq_true rfl) (by decide) (fun r u hu => ?_)
  refine z_eqs (σ' := (ap b (wx_Z σ z) [(405, 0, 1)] [] [])) (hu.2.trans ap_ap) ?_
  show zx p l e _ s m _ below meth c g 8 _ _ _ _ 219 [(5, .int 1), (4, .int 0), (3, .ref (b + 431)), (2, .ref (b + 405)), (1, .ref (b + 0)), (0, .ref bS)] _
  refine z_seti (y := 0) hu.1 ?_
  refine z_istore (lv' := [(6, .int 0), (5, .int 1), (4, .int 0), (3, .ref (b + 431)), (2, .ref (b + 405)), (1, .ref (b + 0)), (0, .ref bS)]) B dL_law_219 (by decide) rfl ?_
  refine z_aload_n B dL_law_221 rfl 4 rfl ?_
  refine z_cVi (As := []) (rest := []) B cw_L_80 cx_10 dL_law_222 (ci_X9_thrown_31 l (σ := (ap b (wx_Z σ z) [(405, 0, 1)] [] [])) (b := b) (lyA (lyZ hK)) (rI_at 405 0 rfl)) (lKA (lKZ (hk_K hK 405 rfl rfl))) rfl (by decide) rfl (Nat.le_of_ble_eq_true rfl) (by decide) (fun r u hu => ?_)
  refine z_eqs (σ' := (ap b (wx_Z σ z) [(405, 0, 1)] [] [])) hu.2 ?_
  show zx p l e _ s m _ below meth c g 8 _ _ _ _ 225 [(6, .int 0), (5, .int 1), (4, .int 0), (3, .ref (b + 431)), (2, .ref (b + 405)), (1, .ref (b + 0)), (0, .ref bS)] _
  refine z_seti (y := 1) hu.1 ?_
  refine z_iload B dL_law_225 1 rfl ?_
  refine z_icmp_eq (tgt := 232) B dL_law_227 (by decide) (fun _ => ?_) (fun h => absurd (by decide) h)
  refine z_iload B dL_law_232 1 rfl ?_
  refine z_if_ne (tgt := 249) B dL_law_234 (by decide) (fun _ => ?_) (fun h => absurd h (by decide))
  refine z_goto (tgt := 1395) B dL_law_249 (by decide) ?_
  exact z_widen (Nat.le_of_ble_eq_true rfl) (Nat.le_of_ble_eq_true rfl) (z_sub _ [2, 6] rfl (kk _))
set_option maxRecDepth 100000 in
set_option maxHeartbeats 4000000 in
theorem lf_0_93 {p : Program} {l : Launch} {e : Env} {s : State} {m : MethodId} {args : Array Value} {below : List Frame} {meth : Method} {c : Code} {g : gx_T} {Q : State → Prop} {σ : sx_T} {b t bS : Nat} {xs : Nat → Int32} (hlt : l.stackTraces = false) (B : zx_B p s m args meth c code RL 8 g) (hX : va_X bS 6 xs s s.heap) (hbl : bS < s.heap.size) (hbA : ¬ gx_b g ≤ bS) (hF : fz_P b t σ) (h_x1 : xs 1 = 4) {x2 : Int32} (h_x2 : xs 2 = x2) (q1_x2 : (-2147483648 : Int) ≤ x2.toInt) (q2_x2 : x2.toInt ≤ (-1 : Int)) {x3 : Int32} (h_x3 : xs 3 = x3) (q1_x3 : (0 : Int) ≤ x3.toInt) (q2_x3 : x3.toInt ≤ (17 : Int)) {x4 : Int32} (h_x4 : xs 4 = x4) (q1_x4 : (0 : Int) ≤ x4.toInt) (q2_x4 : x4.toInt ≤ (99 : Int)) {x5 : Int32} (h_x5 : xs 5 = x5) (q1_x5 : (-2147483648 : Int) ≤ x5.toInt) (q2_x5 : x5.toInt ≤ (-1 : Int)) (kk : ∀ σ', zx p l e room_1 s m args below meth c g 8 600002 7302232 Q σ' 1395 [(4, .int 0), (0, .ref bS)] []) : zx p l e room_1 s m args below meth c g 8 500 100000 Q σ 148 [(4, .int 0), (3, .ref (b + 431)), (2, .ref (b + 405)), (1, .ref (b + 0)), (0, .ref bS)] [] := by
  have hK := fz_lay hF
  refine z_eqs (σ' := (ap b σ [] [] [])) rfl ?_
  refine z_aload_n B dL_law_148 rfl 3 rfl ?_
  refine z_aload_n B dL_law_149 rfl 4 rfl ?_
  refine z_iload B dL_law_150 0 rfl ?_
  refine z_iconst (v := 1) B dL_law_152 (by decide) ?_
  refine z_iadd B dL_law_153 ?_
  refine z_seti (y := 1) (by decide) ?_
  refine z_sld (j := 1) (x := 4) B hX hbl hbA (by decide) (show ¬ ((1 : Int32) < 0 ∨ 6 ≤ (1 : Int32).toNatClampNeg) by decide) h_x1 dL_law_154 ?_
  refine z_aload_n B dL_law_155 rfl 4 rfl ?_
  refine z_iload B dL_law_156 0 rfl ?_
  refine z_iconst (v := 2) B dL_law_158 (by decide) ?_
  refine z_iadd B dL_law_159 ?_
  refine z_seti (y := 2) (by decide) ?_
  refine z_sld (j := 2) (x := x2) B hX hbl hbA (by decide) (show ¬ ((2 : Int32) < 0 ∨ 6 ≤ (2 : Int32).toNatClampNeg) by decide) h_x2 dL_law_160 ?_
  refine z_aload_n B dL_law_161 rfl 4 rfl ?_
  refine z_iload B dL_law_162 0 rfl ?_
  refine z_iconst (v := 3) B dL_law_164 (by decide) ?_
  refine z_iadd B dL_law_165 ?_
  refine z_seti (y := 3) (by decide) ?_
  refine z_sld (j := 3) (x := x3) B hX hbl hbA (by decide) (show ¬ ((3 : Int32) < 0 ∨ 6 ≤ (3 : Int32).toNatClampNeg) by decide) h_x3 dL_law_166 ?_
  refine z_aload_n B dL_law_167 rfl 4 rfl ?_
  refine z_iload B dL_law_168 0 rfl ?_
  refine z_iconst (v := 4) B dL_law_170 (by decide) ?_
  refine z_iadd B dL_law_171 ?_
  refine z_seti (y := 4) (by decide) ?_
  refine z_sld (j := 4) (x := x4) B hX hbl hbA (by decide) (show ¬ ((4 : Int32) < 0 ∨ 6 ≤ (4 : Int32).toNatClampNeg) by decide) h_x4 dL_law_172 ?_
  refine z_aload_n B dL_law_173 rfl 4 rfl ?_
  refine z_iload B dL_law_174 0 rfl ?_
  refine z_iconst (v := 5) B dL_law_176 (by decide) ?_
  refine z_iadd B dL_law_177 ?_
  refine z_seti (y := 5) (by decide) ?_
  refine z_sld (j := 5) (x := x5) B hX hbl hbA (by decide) (show ¬ ((5 : Int32) < 0 ∨ 6 ≤ (5 : Int32).toNatClampNeg) by decide) h_x5 dL_law_178 ?_
  refine z_aload_n B dL_law_179 rfl 1 rfl ?_
  refine z_cSWi (As := [.ref (b + 0), .int 4, .int x2, .int x3, .int x4, .int x5, .ref (b + 431)]) (rest := []) B cw_L_74 dL_law_180 (ci_L_set_271 l hlt (σ := (ap b σ [] [] [])) (b := b) (lyA hK) x2 x3 x4 x5 q1_x2 q2_x2 (rR_at 0 0 (fz_R hF 0 0 rfl rfl)) (rR_at 1 4 (fz_R hF 1 4 rfl rfl))) rfl (by decide) rfl (Nat.le_of_ble_eq_true rfl) (by decide) (fun r u hu => ?_)
  obtain ⟨hu1, z, hu⟩ := hu
  refine z_eqs (σ' := (ap b (wx_Z σ z) [] [] [])) (hu.trans az_ap) ?_
  show zx p l e _ s m _ below meth c g 8 _ _ _ _ 183 [(4, .int 0), (3, .ref (b + 431)), (2, .ref (b + 405)), (1, .ref (b + 0)), (0, .ref bS)] _
  refine z_seti (y := 1) hu1 ?_
  refine z_istore (lv' := [(5, .int 1), (4, .int 0), (3, .ref (b + 431)), (2, .ref (b + 405)), (1, .ref (b + 0)), (0, .ref bS)]) B dL_law_183 (by decide) rfl ?_
  refine z_aload_n B dL_law_185 rfl 3 rfl ?_
  refine z_aload_n B dL_law_186 rfl 5 rfl ?_
  refine z_iload B dL_law_187 1 rfl ?_
  refine z_iconst (v := 1) B dL_law_189 (by decide) ?_
  refine z_iadd B dL_law_190 ?_
  refine z_seti (y := 1) (by decide) ?_
  refine z_sld (j := 1) (x := 4) B hX hbl hbA (by decide) (show ¬ ((1 : Int32) < 0 ∨ 6 ≤ (1 : Int32).toNatClampNeg) by decide) h_x1 dL_law_191 ?_
  refine z_aload_n B dL_law_192 rfl 5 rfl ?_
  refine z_iload B dL_law_193 1 rfl ?_
  refine z_iconst (v := 2) B dL_law_195 (by decide) ?_
  refine z_iadd B dL_law_196 ?_
  refine z_seti (y := 2) (by decide) ?_
  refine z_sld (j := 2) (x := x2) B hX hbl hbA (by decide) (show ¬ ((2 : Int32) < 0 ∨ 6 ≤ (2 : Int32).toNatClampNeg) by decide) h_x2 dL_law_197 ?_
  refine z_aload_n B dL_law_198 rfl 5 rfl ?_
  refine z_iload B dL_law_199 1 rfl ?_
  refine z_iconst (v := 3) B dL_law_201 (by decide) ?_
  refine z_iadd B dL_law_202 ?_
  refine z_seti (y := 3) (by decide) ?_
  refine z_sld (j := 3) (x := x3) B hX hbl hbA (by decide) (show ¬ ((3 : Int32) < 0 ∨ 6 ≤ (3 : Int32).toNatClampNeg) by decide) h_x3 dL_law_203 ?_
  refine z_aload_n B dL_law_204 rfl 5 rfl ?_
  refine z_iload B dL_law_205 1 rfl ?_
  refine z_iconst (v := 4) B dL_law_207 (by decide) ?_
  refine z_iadd B dL_law_208 ?_
  refine z_seti (y := 4) (by decide) ?_
  refine z_sld (j := 4) (x := x4) B hX hbl hbA (by decide) (show ¬ ((4 : Int32) < 0 ∨ 6 ≤ (4 : Int32).toNatClampNeg) by decide) h_x4 dL_law_209 ?_
  refine z_aload_n B dL_law_210 rfl 5 rfl ?_
  refine z_iload B dL_law_211 1 rfl ?_
  refine z_iconst (v := 5) B dL_law_213 (by decide) ?_
  refine z_iadd B dL_law_214 ?_
  refine z_seti (y := 5) (by decide) ?_
  refine z_sld (j := 5) (x := x5) B hX hbl hbA (by decide) (show ¬ ((5 : Int32) < 0 ∨ 6 ≤ (5 : Int32).toNatClampNeg) by decide) h_x5 dL_law_215 ?_
  refine z_cVi (As := [.int 4, .int x2, .int x3, .int x4, .int x5]) (rest := []) B cw_L_79 cx_10 dL_law_216 (ci_X9_set_276 l (σ := (ap b (wx_Z σ z) [] [] [])) (b := b) (lyA (lyZ hK)) x2 x3 x4 x5 q1_x2 q2_x2 q1_x3 q2_x3 q1_x4 q2_x4 q1_x5 q2_x5) (lKA (lKZ (hk_K hK 405 rfl rfl))) rfl (by decide) rfl (Nat.le_of_ble_eq_true rfl) (by decide) (fun r u hu => ?_)
  refine z_eqs (σ' := (ap b (wx_Z σ z) [(405, 0, 1)] [] [])) (hu.2.trans ap_ap) ?_
  show zx p l e _ s m _ below meth c g 8 _ _ _ _ 219 [(5, .int 1), (4, .int 0), (3, .ref (b + 431)), (2, .ref (b + 405)), (1, .ref (b + 0)), (0, .ref bS)] _
  refine z_seti (y := 0) hu.1 ?_
  refine z_istore (lv' := [(6, .int 0), (5, .int 1), (4, .int 0), (3, .ref (b + 431)), (2, .ref (b + 405)), (1, .ref (b + 0)), (0, .ref bS)]) B dL_law_219 (by decide) rfl ?_
  refine z_aload_n B dL_law_221 rfl 4 rfl ?_
  refine z_cVi (As := []) (rest := []) B cw_L_80 cx_10 dL_law_222 (ci_X9_thrown_31 l (σ := (ap b (wx_Z σ z) [(405, 0, 1)] [] [])) (b := b) (lyA (lyZ hK)) (rI_at 405 0 rfl)) (lKA (lKZ (hk_K hK 405 rfl rfl))) rfl (by decide) rfl (Nat.le_of_ble_eq_true rfl) (by decide) (fun r u hu => ?_)
  refine z_eqs (σ' := (ap b (wx_Z σ z) [(405, 0, 1)] [] [])) hu.2 ?_
  show zx p l e _ s m _ below meth c g 8 _ _ _ _ 225 [(6, .int 0), (5, .int 1), (4, .int 0), (3, .ref (b + 431)), (2, .ref (b + 405)), (1, .ref (b + 0)), (0, .ref bS)] _
  refine z_seti (y := 1) hu.1 ?_
  refine z_iload B dL_law_225 1 rfl ?_
  refine z_icmp_eq (tgt := 232) B dL_law_227 (by decide) (fun _ => ?_) (fun h => absurd (by decide) h)
  refine z_iload B dL_law_232 1 rfl ?_
  refine z_if_ne (tgt := 249) B dL_law_234 (by decide) (fun _ => ?_) (fun h => absurd h (by decide))
  refine z_goto (tgt := 1395) B dL_law_249 (by decide) ?_
  exact z_widen (Nat.le_of_ble_eq_true rfl) (Nat.le_of_ble_eq_true rfl) (z_sub _ [2, 6] rfl (kk _))
set_option maxRecDepth 100000 in
set_option maxHeartbeats 4000000 in
theorem lf_0_94 {p : Program} {l : Launch} {e : Env} {s : State} {m : MethodId} {args : Array Value} {below : List Frame} {meth : Method} {c : Code} {g : gx_T} {Q : State → Prop} {σ : sx_T} {b t bS : Nat} {xs : Nat → Int32} (hlt : l.stackTraces = false) (B : zx_B p s m args meth c code RL 8 g) (hX : va_X bS 6 xs s s.heap) (hbl : bS < s.heap.size) (hbA : ¬ gx_b g ≤ bS) (hF : fz_P b t σ) (h_x1 : xs 1 = 4) {x2 : Int32} (h_x2 : xs 2 = x2) (q1_x2 : (-2147483648 : Int) ≤ x2.toInt) (q2_x2 : x2.toInt ≤ (-1 : Int)) {x3 : Int32} (h_x3 : xs 3 = x3) (q1_x3 : (0 : Int) ≤ x3.toInt) (q2_x3 : x3.toInt ≤ (17 : Int)) {x4 : Int32} (h_x4 : xs 4 = x4) (q1_x4 : (0 : Int) ≤ x4.toInt) (q2_x4 : x4.toInt ≤ (99 : Int)) {x5 : Int32} (h_x5 : xs 5 = x5) (q1_x5 : (0 : Int) ≤ x5.toInt) (q2_x5 : x5.toInt ≤ (99 : Int)) (kk : ∀ σ', zx p l e room_1 s m args below meth c g 8 600002 7302232 Q σ' 1395 [(4, .int 0), (0, .ref bS)] []) : zx p l e room_1 s m args below meth c g 8 500 100000 Q σ 148 [(4, .int 0), (3, .ref (b + 431)), (2, .ref (b + 405)), (1, .ref (b + 0)), (0, .ref bS)] [] := by
  have hK := fz_lay hF
  refine z_eqs (σ' := (ap b σ [] [] [])) rfl ?_
  refine z_aload_n B dL_law_148 rfl 3 rfl ?_
  refine z_aload_n B dL_law_149 rfl 4 rfl ?_
  refine z_iload B dL_law_150 0 rfl ?_
  refine z_iconst (v := 1) B dL_law_152 (by decide) ?_
  refine z_iadd B dL_law_153 ?_
  refine z_seti (y := 1) (by decide) ?_
  refine z_sld (j := 1) (x := 4) B hX hbl hbA (by decide) (show ¬ ((1 : Int32) < 0 ∨ 6 ≤ (1 : Int32).toNatClampNeg) by decide) h_x1 dL_law_154 ?_
  refine z_aload_n B dL_law_155 rfl 4 rfl ?_
  refine z_iload B dL_law_156 0 rfl ?_
  refine z_iconst (v := 2) B dL_law_158 (by decide) ?_
  refine z_iadd B dL_law_159 ?_
  refine z_seti (y := 2) (by decide) ?_
  refine z_sld (j := 2) (x := x2) B hX hbl hbA (by decide) (show ¬ ((2 : Int32) < 0 ∨ 6 ≤ (2 : Int32).toNatClampNeg) by decide) h_x2 dL_law_160 ?_
  refine z_aload_n B dL_law_161 rfl 4 rfl ?_
  refine z_iload B dL_law_162 0 rfl ?_
  refine z_iconst (v := 3) B dL_law_164 (by decide) ?_
  refine z_iadd B dL_law_165 ?_
  refine z_seti (y := 3) (by decide) ?_
  refine z_sld (j := 3) (x := x3) B hX hbl hbA (by decide) (show ¬ ((3 : Int32) < 0 ∨ 6 ≤ (3 : Int32).toNatClampNeg) by decide) h_x3 dL_law_166 ?_
  refine z_aload_n B dL_law_167 rfl 4 rfl ?_
  refine z_iload B dL_law_168 0 rfl ?_
  refine z_iconst (v := 4) B dL_law_170 (by decide) ?_
  refine z_iadd B dL_law_171 ?_
  refine z_seti (y := 4) (by decide) ?_
  refine z_sld (j := 4) (x := x4) B hX hbl hbA (by decide) (show ¬ ((4 : Int32) < 0 ∨ 6 ≤ (4 : Int32).toNatClampNeg) by decide) h_x4 dL_law_172 ?_
  refine z_aload_n B dL_law_173 rfl 4 rfl ?_
  refine z_iload B dL_law_174 0 rfl ?_
  refine z_iconst (v := 5) B dL_law_176 (by decide) ?_
  refine z_iadd B dL_law_177 ?_
  refine z_seti (y := 5) (by decide) ?_
  refine z_sld (j := 5) (x := x5) B hX hbl hbA (by decide) (show ¬ ((5 : Int32) < 0 ∨ 6 ≤ (5 : Int32).toNatClampNeg) by decide) h_x5 dL_law_178 ?_
  refine z_aload_n B dL_law_179 rfl 1 rfl ?_
  refine z_cSWi (As := [.ref (b + 0), .int 4, .int x2, .int x3, .int x4, .int x5, .ref (b + 431)]) (rest := []) B cw_L_74 dL_law_180 (ci_L_set_271 l hlt (σ := (ap b σ [] [] [])) (b := b) (lyA hK) x2 x3 x4 x5 q1_x2 q2_x2 (rR_at 0 0 (fz_R hF 0 0 rfl rfl)) (rR_at 1 4 (fz_R hF 1 4 rfl rfl))) rfl (by decide) rfl (Nat.le_of_ble_eq_true rfl) (by decide) (fun r u hu => ?_)
  obtain ⟨hu1, z, hu⟩ := hu
  refine z_eqs (σ' := (ap b (wx_Z σ z) [] [] [])) (hu.trans az_ap) ?_
  show zx p l e _ s m _ below meth c g 8 _ _ _ _ 183 [(4, .int 0), (3, .ref (b + 431)), (2, .ref (b + 405)), (1, .ref (b + 0)), (0, .ref bS)] _
  refine z_seti (y := 1) hu1 ?_
  refine z_istore (lv' := [(5, .int 1), (4, .int 0), (3, .ref (b + 431)), (2, .ref (b + 405)), (1, .ref (b + 0)), (0, .ref bS)]) B dL_law_183 (by decide) rfl ?_
  refine z_aload_n B dL_law_185 rfl 3 rfl ?_
  refine z_aload_n B dL_law_186 rfl 5 rfl ?_
  refine z_iload B dL_law_187 1 rfl ?_
  refine z_iconst (v := 1) B dL_law_189 (by decide) ?_
  refine z_iadd B dL_law_190 ?_
  refine z_seti (y := 1) (by decide) ?_
  refine z_sld (j := 1) (x := 4) B hX hbl hbA (by decide) (show ¬ ((1 : Int32) < 0 ∨ 6 ≤ (1 : Int32).toNatClampNeg) by decide) h_x1 dL_law_191 ?_
  refine z_aload_n B dL_law_192 rfl 5 rfl ?_
  refine z_iload B dL_law_193 1 rfl ?_
  refine z_iconst (v := 2) B dL_law_195 (by decide) ?_
  refine z_iadd B dL_law_196 ?_
  refine z_seti (y := 2) (by decide) ?_
  refine z_sld (j := 2) (x := x2) B hX hbl hbA (by decide) (show ¬ ((2 : Int32) < 0 ∨ 6 ≤ (2 : Int32).toNatClampNeg) by decide) h_x2 dL_law_197 ?_
  refine z_aload_n B dL_law_198 rfl 5 rfl ?_
  refine z_iload B dL_law_199 1 rfl ?_
  refine z_iconst (v := 3) B dL_law_201 (by decide) ?_
  refine z_iadd B dL_law_202 ?_
  refine z_seti (y := 3) (by decide) ?_
  refine z_sld (j := 3) (x := x3) B hX hbl hbA (by decide) (show ¬ ((3 : Int32) < 0 ∨ 6 ≤ (3 : Int32).toNatClampNeg) by decide) h_x3 dL_law_203 ?_
  refine z_aload_n B dL_law_204 rfl 5 rfl ?_
  refine z_iload B dL_law_205 1 rfl ?_
  refine z_iconst (v := 4) B dL_law_207 (by decide) ?_
  refine z_iadd B dL_law_208 ?_
  refine z_seti (y := 4) (by decide) ?_
  refine z_sld (j := 4) (x := x4) B hX hbl hbA (by decide) (show ¬ ((4 : Int32) < 0 ∨ 6 ≤ (4 : Int32).toNatClampNeg) by decide) h_x4 dL_law_209 ?_
  refine z_aload_n B dL_law_210 rfl 5 rfl ?_
  refine z_iload B dL_law_211 1 rfl ?_
  refine z_iconst (v := 5) B dL_law_213 (by decide) ?_
  refine z_iadd B dL_law_214 ?_
  refine z_seti (y := 5) (by decide) ?_
  refine z_sld (j := 5) (x := x5) B hX hbl hbA (by decide) (show ¬ ((5 : Int32) < 0 ∨ 6 ≤ (5 : Int32).toNatClampNeg) by decide) h_x5 dL_law_215 ?_
  refine z_cVi (As := [.int 4, .int x2, .int x3, .int x4, .int x5]) (rest := []) B cw_L_79 cx_10 dL_law_216 (ci_X9_set_277 l (σ := (ap b (wx_Z σ z) [] [] [])) (b := b) (lyA (lyZ hK)) x2 x3 x4 x5 q1_x2 q2_x2 q1_x3 q2_x3 q1_x4 q2_x4 q1_x5 q2_x5) (lKA (lKZ (hk_K hK 405 rfl rfl))) rfl (by decide) rfl (Nat.le_of_ble_eq_true rfl) (by decide) (fun r u hu => ?_)
  refine z_eqs (σ' := (ap b (wx_Z σ z) [(405, 0, 1)] [] [])) (hu.2.trans ap_ap) ?_
  show zx p l e _ s m _ below meth c g 8 _ _ _ _ 219 [(5, .int 1), (4, .int 0), (3, .ref (b + 431)), (2, .ref (b + 405)), (1, .ref (b + 0)), (0, .ref bS)] _
  refine z_seti (y := 0) hu.1 ?_
  refine z_istore (lv' := [(6, .int 0), (5, .int 1), (4, .int 0), (3, .ref (b + 431)), (2, .ref (b + 405)), (1, .ref (b + 0)), (0, .ref bS)]) B dL_law_219 (by decide) rfl ?_
  refine z_aload_n B dL_law_221 rfl 4 rfl ?_
  refine z_cVi (As := []) (rest := []) B cw_L_80 cx_10 dL_law_222 (ci_X9_thrown_31 l (σ := (ap b (wx_Z σ z) [(405, 0, 1)] [] [])) (b := b) (lyA (lyZ hK)) (rI_at 405 0 rfl)) (lKA (lKZ (hk_K hK 405 rfl rfl))) rfl (by decide) rfl (Nat.le_of_ble_eq_true rfl) (by decide) (fun r u hu => ?_)
  refine z_eqs (σ' := (ap b (wx_Z σ z) [(405, 0, 1)] [] [])) hu.2 ?_
  show zx p l e _ s m _ below meth c g 8 _ _ _ _ 225 [(6, .int 0), (5, .int 1), (4, .int 0), (3, .ref (b + 431)), (2, .ref (b + 405)), (1, .ref (b + 0)), (0, .ref bS)] _
  refine z_seti (y := 1) hu.1 ?_
  refine z_iload B dL_law_225 1 rfl ?_
  refine z_icmp_eq (tgt := 232) B dL_law_227 (by decide) (fun _ => ?_) (fun h => absurd (by decide) h)
  refine z_iload B dL_law_232 1 rfl ?_
  refine z_if_ne (tgt := 249) B dL_law_234 (by decide) (fun _ => ?_) (fun h => absurd h (by decide))
  refine z_goto (tgt := 1395) B dL_law_249 (by decide) ?_
  exact z_widen (Nat.le_of_ble_eq_true rfl) (Nat.le_of_ble_eq_true rfl) (z_sub _ [2, 6] rfl (kk _))
set_option maxRecDepth 100000 in
set_option maxHeartbeats 4000000 in
theorem lf_0_95 {p : Program} {l : Launch} {e : Env} {s : State} {m : MethodId} {args : Array Value} {below : List Frame} {meth : Method} {c : Code} {g : gx_T} {Q : State → Prop} {σ : sx_T} {b t bS : Nat} {xs : Nat → Int32} (hlt : l.stackTraces = false) (B : zx_B p s m args meth c code RL 8 g) (hX : va_X bS 6 xs s s.heap) (hbl : bS < s.heap.size) (hbA : ¬ gx_b g ≤ bS) (hF : fz_P b t σ) (h_x1 : xs 1 = 4) {x2 : Int32} (h_x2 : xs 2 = x2) (q1_x2 : (-2147483648 : Int) ≤ x2.toInt) (q2_x2 : x2.toInt ≤ (-1 : Int)) {x3 : Int32} (h_x3 : xs 3 = x3) (q1_x3 : (0 : Int) ≤ x3.toInt) (q2_x3 : x3.toInt ≤ (17 : Int)) {x4 : Int32} (h_x4 : xs 4 = x4) (q1_x4 : (0 : Int) ≤ x4.toInt) (q2_x4 : x4.toInt ≤ (99 : Int)) {x5 : Int32} (h_x5 : xs 5 = x5) (q1_x5 : (100 : Int) ≤ x5.toInt) (q2_x5 : x5.toInt ≤ (2147483647 : Int)) (kk : ∀ σ', zx p l e room_1 s m args below meth c g 8 600002 7302232 Q σ' 1395 [(4, .int 0), (0, .ref bS)] []) : zx p l e room_1 s m args below meth c g 8 500 100000 Q σ 148 [(4, .int 0), (3, .ref (b + 431)), (2, .ref (b + 405)), (1, .ref (b + 0)), (0, .ref bS)] [] := by
  have hK := fz_lay hF
  refine z_eqs (σ' := (ap b σ [] [] [])) rfl ?_
  refine z_aload_n B dL_law_148 rfl 3 rfl ?_
  refine z_aload_n B dL_law_149 rfl 4 rfl ?_
  refine z_iload B dL_law_150 0 rfl ?_
  refine z_iconst (v := 1) B dL_law_152 (by decide) ?_
  refine z_iadd B dL_law_153 ?_
  refine z_seti (y := 1) (by decide) ?_
  refine z_sld (j := 1) (x := 4) B hX hbl hbA (by decide) (show ¬ ((1 : Int32) < 0 ∨ 6 ≤ (1 : Int32).toNatClampNeg) by decide) h_x1 dL_law_154 ?_
  refine z_aload_n B dL_law_155 rfl 4 rfl ?_
  refine z_iload B dL_law_156 0 rfl ?_
  refine z_iconst (v := 2) B dL_law_158 (by decide) ?_
  refine z_iadd B dL_law_159 ?_
  refine z_seti (y := 2) (by decide) ?_
  refine z_sld (j := 2) (x := x2) B hX hbl hbA (by decide) (show ¬ ((2 : Int32) < 0 ∨ 6 ≤ (2 : Int32).toNatClampNeg) by decide) h_x2 dL_law_160 ?_
  refine z_aload_n B dL_law_161 rfl 4 rfl ?_
  refine z_iload B dL_law_162 0 rfl ?_
  refine z_iconst (v := 3) B dL_law_164 (by decide) ?_
  refine z_iadd B dL_law_165 ?_
  refine z_seti (y := 3) (by decide) ?_
  refine z_sld (j := 3) (x := x3) B hX hbl hbA (by decide) (show ¬ ((3 : Int32) < 0 ∨ 6 ≤ (3 : Int32).toNatClampNeg) by decide) h_x3 dL_law_166 ?_
  refine z_aload_n B dL_law_167 rfl 4 rfl ?_
  refine z_iload B dL_law_168 0 rfl ?_
  refine z_iconst (v := 4) B dL_law_170 (by decide) ?_
  refine z_iadd B dL_law_171 ?_
  refine z_seti (y := 4) (by decide) ?_
  refine z_sld (j := 4) (x := x4) B hX hbl hbA (by decide) (show ¬ ((4 : Int32) < 0 ∨ 6 ≤ (4 : Int32).toNatClampNeg) by decide) h_x4 dL_law_172 ?_
  refine z_aload_n B dL_law_173 rfl 4 rfl ?_
  refine z_iload B dL_law_174 0 rfl ?_
  refine z_iconst (v := 5) B dL_law_176 (by decide) ?_
  refine z_iadd B dL_law_177 ?_
  refine z_seti (y := 5) (by decide) ?_
  refine z_sld (j := 5) (x := x5) B hX hbl hbA (by decide) (show ¬ ((5 : Int32) < 0 ∨ 6 ≤ (5 : Int32).toNatClampNeg) by decide) h_x5 dL_law_178 ?_
  refine z_aload_n B dL_law_179 rfl 1 rfl ?_
  refine z_cSWi (As := [.ref (b + 0), .int 4, .int x2, .int x3, .int x4, .int x5, .ref (b + 431)]) (rest := []) B cw_L_74 dL_law_180 (ci_L_set_271 l hlt (σ := (ap b σ [] [] [])) (b := b) (lyA hK) x2 x3 x4 x5 q1_x2 q2_x2 (rR_at 0 0 (fz_R hF 0 0 rfl rfl)) (rR_at 1 4 (fz_R hF 1 4 rfl rfl))) rfl (by decide) rfl (Nat.le_of_ble_eq_true rfl) (by decide) (fun r u hu => ?_)
  obtain ⟨hu1, z, hu⟩ := hu
  refine z_eqs (σ' := (ap b (wx_Z σ z) [] [] [])) (hu.trans az_ap) ?_
  show zx p l e _ s m _ below meth c g 8 _ _ _ _ 183 [(4, .int 0), (3, .ref (b + 431)), (2, .ref (b + 405)), (1, .ref (b + 0)), (0, .ref bS)] _
  refine z_seti (y := 1) hu1 ?_
  refine z_istore (lv' := [(5, .int 1), (4, .int 0), (3, .ref (b + 431)), (2, .ref (b + 405)), (1, .ref (b + 0)), (0, .ref bS)]) B dL_law_183 (by decide) rfl ?_
  refine z_aload_n B dL_law_185 rfl 3 rfl ?_
  refine z_aload_n B dL_law_186 rfl 5 rfl ?_
  refine z_iload B dL_law_187 1 rfl ?_
  refine z_iconst (v := 1) B dL_law_189 (by decide) ?_
  refine z_iadd B dL_law_190 ?_
  refine z_seti (y := 1) (by decide) ?_
  refine z_sld (j := 1) (x := 4) B hX hbl hbA (by decide) (show ¬ ((1 : Int32) < 0 ∨ 6 ≤ (1 : Int32).toNatClampNeg) by decide) h_x1 dL_law_191 ?_
  refine z_aload_n B dL_law_192 rfl 5 rfl ?_
  refine z_iload B dL_law_193 1 rfl ?_
  refine z_iconst (v := 2) B dL_law_195 (by decide) ?_
  refine z_iadd B dL_law_196 ?_
  refine z_seti (y := 2) (by decide) ?_
  refine z_sld (j := 2) (x := x2) B hX hbl hbA (by decide) (show ¬ ((2 : Int32) < 0 ∨ 6 ≤ (2 : Int32).toNatClampNeg) by decide) h_x2 dL_law_197 ?_
  refine z_aload_n B dL_law_198 rfl 5 rfl ?_
  refine z_iload B dL_law_199 1 rfl ?_
  refine z_iconst (v := 3) B dL_law_201 (by decide) ?_
  refine z_iadd B dL_law_202 ?_
  refine z_seti (y := 3) (by decide) ?_
  refine z_sld (j := 3) (x := x3) B hX hbl hbA (by decide) (show ¬ ((3 : Int32) < 0 ∨ 6 ≤ (3 : Int32).toNatClampNeg) by decide) h_x3 dL_law_203 ?_
  refine z_aload_n B dL_law_204 rfl 5 rfl ?_
  refine z_iload B dL_law_205 1 rfl ?_
  refine z_iconst (v := 4) B dL_law_207 (by decide) ?_
  refine z_iadd B dL_law_208 ?_
  refine z_seti (y := 4) (by decide) ?_
  refine z_sld (j := 4) (x := x4) B hX hbl hbA (by decide) (show ¬ ((4 : Int32) < 0 ∨ 6 ≤ (4 : Int32).toNatClampNeg) by decide) h_x4 dL_law_209 ?_
  refine z_aload_n B dL_law_210 rfl 5 rfl ?_
  refine z_iload B dL_law_211 1 rfl ?_
  refine z_iconst (v := 5) B dL_law_213 (by decide) ?_
  refine z_iadd B dL_law_214 ?_
  refine z_seti (y := 5) (by decide) ?_
  refine z_sld (j := 5) (x := x5) B hX hbl hbA (by decide) (show ¬ ((5 : Int32) < 0 ∨ 6 ≤ (5 : Int32).toNatClampNeg) by decide) h_x5 dL_law_215 ?_
  refine z_cVi (As := [.int 4, .int x2, .int x3, .int x4, .int x5]) (rest := []) B cw_L_79 cx_10 dL_law_216 (ci_X9_set_278 l (σ := (ap b (wx_Z σ z) [] [] [])) (b := b) (lyA (lyZ hK)) x2 x3 x4 x5 q1_x2 q2_x2 q1_x3 q2_x3 q1_x4 q2_x4 q1_x5 q2_x5) (lKA (lKZ (hk_K hK 405 rfl rfl))) rfl (by decide) rfl (Nat.le_of_ble_eq_true rfl) (by decide) (fun r u hu => ?_)
  refine z_eqs (σ' := (ap b (wx_Z σ z) [(405, 0, 1)] [] [])) (hu.2.trans ap_ap) ?_
  show zx p l e _ s m _ below meth c g 8 _ _ _ _ 219 [(5, .int 1), (4, .int 0), (3, .ref (b + 431)), (2, .ref (b + 405)), (1, .ref (b + 0)), (0, .ref bS)] _
  refine z_seti (y := 0) hu.1 ?_
  refine z_istore (lv' := [(6, .int 0), (5, .int 1), (4, .int 0), (3, .ref (b + 431)), (2, .ref (b + 405)), (1, .ref (b + 0)), (0, .ref bS)]) B dL_law_219 (by decide) rfl ?_
  refine z_aload_n B dL_law_221 rfl 4 rfl ?_
  refine z_cVi (As := []) (rest := []) B cw_L_80 cx_10 dL_law_222 (ci_X9_thrown_31 l (σ := (ap b (wx_Z σ z) [(405, 0, 1)] [] [])) (b := b) (lyA (lyZ hK)) (rI_at 405 0 rfl)) (lKA (lKZ (hk_K hK 405 rfl rfl))) rfl (by decide) rfl (Nat.le_of_ble_eq_true rfl) (by decide) (fun r u hu => ?_)
  refine z_eqs (σ' := (ap b (wx_Z σ z) [(405, 0, 1)] [] [])) hu.2 ?_
  show zx p l e _ s m _ below meth c g 8 _ _ _ _ 225 [(6, .int 0), (5, .int 1), (4, .int 0), (3, .ref (b + 431)), (2, .ref (b + 405)), (1, .ref (b + 0)), (0, .ref bS)] _
  refine z_seti (y := 1) hu.1 ?_
  refine z_iload B dL_law_225 1 rfl ?_
  refine z_icmp_eq (tgt := 232) B dL_law_227 (by decide) (fun _ => ?_) (fun h => absurd (by decide) h)
  refine z_iload B dL_law_232 1 rfl ?_
  refine z_if_ne (tgt := 249) B dL_law_234 (by decide) (fun _ => ?_) (fun h => absurd h (by decide))
  refine z_goto (tgt := 1395) B dL_law_249 (by decide) ?_
  exact z_widen (Nat.le_of_ble_eq_true rfl) (Nat.le_of_ble_eq_true rfl) (z_sub _ [2, 6] rfl (kk _))
set_option maxRecDepth 100000 in
set_option maxHeartbeats 4000000 in
theorem lf_0_96 {p : Program} {l : Launch} {e : Env} {s : State} {m : MethodId} {args : Array Value} {below : List Frame} {meth : Method} {c : Code} {g : gx_T} {Q : State → Prop} {σ : sx_T} {b t bS : Nat} {xs : Nat → Int32} (hlt : l.stackTraces = false) (B : zx_B p s m args meth c code RL 8 g) (hX : va_X bS 6 xs s s.heap) (hbl : bS < s.heap.size) (hbA : ¬ gx_b g ≤ bS) (hF : fz_P b t σ) (h_x1 : xs 1 = 4) {x2 : Int32} (h_x2 : xs 2 = x2) (q1_x2 : (-2147483648 : Int) ≤ x2.toInt) (q2_x2 : x2.toInt ≤ (-1 : Int)) {x3 : Int32} (h_x3 : xs 3 = x3) (q1_x3 : (0 : Int) ≤ x3.toInt) (q2_x3 : x3.toInt ≤ (17 : Int)) {x4 : Int32} (h_x4 : xs 4 = x4) (q1_x4 : (100 : Int) ≤ x4.toInt) (q2_x4 : x4.toInt ≤ (2147483647 : Int)) {x5 : Int32} (h_x5 : xs 5 = x5) (q1_x5 : (-2147483648 : Int) ≤ x5.toInt) (q2_x5 : x5.toInt ≤ (2147483647 : Int)) (kk : ∀ σ', zx p l e room_1 s m args below meth c g 8 600002 7302232 Q σ' 1395 [(4, .int 0), (0, .ref bS)] []) : zx p l e room_1 s m args below meth c g 8 500 100000 Q σ 148 [(4, .int 0), (3, .ref (b + 431)), (2, .ref (b + 405)), (1, .ref (b + 0)), (0, .ref bS)] [] := by
  have hK := fz_lay hF
  refine z_eqs (σ' := (ap b σ [] [] [])) rfl ?_
  refine z_aload_n B dL_law_148 rfl 3 rfl ?_
  refine z_aload_n B dL_law_149 rfl 4 rfl ?_
  refine z_iload B dL_law_150 0 rfl ?_
  refine z_iconst (v := 1) B dL_law_152 (by decide) ?_
  refine z_iadd B dL_law_153 ?_
  refine z_seti (y := 1) (by decide) ?_
  refine z_sld (j := 1) (x := 4) B hX hbl hbA (by decide) (show ¬ ((1 : Int32) < 0 ∨ 6 ≤ (1 : Int32).toNatClampNeg) by decide) h_x1 dL_law_154 ?_
  refine z_aload_n B dL_law_155 rfl 4 rfl ?_
  refine z_iload B dL_law_156 0 rfl ?_
  refine z_iconst (v := 2) B dL_law_158 (by decide) ?_
  refine z_iadd B dL_law_159 ?_
  refine z_seti (y := 2) (by decide) ?_
  refine z_sld (j := 2) (x := x2) B hX hbl hbA (by decide) (show ¬ ((2 : Int32) < 0 ∨ 6 ≤ (2 : Int32).toNatClampNeg) by decide) h_x2 dL_law_160 ?_
  refine z_aload_n B dL_law_161 rfl 4 rfl ?_
  refine z_iload B dL_law_162 0 rfl ?_
  refine z_iconst (v := 3) B dL_law_164 (by decide) ?_
  refine z_iadd B dL_law_165 ?_
  refine z_seti (y := 3) (by decide) ?_
  refine z_sld (j := 3) (x := x3) B hX hbl hbA (by decide) (show ¬ ((3 : Int32) < 0 ∨ 6 ≤ (3 : Int32).toNatClampNeg) by decide) h_x3 dL_law_166 ?_
  refine z_aload_n B dL_law_167 rfl 4 rfl ?_
  refine z_iload B dL_law_168 0 rfl ?_
  refine z_iconst (v := 4) B dL_law_170 (by decide) ?_
  refine z_iadd B dL_law_171 ?_
  refine z_seti (y := 4) (by decide) ?_
  refine z_sld (j := 4) (x := x4) B hX hbl hbA (by decide) (show ¬ ((4 : Int32) < 0 ∨ 6 ≤ (4 : Int32).toNatClampNeg) by decide) h_x4 dL_law_172 ?_
  refine z_aload_n B dL_law_173 rfl 4 rfl ?_
  refine z_iload B dL_law_174 0 rfl ?_
  refine z_iconst (v := 5) B dL_law_176 (by decide) ?_
  refine z_iadd B dL_law_177 ?_
  refine z_seti (y := 5) (by decide) ?_
  refine z_sld (j := 5) (x := x5) B hX hbl hbA (by decide) (show ¬ ((5 : Int32) < 0 ∨ 6 ≤ (5 : Int32).toNatClampNeg) by decide) h_x5 dL_law_178 ?_
  refine z_aload_n B dL_law_179 rfl 1 rfl ?_
  refine z_cSWi (As := [.ref (b + 0), .int 4, .int x2, .int x3, .int x4, .int x5, .ref (b + 431)]) (rest := []) B cw_L_74 dL_law_180 (ci_L_set_271 l hlt (σ := (ap b σ [] [] [])) (b := b) (lyA hK) x2 x3 x4 x5 q1_x2 q2_x2 (rR_at 0 0 (fz_R hF 0 0 rfl rfl)) (rR_at 1 4 (fz_R hF 1 4 rfl rfl))) rfl (by decide) rfl (Nat.le_of_ble_eq_true rfl) (by decide) (fun r u hu => ?_)
  obtain ⟨hu1, z, hu⟩ := hu
  refine z_eqs (σ' := (ap b (wx_Z σ z) [] [] [])) (hu.trans az_ap) ?_
  show zx p l e _ s m _ below meth c g 8 _ _ _ _ 183 [(4, .int 0), (3, .ref (b + 431)), (2, .ref (b + 405)), (1, .ref (b + 0)), (0, .ref bS)] _
  refine z_seti (y := 1) hu1 ?_
  refine z_istore (lv' := [(5, .int 1), (4, .int 0), (3, .ref (b + 431)), (2, .ref (b + 405)), (1, .ref (b + 0)), (0, .ref bS)]) B dL_law_183 (by decide) rfl ?_
  refine z_aload_n B dL_law_185 rfl 3 rfl ?_
  refine z_aload_n B dL_law_186 rfl 5 rfl ?_
  refine z_iload B dL_law_187 1 rfl ?_
  refine z_iconst (v := 1) B dL_law_189 (by decide) ?_
  refine z_iadd B dL_law_190 ?_
  refine z_seti (y := 1) (by decide) ?_
  refine z_sld (j := 1) (x := 4) B hX hbl hbA (by decide) (show ¬ ((1 : Int32) < 0 ∨ 6 ≤ (1 : Int32).toNatClampNeg) by decide) h_x1 dL_law_191 ?_
  refine z_aload_n B dL_law_192 rfl 5 rfl ?_
  refine z_iload B dL_law_193 1 rfl ?_
  refine z_iconst (v := 2) B dL_law_195 (by decide) ?_
  refine z_iadd B dL_law_196 ?_
  refine z_seti (y := 2) (by decide) ?_
  refine z_sld (j := 2) (x := x2) B hX hbl hbA (by decide) (show ¬ ((2 : Int32) < 0 ∨ 6 ≤ (2 : Int32).toNatClampNeg) by decide) h_x2 dL_law_197 ?_
  refine z_aload_n B dL_law_198 rfl 5 rfl ?_
  refine z_iload B dL_law_199 1 rfl ?_
  refine z_iconst (v := 3) B dL_law_201 (by decide) ?_
  refine z_iadd B dL_law_202 ?_
  refine z_seti (y := 3) (by decide) ?_
  refine z_sld (j := 3) (x := x3) B hX hbl hbA (by decide) (show ¬ ((3 : Int32) < 0 ∨ 6 ≤ (3 : Int32).toNatClampNeg) by decide) h_x3 dL_law_203 ?_
  refine z_aload_n B dL_law_204 rfl 5 rfl ?_
  refine z_iload B dL_law_205 1 rfl ?_
  refine z_iconst (v := 4) B dL_law_207 (by decide) ?_
  refine z_iadd B dL_law_208 ?_
  refine z_seti (y := 4) (by decide) ?_
  refine z_sld (j := 4) (x := x4) B hX hbl hbA (by decide) (show ¬ ((4 : Int32) < 0 ∨ 6 ≤ (4 : Int32).toNatClampNeg) by decide) h_x4 dL_law_209 ?_
  refine z_aload_n B dL_law_210 rfl 5 rfl ?_
  refine z_iload B dL_law_211 1 rfl ?_
  refine z_iconst (v := 5) B dL_law_213 (by decide) ?_
  refine z_iadd B dL_law_214 ?_
  refine z_seti (y := 5) (by decide) ?_
  refine z_sld (j := 5) (x := x5) B hX hbl hbA (by decide) (show ¬ ((5 : Int32) < 0 ∨ 6 ≤ (5 : Int32).toNatClampNeg) by decide) h_x5 dL_law_215 ?_
  refine z_cVi (As := [.int 4, .int x2, .int x3, .int x4, .int x5]) (rest := []) B cw_L_79 cx_10 dL_law_216 (ci_X9_set_279 l (σ := (ap b (wx_Z σ z) [] [] [])) (b := b) (lyA (lyZ hK)) x2 x3 x4 x5 q1_x2 q2_x2 q1_x3 q2_x3 q1_x4 q2_x4) (lKA (lKZ (hk_K hK 405 rfl rfl))) rfl (by decide) rfl (Nat.le_of_ble_eq_true rfl) (by decide) (fun r u hu => ?_)
  refine z_eqs (σ' := (ap b (wx_Z σ z) [(405, 0, 1)] [] [])) (hu.2.trans ap_ap) ?_
  show zx p l e _ s m _ below meth c g 8 _ _ _ _ 219 [(5, .int 1), (4, .int 0), (3, .ref (b + 431)), (2, .ref (b + 405)), (1, .ref (b + 0)), (0, .ref bS)] _
  refine z_seti (y := 0) hu.1 ?_
  refine z_istore (lv' := [(6, .int 0), (5, .int 1), (4, .int 0), (3, .ref (b + 431)), (2, .ref (b + 405)), (1, .ref (b + 0)), (0, .ref bS)]) B dL_law_219 (by decide) rfl ?_
  refine z_aload_n B dL_law_221 rfl 4 rfl ?_
  refine z_cVi (As := []) (rest := []) B cw_L_80 cx_10 dL_law_222 (ci_X9_thrown_31 l (σ := (ap b (wx_Z σ z) [(405, 0, 1)] [] [])) (b := b) (lyA (lyZ hK)) (rI_at 405 0 rfl)) (lKA (lKZ (hk_K hK 405 rfl rfl))) rfl (by decide) rfl (Nat.le_of_ble_eq_true rfl) (by decide) (fun r u hu => ?_)
  refine z_eqs (σ' := (ap b (wx_Z σ z) [(405, 0, 1)] [] [])) hu.2 ?_
  show zx p l e _ s m _ below meth c g 8 _ _ _ _ 225 [(6, .int 0), (5, .int 1), (4, .int 0), (3, .ref (b + 431)), (2, .ref (b + 405)), (1, .ref (b + 0)), (0, .ref bS)] _
  refine z_seti (y := 1) hu.1 ?_
  refine z_iload B dL_law_225 1 rfl ?_
  refine z_icmp_eq (tgt := 232) B dL_law_227 (by decide) (fun _ => ?_) (fun h => absurd (by decide) h)
  refine z_iload B dL_law_232 1 rfl ?_
  refine z_if_ne (tgt := 249) B dL_law_234 (by decide) (fun _ => ?_) (fun h => absurd h (by decide))
  refine z_goto (tgt := 1395) B dL_law_249 (by decide) ?_
  exact z_widen (Nat.le_of_ble_eq_true rfl) (Nat.le_of_ble_eq_true rfl) (z_sub _ [2, 6] rfl (kk _))
set_option maxRecDepth 100000 in
set_option maxHeartbeats 4000000 in
theorem lf_0_97 {p : Program} {l : Launch} {e : Env} {s : State} {m : MethodId} {args : Array Value} {below : List Frame} {meth : Method} {c : Code} {g : gx_T} {Q : State → Prop} {σ : sx_T} {b t bS : Nat} {xs : Nat → Int32} (hlt : l.stackTraces = false) (B : zx_B p s m args meth c code RL 8 g) (hX : va_X bS 6 xs s s.heap) (hbl : bS < s.heap.size) (hbA : ¬ gx_b g ≤ bS) (hF : fz_P b t σ) (h_x1 : xs 1 = 4) {x2 : Int32} (h_x2 : xs 2 = x2) (q1_x2 : (-2147483648 : Int) ≤ x2.toInt) (q2_x2 : x2.toInt ≤ (-1 : Int)) {x3 : Int32} (h_x3 : xs 3 = x3) (q1_x3 : (18 : Int) ≤ x3.toInt) (q2_x3 : x3.toInt ≤ (2147483647 : Int)) {x4 : Int32} (h_x4 : xs 4 = x4) (q1_x4 : (-2147483648 : Int) ≤ x4.toInt) (q2_x4 : x4.toInt ≤ (2147483647 : Int)) {x5 : Int32} (h_x5 : xs 5 = x5) (q1_x5 : (-2147483648 : Int) ≤ x5.toInt) (q2_x5 : x5.toInt ≤ (2147483647 : Int)) (kk : ∀ σ', zx p l e room_1 s m args below meth c g 8 600002 7302232 Q σ' 1395 [(4, .int 0), (0, .ref bS)] []) : zx p l e room_1 s m args below meth c g 8 500 100000 Q σ 148 [(4, .int 0), (3, .ref (b + 431)), (2, .ref (b + 405)), (1, .ref (b + 0)), (0, .ref bS)] [] := by
  have hK := fz_lay hF
  refine z_eqs (σ' := (ap b σ [] [] [])) rfl ?_
  refine z_aload_n B dL_law_148 rfl 3 rfl ?_
  refine z_aload_n B dL_law_149 rfl 4 rfl ?_
  refine z_iload B dL_law_150 0 rfl ?_
  refine z_iconst (v := 1) B dL_law_152 (by decide) ?_
  refine z_iadd B dL_law_153 ?_
  refine z_seti (y := 1) (by decide) ?_
  refine z_sld (j := 1) (x := 4) B hX hbl hbA (by decide) (show ¬ ((1 : Int32) < 0 ∨ 6 ≤ (1 : Int32).toNatClampNeg) by decide) h_x1 dL_law_154 ?_
  refine z_aload_n B dL_law_155 rfl 4 rfl ?_
  refine z_iload B dL_law_156 0 rfl ?_
  refine z_iconst (v := 2) B dL_law_158 (by decide) ?_
  refine z_iadd B dL_law_159 ?_
  refine z_seti (y := 2) (by decide) ?_
  refine z_sld (j := 2) (x := x2) B hX hbl hbA (by decide) (show ¬ ((2 : Int32) < 0 ∨ 6 ≤ (2 : Int32).toNatClampNeg) by decide) h_x2 dL_law_160 ?_
  refine z_aload_n B dL_law_161 rfl 4 rfl ?_
  refine z_iload B dL_law_162 0 rfl ?_
  refine z_iconst (v := 3) B dL_law_164 (by decide) ?_
  refine z_iadd B dL_law_165 ?_
  refine z_seti (y := 3) (by decide) ?_
  refine z_sld (j := 3) (x := x3) B hX hbl hbA (by decide) (show ¬ ((3 : Int32) < 0 ∨ 6 ≤ (3 : Int32).toNatClampNeg) by decide) h_x3 dL_law_166 ?_
  refine z_aload_n B dL_law_167 rfl 4 rfl ?_
  refine z_iload B dL_law_168 0 rfl ?_
  refine z_iconst (v := 4) B dL_law_170 (by decide) ?_
  refine z_iadd B dL_law_171 ?_
  refine z_seti (y := 4) (by decide) ?_
  refine z_sld (j := 4) (x := x4) B hX hbl hbA (by decide) (show ¬ ((4 : Int32) < 0 ∨ 6 ≤ (4 : Int32).toNatClampNeg) by decide) h_x4 dL_law_172 ?_
  refine z_aload_n B dL_law_173 rfl 4 rfl ?_
  refine z_iload B dL_law_174 0 rfl ?_
  refine z_iconst (v := 5) B dL_law_176 (by decide) ?_
  refine z_iadd B dL_law_177 ?_
  refine z_seti (y := 5) (by decide) ?_
  refine z_sld (j := 5) (x := x5) B hX hbl hbA (by decide) (show ¬ ((5 : Int32) < 0 ∨ 6 ≤ (5 : Int32).toNatClampNeg) by decide) h_x5 dL_law_178 ?_
  refine z_aload_n B dL_law_179 rfl 1 rfl ?_
  refine z_cSWi (As := [.ref (b + 0), .int 4, .int x2, .int x3, .int x4, .int x5, .ref (b + 431)]) (rest := []) B cw_L_74 dL_law_180 (ci_L_set_271 l hlt (σ := (ap b σ [] [] [])) (b := b) (lyA hK) x2 x3 x4 x5 q1_x2 q2_x2 (rR_at 0 0 (fz_R hF 0 0 rfl rfl)) (rR_at 1 4 (fz_R hF 1 4 rfl rfl))) rfl (by decide) rfl (Nat.le_of_ble_eq_true rfl) (by decide) (fun r u hu => ?_)
  obtain ⟨hu1, z, hu⟩ := hu
  refine z_eqs (σ' := (ap b (wx_Z σ z) [] [] [])) (hu.trans az_ap) ?_
  show zx p l e _ s m _ below meth c g 8 _ _ _ _ 183 [(4, .int 0), (3, .ref (b + 431)), (2, .ref (b + 405)), (1, .ref (b + 0)), (0, .ref bS)] _
  refine z_seti (y := 1) hu1 ?_
  refine z_istore (lv' := [(5, .int 1), (4, .int 0), (3, .ref (b + 431)), (2, .ref (b + 405)), (1, .ref (b + 0)), (0, .ref bS)]) B dL_law_183 (by decide) rfl ?_
  refine z_aload_n B dL_law_185 rfl 3 rfl ?_
  refine z_aload_n B dL_law_186 rfl 5 rfl ?_
  refine z_iload B dL_law_187 1 rfl ?_
  refine z_iconst (v := 1) B dL_law_189 (by decide) ?_
  refine z_iadd B dL_law_190 ?_
  refine z_seti (y := 1) (by decide) ?_
  refine z_sld (j := 1) (x := 4) B hX hbl hbA (by decide) (show ¬ ((1 : Int32) < 0 ∨ 6 ≤ (1 : Int32).toNatClampNeg) by decide) h_x1 dL_law_191 ?_
  refine z_aload_n B dL_law_192 rfl 5 rfl ?_
  refine z_iload B dL_law_193 1 rfl ?_
  refine z_iconst (v := 2) B dL_law_195 (by decide) ?_
  refine z_iadd B dL_law_196 ?_
  refine z_seti (y := 2) (by decide) ?_
  refine z_sld (j := 2) (x := x2) B hX hbl hbA (by decide) (show ¬ ((2 : Int32) < 0 ∨ 6 ≤ (2 : Int32).toNatClampNeg) by decide) h_x2 dL_law_197 ?_
  refine z_aload_n B dL_law_198 rfl 5 rfl ?_
  refine z_iload B dL_law_199 1 rfl ?_
  refine z_iconst (v := 3) B dL_law_201 (by decide) ?_
  refine z_iadd B dL_law_202 ?_
  refine z_seti (y := 3) (by decide) ?_
  refine z_sld (j := 3) (x := x3) B hX hbl hbA (by decide) (show ¬ ((3 : Int32) < 0 ∨ 6 ≤ (3 : Int32).toNatClampNeg) by decide) h_x3 dL_law_203 ?_
  refine z_aload_n B dL_law_204 rfl 5 rfl ?_
  refine z_iload B dL_law_205 1 rfl ?_
  refine z_iconst (v := 4) B dL_law_207 (by decide) ?_
  refine z_iadd B dL_law_208 ?_
  refine z_seti (y := 4) (by decide) ?_
  refine z_sld (j := 4) (x := x4) B hX hbl hbA (by decide) (show ¬ ((4 : Int32) < 0 ∨ 6 ≤ (4 : Int32).toNatClampNeg) by decide) h_x4 dL_law_209 ?_
  refine z_aload_n B dL_law_210 rfl 5 rfl ?_
  refine z_iload B dL_law_211 1 rfl ?_
  refine z_iconst (v := 5) B dL_law_213 (by decide) ?_
  refine z_iadd B dL_law_214 ?_
  refine z_seti (y := 5) (by decide) ?_
  refine z_sld (j := 5) (x := x5) B hX hbl hbA (by decide) (show ¬ ((5 : Int32) < 0 ∨ 6 ≤ (5 : Int32).toNatClampNeg) by decide) h_x5 dL_law_215 ?_
  refine z_cVi (As := [.int 4, .int x2, .int x3, .int x4, .int x5]) (rest := []) B cw_L_79 cx_10 dL_law_216 (ci_X9_set_280 l (σ := (ap b (wx_Z σ z) [] [] [])) (b := b) (lyA (lyZ hK)) x2 x3 x4 x5 q1_x2 q2_x2 q1_x3 q2_x3) (lKA (lKZ (hk_K hK 405 rfl rfl))) rfl (by decide) rfl (Nat.le_of_ble_eq_true rfl) (by decide) (fun r u hu => ?_)
  refine z_eqs (σ' := (ap b (wx_Z σ z) [(405, 0, 1)] [] [])) (hu.2.trans ap_ap) ?_
  show zx p l e _ s m _ below meth c g 8 _ _ _ _ 219 [(5, .int 1), (4, .int 0), (3, .ref (b + 431)), (2, .ref (b + 405)), (1, .ref (b + 0)), (0, .ref bS)] _
  refine z_seti (y := 0) hu.1 ?_
  refine z_istore (lv' := [(6, .int 0), (5, .int 1), (4, .int 0), (3, .ref (b + 431)), (2, .ref (b + 405)), (1, .ref (b + 0)), (0, .ref bS)]) B dL_law_219 (by decide) rfl ?_
  refine z_aload_n B dL_law_221 rfl 4 rfl ?_
  refine z_cVi (As := []) (rest := []) B cw_L_80 cx_10 dL_law_222 (ci_X9_thrown_31 l (σ := (ap b (wx_Z σ z) [(405, 0, 1)] [] [])) (b := b) (lyA (lyZ hK)) (rI_at 405 0 rfl)) (lKA (lKZ (hk_K hK 405 rfl rfl))) rfl (by decide) rfl (Nat.le_of_ble_eq_true rfl) (by decide) (fun r u hu => ?_)
  refine z_eqs (σ' := (ap b (wx_Z σ z) [(405, 0, 1)] [] [])) hu.2 ?_
  show zx p l e _ s m _ below meth c g 8 _ _ _ _ 225 [(6, .int 0), (5, .int 1), (4, .int 0), (3, .ref (b + 431)), (2, .ref (b + 405)), (1, .ref (b + 0)), (0, .ref bS)] _
  refine z_seti (y := 1) hu.1 ?_
  refine z_iload B dL_law_225 1 rfl ?_
  refine z_icmp_eq (tgt := 232) B dL_law_227 (by decide) (fun _ => ?_) (fun h => absurd (by decide) h)
  refine z_iload B dL_law_232 1 rfl ?_
  refine z_if_ne (tgt := 249) B dL_law_234 (by decide) (fun _ => ?_) (fun h => absurd h (by decide))
  refine z_goto (tgt := 1395) B dL_law_249 (by decide) ?_
  exact z_widen (Nat.le_of_ble_eq_true rfl) (Nat.le_of_ble_eq_true rfl) (z_sub _ [2, 6] rfl (kk _))
set_option maxRecDepth 100000 in
set_option maxHeartbeats 4000000 in
theorem lf_0_98 {p : Program} {l : Launch} {e : Env} {s : State} {m : MethodId} {args : Array Value} {below : List Frame} {meth : Method} {c : Code} {g : gx_T} {Q : State → Prop} {σ : sx_T} {b t bS : Nat} {xs : Nat → Int32} (hlt : l.stackTraces = false) (B : zx_B p s m args meth c code RL 8 g) (hX : va_X bS 6 xs s s.heap) (hbl : bS < s.heap.size) (hbA : ¬ gx_b g ≤ bS) (hF : fz_P b t σ) (h_x1 : xs 1 = 4) {x2 : Int32} (h_x2 : xs 2 = x2) (q1_x2 : (0 : Int) ≤ x2.toInt) (q2_x2 : x2.toInt ≤ (19 : Int)) {x3 : Int32} (h_x3 : xs 3 = x3) (q1_x3 : (-2147483648 : Int) ≤ x3.toInt) (q2_x3 : x3.toInt ≤ (-1 : Int)) {x4 : Int32} (h_x4 : xs 4 = x4) (q1_x4 : (-2147483648 : Int) ≤ x4.toInt) (q2_x4 : x4.toInt ≤ (2147483647 : Int)) {x5 : Int32} (h_x5 : xs 5 = x5) (q1_x5 : (-2147483648 : Int) ≤ x5.toInt) (q2_x5 : x5.toInt ≤ (2147483647 : Int)) (kk : ∀ σ', zx p l e room_1 s m args below meth c g 8 600002 7302232 Q σ' 1395 [(4, .int 0), (0, .ref bS)] []) : zx p l e room_1 s m args below meth c g 8 500 100000 Q σ 148 [(4, .int 0), (3, .ref (b + 431)), (2, .ref (b + 405)), (1, .ref (b + 0)), (0, .ref bS)] [] := by
  have hK := fz_lay hF
  refine z_eqs (σ' := (ap b σ [] [] [])) rfl ?_
  refine z_aload_n B dL_law_148 rfl 3 rfl ?_
  refine z_aload_n B dL_law_149 rfl 4 rfl ?_
  refine z_iload B dL_law_150 0 rfl ?_
  refine z_iconst (v := 1) B dL_law_152 (by decide) ?_
  refine z_iadd B dL_law_153 ?_
  refine z_seti (y := 1) (by decide) ?_
  refine z_sld (j := 1) (x := 4) B hX hbl hbA (by decide) (show ¬ ((1 : Int32) < 0 ∨ 6 ≤ (1 : Int32).toNatClampNeg) by decide) h_x1 dL_law_154 ?_
  refine z_aload_n B dL_law_155 rfl 4 rfl ?_
  refine z_iload B dL_law_156 0 rfl ?_
  refine z_iconst (v := 2) B dL_law_158 (by decide) ?_
  refine z_iadd B dL_law_159 ?_
  refine z_seti (y := 2) (by decide) ?_
  refine z_sld (j := 2) (x := x2) B hX hbl hbA (by decide) (show ¬ ((2 : Int32) < 0 ∨ 6 ≤ (2 : Int32).toNatClampNeg) by decide) h_x2 dL_law_160 ?_
  refine z_aload_n B dL_law_161 rfl 4 rfl ?_
  refine z_iload B dL_law_162 0 rfl ?_
  refine z_iconst (v := 3) B dL_law_164 (by decide) ?_
  refine z_iadd B dL_law_165 ?_
  refine z_seti (y := 3) (by decide) ?_
  refine z_sld (j := 3) (x := x3) B hX hbl hbA (by decide) (show ¬ ((3 : Int32) < 0 ∨ 6 ≤ (3 : Int32).toNatClampNeg) by decide) h_x3 dL_law_166 ?_
  refine z_aload_n B dL_law_167 rfl 4 rfl ?_
  refine z_iload B dL_law_168 0 rfl ?_
  refine z_iconst (v := 4) B dL_law_170 (by decide) ?_
  refine z_iadd B dL_law_171 ?_
  refine z_seti (y := 4) (by decide) ?_
  refine z_sld (j := 4) (x := x4) B hX hbl hbA (by decide) (show ¬ ((4 : Int32) < 0 ∨ 6 ≤ (4 : Int32).toNatClampNeg) by decide) h_x4 dL_law_172 ?_
  refine z_aload_n B dL_law_173 rfl 4 rfl ?_
  refine z_iload B dL_law_174 0 rfl ?_
  refine z_iconst (v := 5) B dL_law_176 (by decide) ?_
  refine z_iadd B dL_law_177 ?_
  refine z_seti (y := 5) (by decide) ?_
  refine z_sld (j := 5) (x := x5) B hX hbl hbA (by decide) (show ¬ ((5 : Int32) < 0 ∨ 6 ≤ (5 : Int32).toNatClampNeg) by decide) h_x5 dL_law_178 ?_
  refine z_aload_n B dL_law_179 rfl 1 rfl ?_
  refine z_cSWi (As := [.ref (b + 0), .int 4, .int x2, .int x3, .int x4, .int x5, .ref (b + 431)]) (rest := []) B cw_L_74 dL_law_180 (ci_L_set_282 l hlt (σ := (ap b σ [] [] [])) (b := b) (lyA hK) x2 x3 x4 x5 q1_x2 q2_x2 q1_x3 q2_x3 (rR_at 0 0 (fz_R hF 0 0 rfl rfl)) (rR_at 1 4 (fz_R hF 1 4 rfl rfl))) rfl (by decide) rfl (Nat.le_of_ble_eq_true rfl) (by decide) (fun r u hu => ?_)
  obtain ⟨hu1, z, hu⟩ := hu
  refine z_eqs (σ' := (ap b (wx_Z σ z) [] [] [])) (hu.trans az_ap) ?_
  show zx p l e _ s m _ below meth c g 8 _ _ _ _ 183 [(4, .int 0), (3, .ref (b + 431)), (2, .ref (b + 405)), (1, .ref (b + 0)), (0, .ref bS)] _
  refine z_seti (y := 2) hu1 ?_
  refine z_istore (lv' := [(5, .int 2), (4, .int 0), (3, .ref (b + 431)), (2, .ref (b + 405)), (1, .ref (b + 0)), (0, .ref bS)]) B dL_law_183 (by decide) rfl ?_
  refine z_aload_n B dL_law_185 rfl 3 rfl ?_
  refine z_aload_n B dL_law_186 rfl 5 rfl ?_
  refine z_iload B dL_law_187 1 rfl ?_
  refine z_iconst (v := 1) B dL_law_189 (by decide) ?_
  refine z_iadd B dL_law_190 ?_
  refine z_seti (y := 1) (by decide) ?_
  refine z_sld (j := 1) (x := 4) B hX hbl hbA (by decide) (show ¬ ((1 : Int32) < 0 ∨ 6 ≤ (1 : Int32).toNatClampNeg) by decide) h_x1 dL_law_191 ?_
  refine z_aload_n B dL_law_192 rfl 5 rfl ?_
  refine z_iload B dL_law_193 1 rfl ?_
  refine z_iconst (v := 2) B dL_law_195 (by decide) ?_
  refine z_iadd B dL_law_196 ?_
  refine z_seti (y := 2) (by decide) ?_
  refine z_sld (j := 2) (x := x2) B hX hbl hbA (by decide) (show ¬ ((2 : Int32) < 0 ∨ 6 ≤ (2 : Int32).toNatClampNeg) by decide) h_x2 dL_law_197 ?_
  refine z_aload_n B dL_law_198 rfl 5 rfl ?_
  refine z_iload B dL_law_199 1 rfl ?_
  refine z_iconst (v := 3) B dL_law_201 (by decide) ?_
  refine z_iadd B dL_law_202 ?_
  refine z_seti (y := 3) (by decide) ?_
  refine z_sld (j := 3) (x := x3) B hX hbl hbA (by decide) (show ¬ ((3 : Int32) < 0 ∨ 6 ≤ (3 : Int32).toNatClampNeg) by decide) h_x3 dL_law_203 ?_
  refine z_aload_n B dL_law_204 rfl 5 rfl ?_
  refine z_iload B dL_law_205 1 rfl ?_
  refine z_iconst (v := 4) B dL_law_207 (by decide) ?_
  refine z_iadd B dL_law_208 ?_
  refine z_seti (y := 4) (by decide) ?_
  refine z_sld (j := 4) (x := x4) B hX hbl hbA (by decide) (show ¬ ((4 : Int32) < 0 ∨ 6 ≤ (4 : Int32).toNatClampNeg) by decide) h_x4 dL_law_209 ?_
  refine z_aload_n B dL_law_210 rfl 5 rfl ?_
  refine z_iload B dL_law_211 1 rfl ?_
  refine z_iconst (v := 5) B dL_law_213 (by decide) ?_
  refine z_iadd B dL_law_214 ?_
  refine z_seti (y := 5) (by decide) ?_
  refine z_sld (j := 5) (x := x5) B hX hbl hbA (by decide) (show ¬ ((5 : Int32) < 0 ∨ 6 ≤ (5 : Int32).toNatClampNeg) by decide) h_x5 dL_law_215 ?_
  refine z_cVi (As := [.int 4, .int x2, .int x3, .int x4, .int x5]) (rest := []) B cw_L_79 cx_10 dL_law_216 (ci_X9_set_284 l (σ := (ap b (wx_Z σ z) [] [] [])) (b := b) (lyA (lyZ hK)) x2 x3 x4 x5 q1_x2 q2_x2 q1_x3 q2_x3) (lKA (lKZ (hk_K hK 405 rfl rfl))) rfl (by decide) rfl (Nat.le_of_ble_eq_true rfl) (by decide) (fun r u hu => ?_)
  refine z_eqs (σ' := (ap b (wx_Z σ z) [(405, 0, 2)] [] [])) (hu.2.trans ap_ap) ?_
  show zx p l e _ s m _ below meth c g 8 _ _ _ _ 219 [(5, .int 2), (4, .int 0), (3, .ref (b + 431)), (2, .ref (b + 405)), (1, .ref (b + 0)), (0, .ref bS)] _
  refine z_seti (y := 0) hu.1 ?_
  refine z_istore (lv' := [(6, .int 0), (5, .int 2), (4, .int 0), (3, .ref (b + 431)), (2, .ref (b + 405)), (1, .ref (b + 0)), (0, .ref bS)]) B dL_law_219 (by decide) rfl ?_
  refine z_aload_n B dL_law_221 rfl 4 rfl ?_
  refine z_cVi (As := []) (rest := []) B cw_L_80 cx_10 dL_law_222 (ci_X9_thrown_73 l (σ := (ap b (wx_Z σ z) [(405, 0, 2)] [] [])) (b := b) (lyA (lyZ hK)) (rI_at 405 0 rfl)) (lKA (lKZ (hk_K hK 405 rfl rfl))) rfl (by decide) rfl (Nat.le_of_ble_eq_true rfl) (by decide) (fun r u hu => ?_)
  refine z_eqs (σ' := (ap b (wx_Z σ z) [(405, 0, 2)] [] [])) hu.2 ?_
  show zx p l e _ s m _ below meth c g 8 _ _ _ _ 225 [(6, .int 0), (5, .int 2), (4, .int 0), (3, .ref (b + 431)), (2, .ref (b + 405)), (1, .ref (b + 0)), (0, .ref bS)] _
  refine z_seti (y := 2) hu.1 ?_
  refine z_iload B dL_law_225 1 rfl ?_
  refine z_icmp_eq (tgt := 232) B dL_law_227 (by decide) (fun _ => ?_) (fun h => absurd (by decide) h)
  refine z_iload B dL_law_232 1 rfl ?_
  refine z_if_ne (tgt := 249) B dL_law_234 (by decide) (fun _ => ?_) (fun h => absurd h (by decide))
  refine z_goto (tgt := 1395) B dL_law_249 (by decide) ?_
  exact z_widen (Nat.le_of_ble_eq_true rfl) (Nat.le_of_ble_eq_true rfl) (z_sub _ [2, 6] rfl (kk _))
set_option maxRecDepth 100000 in
set_option maxHeartbeats 4000000 in
theorem lf_0_99 {p : Program} {l : Launch} {e : Env} {s : State} {m : MethodId} {args : Array Value} {below : List Frame} {meth : Method} {c : Code} {g : gx_T} {Q : State → Prop} {σ : sx_T} {b t bS : Nat} {xs : Nat → Int32} (hlt : l.stackTraces = false) (B : zx_B p s m args meth c code RL 8 g) (hX : va_X bS 6 xs s s.heap) (hbl : bS < s.heap.size) (hbA : ¬ gx_b g ≤ bS) (hF : fz_P b t σ) (h_x1 : xs 1 = 4) {x2 : Int32} (h_x2 : xs 2 = x2) (q1_x2 : (0 : Int) ≤ x2.toInt) (q2_x2 : x2.toInt ≤ (19 : Int)) {x3 : Int32} (h_x3 : xs 3 = x3) (q1_x3 : (0 : Int) ≤ x3.toInt) (q2_x3 : x3.toInt ≤ (17 : Int)) {x4 : Int32} (h_x4 : xs 4 = x4) (q1_x4 : (-2147483648 : Int) ≤ x4.toInt) (q2_x4 : x4.toInt ≤ (-1 : Int)) {x5 : Int32} (h_x5 : xs 5 = x5) (q1_x5 : (-2147483648 : Int) ≤ x5.toInt) (q2_x5 : x5.toInt ≤ (2147483647 : Int)) (kk : ∀ σ', zx p l e room_1 s m args below meth c g 8 600002 7302232 Q σ' 1395 [(4, .int 0), (0, .ref bS)] []) : zx p l e room_1 s m args below meth c g 8 500 100000 Q σ 148 [(4, .int 0), (3, .ref (b + 431)), (2, .ref (b + 405)), (1, .ref (b + 0)), (0, .ref bS)] [] := by
  have hK := fz_lay hF
  refine z_eqs (σ' := (ap b σ [] [] [])) rfl ?_
  refine z_aload_n B dL_law_148 rfl 3 rfl ?_
  refine z_aload_n B dL_law_149 rfl 4 rfl ?_
  refine z_iload B dL_law_150 0 rfl ?_
  refine z_iconst (v := 1) B dL_law_152 (by decide) ?_
  refine z_iadd B dL_law_153 ?_
  refine z_seti (y := 1) (by decide) ?_
  refine z_sld (j := 1) (x := 4) B hX hbl hbA (by decide) (show ¬ ((1 : Int32) < 0 ∨ 6 ≤ (1 : Int32).toNatClampNeg) by decide) h_x1 dL_law_154 ?_
  refine z_aload_n B dL_law_155 rfl 4 rfl ?_
  refine z_iload B dL_law_156 0 rfl ?_
  refine z_iconst (v := 2) B dL_law_158 (by decide) ?_
  refine z_iadd B dL_law_159 ?_
  refine z_seti (y := 2) (by decide) ?_
  refine z_sld (j := 2) (x := x2) B hX hbl hbA (by decide) (show ¬ ((2 : Int32) < 0 ∨ 6 ≤ (2 : Int32).toNatClampNeg) by decide) h_x2 dL_law_160 ?_
  refine z_aload_n B dL_law_161 rfl 4 rfl ?_
  refine z_iload B dL_law_162 0 rfl ?_
  refine z_iconst (v := 3) B dL_law_164 (by decide) ?_
  refine z_iadd B dL_law_165 ?_
  refine z_seti (y := 3) (by decide) ?_
  refine z_sld (j := 3) (x := x3) B hX hbl hbA (by decide) (show ¬ ((3 : Int32) < 0 ∨ 6 ≤ (3 : Int32).toNatClampNeg) by decide) h_x3 dL_law_166 ?_
  refine z_aload_n B dL_law_167 rfl 4 rfl ?_
  refine z_iload B dL_law_168 0 rfl ?_
  refine z_iconst (v := 4) B dL_law_170 (by decide) ?_
  refine z_iadd B dL_law_171 ?_
  refine z_seti (y := 4) (by decide) ?_
  refine z_sld (j := 4) (x := x4) B hX hbl hbA (by decide) (show ¬ ((4 : Int32) < 0 ∨ 6 ≤ (4 : Int32).toNatClampNeg) by decide) h_x4 dL_law_172 ?_
  refine z_aload_n B dL_law_173 rfl 4 rfl ?_
  refine z_iload B dL_law_174 0 rfl ?_
  refine z_iconst (v := 5) B dL_law_176 (by decide) ?_
  refine z_iadd B dL_law_177 ?_
  refine z_seti (y := 5) (by decide) ?_
  refine z_sld (j := 5) (x := x5) B hX hbl hbA (by decide) (show ¬ ((5 : Int32) < 0 ∨ 6 ≤ (5 : Int32).toNatClampNeg) by decide) h_x5 dL_law_178 ?_
  refine z_aload_n B dL_law_179 rfl 1 rfl ?_
  refine z_cSWi (As := [.ref (b + 0), .int 4, .int x2, .int x3, .int x4, .int x5, .ref (b + 431)]) (rest := []) B cw_L_74 dL_law_180 (ci_L_set_286 l hlt (σ := (ap b σ [] [] [])) (b := b) (lyA hK) x2 x3 x4 x5 q1_x2 q2_x2 q1_x3 q2_x3 q1_x4 q2_x4 (rR_at 0 0 (fz_R hF 0 0 rfl rfl)) (rR_at 1 4 (fz_R hF 1 4 rfl rfl))) rfl (by decide) rfl (Nat.le_of_ble_eq_true rfl) (by decide) (fun r u hu => ?_)
  obtain ⟨hu1, z, hu⟩ := hu
  refine z_eqs (σ' := (ap b (wx_Z σ z) [] [] [])) (hu.trans az_ap) ?_
  show zx p l e _ s m _ below meth c g 8 _ _ _ _ 183 [(4, .int 0), (3, .ref (b + 431)), (2, .ref (b + 405)), (1, .ref (b + 0)), (0, .ref bS)] _
  refine z_seti (y := 2) hu1 ?_
  refine z_istore (lv' := [(5, .int 2), (4, .int 0), (3, .ref (b + 431)), (2, .ref (b + 405)), (1, .ref (b + 0)), (0, .ref bS)]) B dL_law_183 (by decide) rfl ?_
  refine z_aload_n B dL_law_185 rfl 3 rfl ?_
  refine z_aload_n B dL_law_186 rfl 5 rfl ?_
  refine z_iload B dL_law_187 1 rfl ?_
  refine z_iconst (v := 1) B dL_law_189 (by decide) ?_
  refine z_iadd B dL_law_190 ?_
  refine z_seti (y := 1) (by decide) ?_
  refine z_sld (j := 1) (x := 4) B hX hbl hbA (by decide) (show ¬ ((1 : Int32) < 0 ∨ 6 ≤ (1 : Int32).toNatClampNeg) by decide) h_x1 dL_law_191 ?_
  refine z_aload_n B dL_law_192 rfl 5 rfl ?_
  refine z_iload B dL_law_193 1 rfl ?_
  refine z_iconst (v := 2) B dL_law_195 (by decide) ?_
  refine z_iadd B dL_law_196 ?_
  refine z_seti (y := 2) (by decide) ?_
  refine z_sld (j := 2) (x := x2) B hX hbl hbA (by decide) (show ¬ ((2 : Int32) < 0 ∨ 6 ≤ (2 : Int32).toNatClampNeg) by decide) h_x2 dL_law_197 ?_
  refine z_aload_n B dL_law_198 rfl 5 rfl ?_
  refine z_iload B dL_law_199 1 rfl ?_
  refine z_iconst (v := 3) B dL_law_201 (by decide) ?_
  refine z_iadd B dL_law_202 ?_
  refine z_seti (y := 3) (by decide) ?_
  refine z_sld (j := 3) (x := x3) B hX hbl hbA (by decide) (show ¬ ((3 : Int32) < 0 ∨ 6 ≤ (3 : Int32).toNatClampNeg) by decide) h_x3 dL_law_203 ?_
  refine z_aload_n B dL_law_204 rfl 5 rfl ?_
  refine z_iload B dL_law_205 1 rfl ?_
  refine z_iconst (v := 4) B dL_law_207 (by decide) ?_
  refine z_iadd B dL_law_208 ?_
  refine z_seti (y := 4) (by decide) ?_
  refine z_sld (j := 4) (x := x4) B hX hbl hbA (by decide) (show ¬ ((4 : Int32) < 0 ∨ 6 ≤ (4 : Int32).toNatClampNeg) by decide) h_x4 dL_law_209 ?_
  refine z_aload_n B dL_law_210 rfl 5 rfl ?_
  refine z_iload B dL_law_211 1 rfl ?_
  refine z_iconst (v := 5) B dL_law_213 (by decide) ?_
  refine z_iadd B dL_law_214 ?_
  refine z_seti (y := 5) (by decide) ?_
  refine z_sld (j := 5) (x := x5) B hX hbl hbA (by decide) (show ¬ ((5 : Int32) < 0 ∨ 6 ≤ (5 : Int32).toNatClampNeg) by decide) h_x5 dL_law_215 ?_
  refine z_cVi (As := [.int 4, .int x2, .int x3, .int x4, .int x5]) (rest := []) B cw_L_79 cx_10 dL_law_216 (ci_X9_set_287 l (σ := (ap b (wx_Z σ z) [] [] [])) (b := b) (lyA (lyZ hK)) x2 x3 x4 x5 q1_x2 q2_x2 q1_x3 q2_x3 q1_x4 q2_x4) (lKA (lKZ (hk_K hK 405 rfl rfl))) rfl (by decide) rfl (Nat.le_of_ble_eq_true rfl) (by decide) (fun r u hu => ?_)
  refine z_eqs (σ' := (ap b (wx_Z σ z) [(405, 0, 2)] [] [])) (hu.2.trans ap_ap) ?_
  show zx p l e _ s m _ below meth c g 8 _ _ _ _ 219 [(5, .int 2), (4, .int 0), (3, .ref (b + 431)), (2, .ref (b + 405)), (1, .ref (b + 0)), (0, .ref bS)] _
  refine z_seti (y := 0) hu.1 ?_
  refine z_istore (lv' := [(6, .int 0), (5, .int 2), (4, .int 0), (3, .ref (b + 431)), (2, .ref (b + 405)), (1, .ref (b + 0)), (0, .ref bS)]) B dL_law_219 (by decide) rfl ?_
  refine z_aload_n B dL_law_221 rfl 4 rfl ?_
  refine z_cVi (As := []) (rest := []) B cw_L_80 cx_10 dL_law_222 (ci_X9_thrown_73 l (σ := (ap b (wx_Z σ z) [(405, 0, 2)] [] [])) (b := b) (lyA (lyZ hK)) (rI_at 405 0 rfl)) (lKA (lKZ (hk_K hK 405 rfl rfl))) rfl (by decide) rfl (Nat.le_of_ble_eq_true rfl) (by decide) (fun r u hu => ?_)
  refine z_eqs (σ' := (ap b (wx_Z σ z) [(405, 0, 2)] [] [])) hu.2 ?_
  show zx p l e _ s m _ below meth c g 8 _ _ _ _ 225 [(6, .int 0), (5, .int 2), (4, .int 0), (3, .ref (b + 431)), (2, .ref (b + 405)), (1, .ref (b + 0)), (0, .ref bS)] _
  refine z_seti (y := 2) hu.1 ?_
  refine z_iload B dL_law_225 1 rfl ?_
  refine z_icmp_eq (tgt := 232) B dL_law_227 (by decide) (fun _ => ?_) (fun h => absurd (by decide) h)
  refine z_iload B dL_law_232 1 rfl ?_
  refine z_if_ne (tgt := 249) B dL_law_234 (by decide) (fun _ => ?_) (fun h => absurd h (by decide))
  refine z_goto (tgt := 1395) B dL_law_249 (by decide) ?_
  exact z_widen (Nat.le_of_ble_eq_true rfl) (Nat.le_of_ble_eq_true rfl) (z_sub _ [2, 6] rfl (kk _))
set_option maxRecDepth 100000 in
set_option maxHeartbeats 4000000 in
theorem lf_0_100 {p : Program} {l : Launch} {e : Env} {s : State} {m : MethodId} {args : Array Value} {below : List Frame} {meth : Method} {c : Code} {g : gx_T} {Q : State → Prop} {σ : sx_T} {b t bS : Nat} {xs : Nat → Int32} (hlt : l.stackTraces = false) (B : zx_B p s m args meth c code RL 8 g) (hX : va_X bS 6 xs s s.heap) (hbl : bS < s.heap.size) (hbA : ¬ gx_b g ≤ bS) (hF : fz_P b t σ) (h_x1 : xs 1 = 4) {x2 : Int32} (h_x2 : xs 2 = x2) (q1_x2 : (0 : Int) ≤ x2.toInt) (q2_x2 : x2.toInt ≤ (19 : Int)) {x3 : Int32} (h_x3 : xs 3 = x3) (q1_x3 : (0 : Int) ≤ x3.toInt) (q2_x3 : x3.toInt ≤ (17 : Int)) {x4 : Int32} (h_x4 : xs 4 = x4) (q1_x4 : (0 : Int) ≤ x4.toInt) (q2_x4 : x4.toInt ≤ (99 : Int)) {x5 : Int32} (h_x5 : xs 5 = x5) (q1_x5 : (-2147483648 : Int) ≤ x5.toInt) (q2_x5 : x5.toInt ≤ (-1 : Int)) (kk : ∀ σ', zx p l e room_1 s m args below meth c g 8 600002 7302232 Q σ' 1395 [(4, .int 0), (0, .ref bS)] []) : zx p l e room_1 s m args below meth c g 8 500 100000 Q σ 148 [(4, .int 0), (3, .ref (b + 431)), (2, .ref (b + 405)), (1, .ref (b + 0)), (0, .ref bS)] [] := by
  have hK := fz_lay hF
  refine z_eqs (σ' := (ap b σ [] [] [])) rfl ?_
  refine z_aload_n B dL_law_148 rfl 3 rfl ?_
  refine z_aload_n B dL_law_149 rfl 4 rfl ?_
  refine z_iload B dL_law_150 0 rfl ?_
  refine z_iconst (v := 1) B dL_law_152 (by decide) ?_
  refine z_iadd B dL_law_153 ?_
  refine z_seti (y := 1) (by decide) ?_
  refine z_sld (j := 1) (x := 4) B hX hbl hbA (by decide) (show ¬ ((1 : Int32) < 0 ∨ 6 ≤ (1 : Int32).toNatClampNeg) by decide) h_x1 dL_law_154 ?_
  refine z_aload_n B dL_law_155 rfl 4 rfl ?_
  refine z_iload B dL_law_156 0 rfl ?_
  refine z_iconst (v := 2) B dL_law_158 (by decide) ?_
  refine z_iadd B dL_law_159 ?_
  refine z_seti (y := 2) (by decide) ?_
  refine z_sld (j := 2) (x := x2) B hX hbl hbA (by decide) (show ¬ ((2 : Int32) < 0 ∨ 6 ≤ (2 : Int32).toNatClampNeg) by decide) h_x2 dL_law_160 ?_
  refine z_aload_n B dL_law_161 rfl 4 rfl ?_
  refine z_iload B dL_law_162 0 rfl ?_
  refine z_iconst (v := 3) B dL_law_164 (by decide) ?_
  refine z_iadd B dL_law_165 ?_
  refine z_seti (y := 3) (by decide) ?_
  refine z_sld (j := 3) (x := x3) B hX hbl hbA (by decide) (show ¬ ((3 : Int32) < 0 ∨ 6 ≤ (3 : Int32).toNatClampNeg) by decide) h_x3 dL_law_166 ?_
  refine z_aload_n B dL_law_167 rfl 4 rfl ?_
  refine z_iload B dL_law_168 0 rfl ?_
  refine z_iconst (v := 4) B dL_law_170 (by decide) ?_
  refine z_iadd B dL_law_171 ?_
  refine z_seti (y := 4) (by decide) ?_
  refine z_sld (j := 4) (x := x4) B hX hbl hbA (by decide) (show ¬ ((4 : Int32) < 0 ∨ 6 ≤ (4 : Int32).toNatClampNeg) by decide) h_x4 dL_law_172 ?_
  refine z_aload_n B dL_law_173 rfl 4 rfl ?_
  refine z_iload B dL_law_174 0 rfl ?_
  refine z_iconst (v := 5) B dL_law_176 (by decide) ?_
  refine z_iadd B dL_law_177 ?_
  refine z_seti (y := 5) (by decide) ?_
  refine z_sld (j := 5) (x := x5) B hX hbl hbA (by decide) (show ¬ ((5 : Int32) < 0 ∨ 6 ≤ (5 : Int32).toNatClampNeg) by decide) h_x5 dL_law_178 ?_
  refine z_aload_n B dL_law_179 rfl 1 rfl ?_
  refine z_cSWi (As := [.ref (b + 0), .int 4, .int x2, .int x3, .int x4, .int x5, .ref (b + 431)]) (rest := []) B cw_L_74 dL_law_180 (ci_L_set_289 l hlt (σ := (ap b σ [] [] [])) (b := b) (lyA hK) x2 x3 x4 x5 q1_x2 q2_x2 q1_x3 q2_x3 q1_x4 q2_x4 q1_x5 q2_x5 (rR_at 0 0 (fz_R hF 0 0 rfl rfl)) (rR_at 1 4 (fz_R hF 1 4 rfl rfl))) rfl (by decide) rfl (Nat.le_of_ble_eq_true rfl) (by decide) (fun r u hu => ?_)
  obtain ⟨hu1, z, hu⟩ := hu
  refine z_eqs (σ' := (ap b (wx_Z σ z) [] [] [])) (hu.trans az_ap) ?_
  show zx p l e _ s m _ below meth c g 8 _ _ _ _ 183 [(4, .int 0), (3, .ref (b + 431)), (2, .ref (b + 405)), (1, .ref (b + 0)), (0, .ref bS)] _
  refine z_seti (y := 2) hu1 ?_
  refine z_istore (lv' := [(5, .int 2), (4, .int 0), (3, .ref (b + 431)), (2, .ref (b + 405)), (1, .ref (b + 0)), (0, .ref bS)]) B dL_law_183 (by decide) rfl ?_
  refine z_aload_n B dL_law_185 rfl 3 rfl ?_
  refine z_aload_n B dL_law_186 rfl 5 rfl ?_
  refine z_iload B dL_law_187 1 rfl ?_
  refine z_iconst (v := 1) B dL_law_189 (by decide) ?_
  refine z_iadd B dL_law_190 ?_
  refine z_seti (y := 1) (by decide) ?_
  refine z_sld (j := 1) (x := 4) B hX hbl hbA (by decide) (show ¬ ((1 : Int32) < 0 ∨ 6 ≤ (1 : Int32).toNatClampNeg) by decide) h_x1 dL_law_191 ?_
  refine z_aload_n B dL_law_192 rfl 5 rfl ?_
  refine z_iload B dL_law_193 1 rfl ?_
  refine z_iconst (v := 2) B dL_law_195 (by decide) ?_
  refine z_iadd B dL_law_196 ?_
  refine z_seti (y := 2) (by decide) ?_
  refine z_sld (j := 2) (x := x2) B hX hbl hbA (by decide) (show ¬ ((2 : Int32) < 0 ∨ 6 ≤ (2 : Int32).toNatClampNeg) by decide) h_x2 dL_law_197 ?_
  refine z_aload_n B dL_law_198 rfl 5 rfl ?_
  refine z_iload B dL_law_199 1 rfl ?_
  refine z_iconst (v := 3) B dL_law_201 (by decide) ?_
  refine z_iadd B dL_law_202 ?_
  refine z_seti (y := 3) (by decide) ?_
  refine z_sld (j := 3) (x := x3) B hX hbl hbA (by decide) (show ¬ ((3 : Int32) < 0 ∨ 6 ≤ (3 : Int32).toNatClampNeg) by decide) h_x3 dL_law_203 ?_
  refine z_aload_n B dL_law_204 rfl 5 rfl ?_
  refine z_iload B dL_law_205 1 rfl ?_
  refine z_iconst (v := 4) B dL_law_207 (by decide) ?_
  refine z_iadd B dL_law_208 ?_
  refine z_seti (y := 4) (by decide) ?_
  refine z_sld (j := 4) (x := x4) B hX hbl hbA (by decide) (show ¬ ((4 : Int32) < 0 ∨ 6 ≤ (4 : Int32).toNatClampNeg) by decide) h_x4 dL_law_209 ?_
  refine z_aload_n B dL_law_210 rfl 5 rfl ?_
  refine z_iload B dL_law_211 1 rfl ?_
  refine z_iconst (v := 5) B dL_law_213 (by decide) ?_
  refine z_iadd B dL_law_214 ?_
  refine z_seti (y := 5) (by decide) ?_
  refine z_sld (j := 5) (x := x5) B hX hbl hbA (by decide) (show ¬ ((5 : Int32) < 0 ∨ 6 ≤ (5 : Int32).toNatClampNeg) by decide) h_x5 dL_law_215 ?_
  refine z_cVi (As := [.int 4, .int x2, .int x3, .int x4, .int x5]) (rest := []) B cw_L_79 cx_10 dL_law_216 (ci_X9_set_290 l (σ := (ap b (wx_Z σ z) [] [] [])) (b := b) (lyA (lyZ hK)) x2 x3 x4 x5 q1_x2 q2_x2 q1_x3 q2_x3 q1_x4 q2_x4 q1_x5 q2_x5) (lKA (lKZ (hk_K hK 405 rfl rfl))) rfl (by decide) rfl (Nat.le_of_ble_eq_true rfl) (by decide) (fun r u hu => ?_)
  refine z_eqs (σ' := (ap b (wx_Z σ z) [(405, 0, 2)] [] [])) (hu.2.trans ap_ap) ?_
  show zx p l e _ s m _ below meth c g 8 _ _ _ _ 219 [(5, .int 2), (4, .int 0), (3, .ref (b + 431)), (2, .ref (b + 405)), (1, .ref (b + 0)), (0, .ref bS)] _
  refine z_seti (y := 0) hu.1 ?_
  refine z_istore (lv' := [(6, .int 0), (5, .int 2), (4, .int 0), (3, .ref (b + 431)), (2, .ref (b + 405)), (1, .ref (b + 0)), (0, .ref bS)]) B dL_law_219 (by decide) rfl ?_
  refine z_aload_n B dL_law_221 rfl 4 rfl ?_
  refine z_cVi (As := []) (rest := []) B cw_L_80 cx_10 dL_law_222 (ci_X9_thrown_73 l (σ := (ap b (wx_Z σ z) [(405, 0, 2)] [] [])) (b := b) (lyA (lyZ hK)) (rI_at 405 0 rfl)) (lKA (lKZ (hk_K hK 405 rfl rfl))) rfl (by decide) rfl (Nat.le_of_ble_eq_true rfl) (by decide) (fun r u hu => ?_)
  refine z_eqs (σ' := (ap b (wx_Z σ z) [(405, 0, 2)] [] [])) hu.2 ?_
  show zx p l e _ s m _ below meth c g 8 _ _ _ _ 225 [(6, .int 0), (5, .int 2), (4, .int 0), (3, .ref (b + 431)), (2, .ref (b + 405)), (1, .ref (b + 0)), (0, .ref bS)] _
  refine z_seti (y := 2) hu.1 ?_
  refine z_iload B dL_law_225 1 rfl ?_
  refine z_icmp_eq (tgt := 232) B dL_law_227 (by decide) (fun _ => ?_) (fun h => absurd (by decide) h)
  refine z_iload B dL_law_232 1 rfl ?_
  refine z_if_ne (tgt := 249) B dL_law_234 (by decide) (fun _ => ?_) (fun h => absurd h (by decide))
  refine z_goto (tgt := 1395) B dL_law_249 (by decide) ?_
  exact z_widen (Nat.le_of_ble_eq_true rfl) (Nat.le_of_ble_eq_true rfl) (z_sub _ [2, 6] rfl (kk _))
set_option maxRecDepth 100000 in
set_option maxHeartbeats 4000000 in
theorem lf_0_101 {p : Program} {l : Launch} {e : Env} {s : State} {m : MethodId} {args : Array Value} {below : List Frame} {meth : Method} {c : Code} {g : gx_T} {Q : State → Prop} {σ : sx_T} {b t bS : Nat} {xs : Nat → Int32} (hlt : l.stackTraces = false) (B : zx_B p s m args meth c code RL 8 g) (hX : va_X bS 6 xs s s.heap) (hbl : bS < s.heap.size) (hbA : ¬ gx_b g ≤ bS) (hF : fz_P b t σ) (h_x1 : xs 1 = 4) {x2 : Int32} (h_x2 : xs 2 = x2) (q1_x2 : (0 : Int) ≤ x2.toInt) (q2_x2 : x2.toInt ≤ (19 : Int)) {x3 : Int32} (h_x3 : xs 3 = x3) (q1_x3 : (0 : Int) ≤ x3.toInt) (q2_x3 : x3.toInt ≤ (17 : Int)) {x4 : Int32} (h_x4 : xs 4 = x4) (q1_x4 : (0 : Int) ≤ x4.toInt) (q2_x4 : x4.toInt ≤ (99 : Int)) {x5 : Int32} (h_x5 : xs 5 = x5) (q1_x5 : (0 : Int) ≤ x5.toInt) (q2_x5 : x5.toInt ≤ (99 : Int)) (kk : ∀ σ', zx p l e room_1 s m args below meth c g 8 600002 7302232 Q σ' 1395 [(4, .int 0), (0, .ref bS)] []) : zx p l e room_1 s m args below meth c g 8 500 100000 Q σ 148 [(4, .int 0), (3, .ref (b + 431)), (2, .ref (b + 405)), (1, .ref (b + 0)), (0, .ref bS)] [] := by
  have hK := fz_lay hF
  refine z_eqs (σ' := (ap b σ [] [] [])) rfl ?_
  refine z_aload_n B dL_law_148 rfl 3 rfl ?_
  refine z_aload_n B dL_law_149 rfl 4 rfl ?_
  refine z_iload B dL_law_150 0 rfl ?_
  refine z_iconst (v := 1) B dL_law_152 (by decide) ?_
  refine z_iadd B dL_law_153 ?_
  refine z_seti (y := 1) (by decide) ?_
  refine z_sld (j := 1) (x := 4) B hX hbl hbA (by decide) (show ¬ ((1 : Int32) < 0 ∨ 6 ≤ (1 : Int32).toNatClampNeg) by decide) h_x1 dL_law_154 ?_
  refine z_aload_n B dL_law_155 rfl 4 rfl ?_
  refine z_iload B dL_law_156 0 rfl ?_
  refine z_iconst (v := 2) B dL_law_158 (by decide) ?_
  refine z_iadd B dL_law_159 ?_
  refine z_seti (y := 2) (by decide) ?_
  refine z_sld (j := 2) (x := x2) B hX hbl hbA (by decide) (show ¬ ((2 : Int32) < 0 ∨ 6 ≤ (2 : Int32).toNatClampNeg) by decide) h_x2 dL_law_160 ?_
  refine z_aload_n B dL_law_161 rfl 4 rfl ?_
  refine z_iload B dL_law_162 0 rfl ?_
  refine z_iconst (v := 3) B dL_law_164 (by decide) ?_
  refine z_iadd B dL_law_165 ?_
  refine z_seti (y := 3) (by decide) ?_
  refine z_sld (j := 3) (x := x3) B hX hbl hbA (by decide) (show ¬ ((3 : Int32) < 0 ∨ 6 ≤ (3 : Int32).toNatClampNeg) by decide) h_x3 dL_law_166 ?_
  refine z_aload_n B dL_law_167 rfl 4 rfl ?_
  refine z_iload B dL_law_168 0 rfl ?_
  refine z_iconst (v := 4) B dL_law_170 (by decide) ?_
  refine z_iadd B dL_law_171 ?_
  refine z_seti (y := 4) (by decide) ?_
  refine z_sld (j := 4) (x := x4) B hX hbl hbA (by decide) (show ¬ ((4 : Int32) < 0 ∨ 6 ≤ (4 : Int32).toNatClampNeg) by decide) h_x4 dL_law_172 ?_
  refine z_aload_n B dL_law_173 rfl 4 rfl ?_
  refine z_iload B dL_law_174 0 rfl ?_
  refine z_iconst (v := 5) B dL_law_176 (by decide) ?_
  refine z_iadd B dL_law_177 ?_
  refine z_seti (y := 5) (by decide) ?_
  refine z_sld (j := 5) (x := x5) B hX hbl hbA (by decide) (show ¬ ((5 : Int32) < 0 ∨ 6 ≤ (5 : Int32).toNatClampNeg) by decide) h_x5 dL_law_178 ?_
  refine z_aload_n B dL_law_179 rfl 1 rfl ?_
  refine z_cSWi (As := [.ref (b + 0), .int 4, .int x2, .int x3, .int x4, .int x5, .ref (b + 431)]) (rest := []) B cw_L_74 dL_law_180 (ci_L_set_295 l (σ := (ap b σ [] [] [])) (b := b) (lyA hK) x2 x3 x4 x5 q1_x2 q2_x2 q1_x3 q2_x3 q1_x4 q2_x4 q1_x5 q2_x5 (rI_at 0 7 (fz_I hF 0 7 rfl rfl)) (rR_at 0 0 (fz_R hF 0 0 rfl rfl)) (rR_at 1 4 (fz_R hF 1 4 rfl rfl)) (rR_at 25 1 (fz_R hF 25 1 rfl rfl)) (rR_at 25 2 (fz_R hF 25 2 rfl rfl)) (rR_at 25 3 (fz_R hF 25 3 rfl rfl))) rfl (by decide) rfl (Nat.le_of_ble_eq_true rfl) (by decide) (fun r u hu => ?_)
  refine z_eqs (σ' := (ap b (wx_I (ap b (wx_I (ap b (wx_I (ap b (ap b (ap b (ap b σ [] [] []) [] [] []) [] [] []) [] [] []) (b + 26) x2.toNatClampNeg x3) [] [] []) (b + 27) x2.toNatClampNeg x4) [] [] []) (b + 28) x2.toNatClampNeg x5) [] [(431, 0, 0)] [])) hu.2 ?_
  show zx p l e _ s m _ below meth c g 8 _ _ _ _ 183 [(4, .int 0), (3, .ref (b + 431)), (2, .ref (b + 405)), (1, .ref (b + 0)), (0, .ref bS)] _
  refine z_seti (y := 0) hu.1 ?_
  refine z_istore (lv' := [(5, .int 0), (4, .int 0), (3, .ref (b + 431)), (2, .ref (b + 405)), (1, .ref (b + 0)), (0, .ref bS)]) B dL_law_183 (by decide) rfl ?_
  refine z_aload_n B dL_law_185 rfl 3 rfl ?_
  refine z_aload_n B dL_law_186 rfl 5 rfl ?_
  refine z_iload B dL_law_187 1 rfl ?_
  refine z_iconst (v := 1) B dL_law_189 (by decide) ?_
  refine z_iadd B dL_law_190 ?_
  refine z_seti (y := 1) (by decide) ?_
  refine z_sld (j := 1) (x := 4) B hX hbl hbA (by decide) (show ¬ ((1 : Int32) < 0 ∨ 6 ≤ (1 : Int32).toNatClampNeg) by decide) h_x1 dL_law_191 ?_
  refine z_aload_n B dL_law_192 rfl 5 rfl ?_
  refine z_iload B dL_law_193 1 rfl ?_
  refine z_iconst (v := 2) B dL_law_195 (by decide) ?_
  refine z_iadd B dL_law_196 ?_
  refine z_seti (y := 2) (by decide) ?_
  refine z_sld (j := 2) (x := x2) B hX hbl hbA (by decide) (show ¬ ((2 : Int32) < 0 ∨ 6 ≤ (2 : Int32).toNatClampNeg) by decide) h_x2 dL_law_197 ?_
  refine z_aload_n B dL_law_198 rfl 5 rfl ?_
  refine z_iload B dL_law_199 1 rfl ?_
  refine z_iconst (v := 3) B dL_law_201 (by decide) ?_
  refine z_iadd B dL_law_202 ?_
  refine z_seti (y := 3) (by decide) ?_
  refine z_sld (j := 3) (x := x3) B hX hbl hbA (by decide) (show ¬ ((3 : Int32) < 0 ∨ 6 ≤ (3 : Int32).toNatClampNeg) by decide) h_x3 dL_law_203 ?_
  refine z_aload_n B dL_law_204 rfl 5 rfl ?_
  refine z_iload B dL_law_205 1 rfl ?_
  refine z_iconst (v := 4) B dL_law_207 (by decide) ?_
  refine z_iadd B dL_law_208 ?_
  refine z_seti (y := 4) (by decide) ?_
  refine z_sld (j := 4) (x := x4) B hX hbl hbA (by decide) (show ¬ ((4 : Int32) < 0 ∨ 6 ≤ (4 : Int32).toNatClampNeg) by decide) h_x4 dL_law_209 ?_
  refine z_aload_n B dL_law_210 rfl 5 rfl ?_
  refine z_iload B dL_law_211 1 rfl ?_
  refine z_iconst (v := 5) B dL_law_213 (by decide) ?_
  refine z_iadd B dL_law_214 ?_
  refine z_seti (y := 5) (by decide) ?_
  refine z_sld (j := 5) (x := x5) B hX hbl hbA (by decide) (show ¬ ((5 : Int32) < 0 ∨ 6 ≤ (5 : Int32).toNatClampNeg) by decide) h_x5 dL_law_215 ?_
  refine z_cVi (As := [.int 4, .int x2, .int x3, .int x4, .int x5]) (rest := []) B cw_L_79 cx_10 dL_law_216 (ci_X9_set_298 l (σ := (ap b (wx_I (ap b (wx_I (ap b (wx_I (ap b (ap b (ap b (ap b σ [] [] []) [] [] []) [] [] []) [] [] []) (b + 26) x2.toNatClampNeg x3) [] [] []) (b + 27) x2.toNatClampNeg x4) [] [] []) (b + 28) x2.toNatClampNeg x5) [] [(431, 0, 0)] [])) (b := b) (lyA (lyW (lyA (lyW (lyA (lyW (lyA (lyA (lyA (lyA hK)))))))))) x2 x3 x4 x5 q1_x2 q2_x2 q1_x3 q2_x3 q1_x4 q2_x4 q1_x5 q2_x5 (rI_at 405 6 ((ux_a (by omega)).trans (rI_at 405 6 ((ux_a (by omega)).trans (rI_at 405 6 ((ux_a (by omega)).trans (rI_at 405 6 (rI_at 405 6 (rI_at 405 6 (rI_at 405 6 (fz_I hF 405 6 rfl rfl))))))))))) (rR_at 405 3 (rR_w (rR_at 405 3 (rR_w (rR_at 405 3 (rR_w (rR_at 405 3 (rR_at 405 3 (rR_at 405 3 (rR_at 405 3 (fz_R hF 405 3 rfl rfl))))))))))) (rR_at 405 4 (rR_w (rR_at 405 4 (rR_w (rR_at 405 4 (rR_w (rR_at 405 4 (rR_at 405 4 (rR_at 405 4 (rR_at 405 4 (fz_R hF 405 4 rfl rfl))))))))))) (rR_at 405 5 (rR_w (rR_at 405 5 (rR_w (rR_at 405 5 (rR_w (rR_at 405 5 (rR_at 405 5 (rR_at 405 5 (rR_at 405 5 (fz_R hF 405 5 rfl rfl)))))))))))) (lKA (lKW (lKA (lKW (lKA (lKW (lKA (lKA (lKA (lKA (hk_K hK 405 rfl rfl))))))))))) rfl (by decide) rfl (Nat.le_of_ble_eq_true rfl) (by decide) (fun r u hu => ?_)
  refine z_eqs (σ' := (ap b (wx_I (ap b (wx_I (ap b (wx_I (ap b (ap b (ap b (wx_I (ap b (wx_I (ap b (wx_I (ap b (ap b (ap b (ap b σ [] [] []) [] [] []) [] [] []) [] [] []) (b + 26) x2.toNatClampNeg x3) [] [] []) (b + 27) x2.toNatClampNeg x4) [] [] []) (b + 28) x2.toNatClampNeg x5) [] [(431, 0, 0)] []) [(405, 0, 0)] [] []) [] [] []) (b + 406) (80 + x2).toNatClampNeg x3) [] [] []) (b + 407) (80 + x2).toNatClampNeg x4) [] [] []) (b + 408) (80 + x2).toNatClampNeg x5) [] [] [])) hu.2 ?_
  show zx p l e _ s m _ below meth c g 8 _ _ _ _ 219 [(5, .int 0), (4, .int 0), (3, .ref (b + 431)), (2, .ref (b + 405)), (1, .ref (b + 0)), (0, .ref bS)] _
  refine z_seti (y := 0) hu.1 ?_
  refine z_istore (lv' := [(6, .int 0), (5, .int 0), (4, .int 0), (3, .ref (b + 431)), (2, .ref (b + 405)), (1, .ref (b + 0)), (0, .ref bS)]) B dL_law_219 (by decide) rfl ?_
  refine z_aload_n B dL_law_221 rfl 4 rfl ?_
  refine z_cVi (As := []) (rest := []) B cw_L_80 cx_10 dL_law_222 (ci_X9_thrown_95 l (σ := (ap b (wx_I (ap b (wx_I (ap b (wx_I (ap b (ap b (ap b (wx_I (ap b (wx_I (ap b (wx_I (ap b (ap b (ap b (ap b σ [] [] []) [] [] []) [] [] []) [] [] []) (b + 26) x2.toNatClampNeg x3) [] [] []) (b + 27) x2.toNatClampNeg x4) [] [] []) (b + 28) x2.toNatClampNeg x5) [] [(431, 0, 0)] []) [(405, 0, 0)] [] []) [] [] []) (b + 406) (80 + x2).toNatClampNeg x3) [] [] []) (b + 407) (80 + x2).toNatClampNeg x4) [] [] []) (b + 408) (80 + x2).toNatClampNeg x5) [] [] [])) (b := b) (lyA (lyW (lyA (lyW (lyA (lyW (lyA (lyA (lyA (lyW (lyA (lyW (lyA (lyW (lyA (lyA (lyA (lyA hK)))))))))))))))))) (rI_at 405 0 ((ux_a (by omega)).trans (rI_at 405 0 ((ux_a (by omega)).trans (rI_at 405 0 ((ux_a (by omega)).trans (rI_at 405 0 (rI_at 405 0 rfl))))))))) (lKA (lKW (lKA (lKW (lKA (lKW (lKA (lKA (lKA (lKW (lKA (lKW (lKA (lKW (lKA (lKA (lKA (lKA (hk_K hK 405 rfl rfl))))))))))))))))))) rfl (by decide) rfl (Nat.le_of_ble_eq_true rfl) (by decide) (fun r u hu => ?_)
  refine z_eqs (σ' := (ap b (wx_I (ap b (wx_I (ap b (wx_I (ap b (ap b (ap b (wx_I (ap b (wx_I (ap b (wx_I (ap b (ap b (ap b (ap b σ [] [] []) [] [] []) [] [] []) [] [] []) (b + 26) x2.toNatClampNeg x3) [] [] []) (b + 27) x2.toNatClampNeg x4) [] [] []) (b + 28) x2.toNatClampNeg x5) [] [(431, 0, 0)] []) [(405, 0, 0)] [] []) [] [] []) (b + 406) (80 + x2).toNatClampNeg x3) [] [] []) (b + 407) (80 + x2).toNatClampNeg x4) [] [] []) (b + 408) (80 + x2).toNatClampNeg x5) [] [] [])) hu.2 ?_
  show zx p l e _ s m _ below meth c g 8 _ _ _ _ 225 [(6, .int 0), (5, .int 0), (4, .int 0), (3, .ref (b + 431)), (2, .ref (b + 405)), (1, .ref (b + 0)), (0, .ref bS)] _
  refine z_seti (y := 0) hu.1 ?_
  refine z_iload B dL_law_225 1 rfl ?_
  refine z_icmp_eq (tgt := 232) B dL_law_227 (by decide) (fun _ => ?_) (fun h => absurd (by decide) h)
  refine z_iload B dL_law_232 1 rfl ?_
  refine z_if_ne (tgt := 249) B dL_law_234 (by decide) (fun h => absurd (by decide) h) (fun _ => ?_)
  refine z_aload_n B dL_law_237 rfl 3 rfl ?_
  refine z_iconst (v := 0) B dL_law_238 (by decide) ?_
  refine z_lald (j := 0) (x := 0) B (lKA (lKW (lKA (lKW (lKA (lKW (lKA (lKA (lKA (lKW (lKA (lKW (lKA (lKW (lKA (lKA (lKA (lKA (hk_K hK 431 rfl rfl))))))))))))))))))) (by decide) (in_of (lNA (lNW (lNA (lNW (lNA (lNW (lNA (lNA (lNA (lNW (lNA (lNW (lNA (lNW (lNA (lNA (lNA (lNA (hk_N hK 431 rfl rfl))))))))))))))))))) (show ¬ ((0 : Int32) < 0 ∨ 1 ≤ (0 : Int32).toNatClampNeg) by decide)) (rJ_at 431 0 (rJ_w (rJ_at 431 0 (rJ_w (rJ_at 431 0 (rJ_w (rJ_at 431 0 (rJ_at 431 0 (rJ_at 431 0 rfl))))))))) dL_law_239 ?_
  refine z_iload B dL_law_240 0 rfl ?_
  refine z_i2l (v := 0) B dL_law_242 (by decide) ?_
  refine z_lcmp (v := 0) B dL_law_243 (by decide) ?_
  refine z_if_eq (tgt := 249) B dL_law_244 (by decide) (fun _ => ?_) (fun h => absurd (by decide) h)
  refine z_goto (tgt := 1395) B dL_law_249 (by decide) ?_
  exact z_widen (Nat.le_of_ble_eq_true rfl) (Nat.le_of_ble_eq_true rfl) (z_sub _ [2, 6] rfl (kk _))
set_option maxRecDepth 100000 in
set_option maxHeartbeats 4000000 in
theorem lf_0_102 {p : Program} {l : Launch} {e : Env} {s : State} {m : MethodId} {args : Array Value} {below : List Frame} {meth : Method} {c : Code} {g : gx_T} {Q : State → Prop} {σ : sx_T} {b t bS : Nat} {xs : Nat → Int32} (hlt : l.stackTraces = false) (B : zx_B p s m args meth c code RL 8 g) (hX : va_X bS 6 xs s s.heap) (hbl : bS < s.heap.size) (hbA : ¬ gx_b g ≤ bS) (hF : fz_P b t σ) (h_x1 : xs 1 = 4) {x2 : Int32} (h_x2 : xs 2 = x2) (q1_x2 : (0 : Int) ≤ x2.toInt) (q2_x2 : x2.toInt ≤ (19 : Int)) {x3 : Int32} (h_x3 : xs 3 = x3) (q1_x3 : (0 : Int) ≤ x3.toInt) (q2_x3 : x3.toInt ≤ (17 : Int)) {x4 : Int32} (h_x4 : xs 4 = x4) (q1_x4 : (0 : Int) ≤ x4.toInt) (q2_x4 : x4.toInt ≤ (99 : Int)) {x5 : Int32} (h_x5 : xs 5 = x5) (q1_x5 : (100 : Int) ≤ x5.toInt) (q2_x5 : x5.toInt ≤ (2147483647 : Int)) (kk : ∀ σ', zx p l e room_1 s m args below meth c g 8 600002 7302232 Q σ' 1395 [(4, .int 0), (0, .ref bS)] []) : zx p l e room_1 s m args below meth c g 8 500 100000 Q σ 148 [(4, .int 0), (3, .ref (b + 431)), (2, .ref (b + 405)), (1, .ref (b + 0)), (0, .ref bS)] [] := by
  have hK := fz_lay hF
  refine z_eqs (σ' := (ap b σ [] [] [])) rfl ?_
  refine z_aload_n B dL_law_148 rfl 3 rfl ?_
  refine z_aload_n B dL_law_149 rfl 4 rfl ?_
  refine z_iload B dL_law_150 0 rfl ?_
  refine z_iconst (v := 1) B dL_law_152 (by decide) ?_
  refine z_iadd B dL_law_153 ?_
  refine z_seti (y := 1) (by decide) ?_
  refine z_sld (j := 1) (x := 4) B hX hbl hbA (by decide) (show ¬ ((1 : Int32) < 0 ∨ 6 ≤ (1 : Int32).toNatClampNeg) by decide) h_x1 dL_law_154 ?_
  refine z_aload_n B dL_law_155 rfl 4 rfl ?_
  refine z_iload B dL_law_156 0 rfl ?_
  refine z_iconst (v := 2) B dL_law_158 (by decide) ?_
  refine z_iadd B dL_law_159 ?_
  refine z_seti (y := 2) (by decide) ?_
  refine z_sld (j := 2) (x := x2) B hX hbl hbA (by decide) (show ¬ ((2 : Int32) < 0 ∨ 6 ≤ (2 : Int32).toNatClampNeg) by decide) h_x2 dL_law_160 ?_
  refine z_aload_n B dL_law_161 rfl 4 rfl ?_
  refine z_iload B dL_law_162 0 rfl ?_
  refine z_iconst (v := 3) B dL_law_164 (by decide) ?_
  refine z_iadd B dL_law_165 ?_
  refine z_seti (y := 3) (by decide) ?_
  refine z_sld (j := 3) (x := x3) B hX hbl hbA (by decide) (show ¬ ((3 : Int32) < 0 ∨ 6 ≤ (3 : Int32).toNatClampNeg) by decide) h_x3 dL_law_166 ?_
  refine z_aload_n B dL_law_167 rfl 4 rfl ?_
  refine z_iload B dL_law_168 0 rfl ?_
  refine z_iconst (v := 4) B dL_law_170 (by decide) ?_
  refine z_iadd B dL_law_171 ?_
  refine z_seti (y := 4) (by decide) ?_
  refine z_sld (j := 4) (x := x4) B hX hbl hbA (by decide) (show ¬ ((4 : Int32) < 0 ∨ 6 ≤ (4 : Int32).toNatClampNeg) by decide) h_x4 dL_law_172 ?_
  refine z_aload_n B dL_law_173 rfl 4 rfl ?_
  refine z_iload B dL_law_174 0 rfl ?_
  refine z_iconst (v := 5) B dL_law_176 (by decide) ?_
  refine z_iadd B dL_law_177 ?_
  refine z_seti (y := 5) (by decide) ?_
  refine z_sld (j := 5) (x := x5) B hX hbl hbA (by decide) (show ¬ ((5 : Int32) < 0 ∨ 6 ≤ (5 : Int32).toNatClampNeg) by decide) h_x5 dL_law_178 ?_
  refine z_aload_n B dL_law_179 rfl 1 rfl ?_
  refine z_cSWi (As := [.ref (b + 0), .int 4, .int x2, .int x3, .int x4, .int x5, .ref (b + 431)]) (rest := []) B cw_L_74 dL_law_180 (ci_L_set_300 l hlt (σ := (ap b σ [] [] [])) (b := b) (lyA hK) x2 x3 x4 x5 q1_x2 q2_x2 q1_x3 q2_x3 q1_x4 q2_x4 q1_x5 q2_x5 (rR_at 0 0 (fz_R hF 0 0 rfl rfl)) (rR_at 1 4 (fz_R hF 1 4 rfl rfl))) rfl (by decide) rfl (Nat.le_of_ble_eq_true rfl) (by decide) (fun r u hu => ?_)
  obtain ⟨hu1, z, hu⟩ := hu
  refine z_eqs (σ' := (ap b (wx_Z σ z) [] [] [])) (hu.trans az_ap) ?_
  show zx p l e _ s m _ below meth c g 8 _ _ _ _ 183 [(4, .int 0), (3, .ref (b + 431)), (2, .ref (b + 405)), (1, .ref (b + 0)), (0, .ref bS)] _
  refine z_seti (y := 2) hu1 ?_
  refine z_istore (lv' := [(5, .int 2), (4, .int 0), (3, .ref (b + 431)), (2, .ref (b + 405)), (1, .ref (b + 0)), (0, .ref bS)]) B dL_law_183 (by decide) rfl ?_
  refine z_aload_n B dL_law_185 rfl 3 rfl ?_
  refine z_aload_n B dL_law_186 rfl 5 rfl ?_
  refine z_iload B dL_law_187 1 rfl ?_
  refine z_iconst (v := 1) B dL_law_189 (by decide) ?_
  refine z_iadd B dL_law_190 ?_
  refine z_seti (y := 1) (by decide) ?_
  refine z_sld (j := 1) (x := 4) B hX hbl hbA (by decide) (show ¬ ((1 : Int32) < 0 ∨ 6 ≤ (1 : Int32).toNatClampNeg) by decide) h_x1 dL_law_191 ?_
  refine z_aload_n B dL_law_192 rfl 5 rfl ?_
  refine z_iload B dL_law_193 1 rfl ?_
  refine z_iconst (v := 2) B dL_law_195 (by decide) ?_
  refine z_iadd B dL_law_196 ?_
  refine z_seti (y := 2) (by decide) ?_
  refine z_sld (j := 2) (x := x2) B hX hbl hbA (by decide) (show ¬ ((2 : Int32) < 0 ∨ 6 ≤ (2 : Int32).toNatClampNeg) by decide) h_x2 dL_law_197 ?_
  refine z_aload_n B dL_law_198 rfl 5 rfl ?_
  refine z_iload B dL_law_199 1 rfl ?_
  refine z_iconst (v := 3) B dL_law_201 (by decide) ?_
  refine z_iadd B dL_law_202 ?_
  refine z_seti (y := 3) (by decide) ?_
  refine z_sld (j := 3) (x := x3) B hX hbl hbA (by decide) (show ¬ ((3 : Int32) < 0 ∨ 6 ≤ (3 : Int32).toNatClampNeg) by decide) h_x3 dL_law_203 ?_
  refine z_aload_n B dL_law_204 rfl 5 rfl ?_
  refine z_iload B dL_law_205 1 rfl ?_
  refine z_iconst (v := 4) B dL_law_207 (by decide) ?_
  refine z_iadd B dL_law_208 ?_
  refine z_seti (y := 4) (by decide) ?_
  refine z_sld (j := 4) (x := x4) B hX hbl hbA (by decide) (show ¬ ((4 : Int32) < 0 ∨ 6 ≤ (4 : Int32).toNatClampNeg) by decide) h_x4 dL_law_209 ?_
  refine z_aload_n B dL_law_210 rfl 5 rfl ?_
  refine z_iload B dL_law_211 1 rfl ?_
  refine z_iconst (v := 5) B dL_law_213 (by decide) ?_
  refine z_iadd B dL_law_214 ?_
  refine z_seti (y := 5) (by decide) ?_
  refine z_sld (j := 5) (x := x5) B hX hbl hbA (by decide) (show ¬ ((5 : Int32) < 0 ∨ 6 ≤ (5 : Int32).toNatClampNeg) by decide) h_x5 dL_law_215 ?_
  refine z_cVi (As := [.int 4, .int x2, .int x3, .int x4, .int x5]) (rest := []) B cw_L_79 cx_10 dL_law_216 (ci_X9_set_301 l (σ := (ap b (wx_Z σ z) [] [] [])) (b := b) (lyA (lyZ hK)) x2 x3 x4 x5 q1_x2 q2_x2 q1_x3 q2_x3 q1_x4 q2_x4 q1_x5 q2_x5) (lKA (lKZ (hk_K hK 405 rfl rfl))) rfl (by decide) rfl (Nat.le_of_ble_eq_true rfl) (by decide) (fun r u hu => ?_)
  refine z_eqs (σ' := (ap b (wx_Z σ z) [(405, 0, 2)] [] [])) (hu.2.trans ap_ap) ?_
  show zx p l e _ s m _ below meth c g 8 _ _ _ _ 219 [(5, .int 2), (4, .int 0), (3, .ref (b + 431)), (2, .ref (b + 405)), (1, .ref (b + 0)), (0, .ref bS)] _
  refine z_seti (y := 0) hu.1 ?_
  refine z_istore (lv' := [(6, .int 0), (5, .int 2), (4, .int 0), (3, .ref (b + 431)), (2, .ref (b + 405)), (1, .ref (b + 0)), (0, .ref bS)]) B dL_law_219 (by decide) rfl ?_
  refine z_aload_n B dL_law_221 rfl 4 rfl ?_
  refine z_cVi (As := []) (rest := []) B cw_L_80 cx_10 dL_law_222 (ci_X9_thrown_73 l (σ := (ap b (wx_Z σ z) [(405, 0, 2)] [] [])) (b := b) (lyA (lyZ hK)) (rI_at 405 0 rfl)) (lKA (lKZ (hk_K hK 405 rfl rfl))) rfl (by decide) rfl (Nat.le_of_ble_eq_true rfl) (by decide) (fun r u hu => ?_)
  refine z_eqs (σ' := (ap b (wx_Z σ z) [(405, 0, 2)] [] [])) hu.2 ?_
  show zx p l e _ s m _ below meth c g 8 _ _ _ _ 225 [(6, .int 0), (5, .int 2), (4, .int 0), (3, .ref (b + 431)), (2, .ref (b + 405)), (1, .ref (b + 0)), (0, .ref bS)] _
  refine z_seti (y := 2) hu.1 ?_
  refine z_iload B dL_law_225 1 rfl ?_
  refine z_icmp_eq (tgt := 232) B dL_law_227 (by decide) (fun _ => ?_) (fun h => absurd (by decide) h)
  refine z_iload B dL_law_232 1 rfl ?_
  refine z_if_ne (tgt := 249) B dL_law_234 (by decide) (fun _ => ?_) (fun h => absurd h (by decide))
  refine z_goto (tgt := 1395) B dL_law_249 (by decide) ?_
  exact z_widen (Nat.le_of_ble_eq_true rfl) (Nat.le_of_ble_eq_true rfl) (z_sub _ [2, 6] rfl (kk _))
set_option maxRecDepth 100000 in
set_option maxHeartbeats 4000000 in
theorem lf_0_103 {p : Program} {l : Launch} {e : Env} {s : State} {m : MethodId} {args : Array Value} {below : List Frame} {meth : Method} {c : Code} {g : gx_T} {Q : State → Prop} {σ : sx_T} {b t bS : Nat} {xs : Nat → Int32} (hlt : l.stackTraces = false) (B : zx_B p s m args meth c code RL 8 g) (hX : va_X bS 6 xs s s.heap) (hbl : bS < s.heap.size) (hbA : ¬ gx_b g ≤ bS) (hF : fz_P b t σ) (h_x1 : xs 1 = 4) {x2 : Int32} (h_x2 : xs 2 = x2) (q1_x2 : (0 : Int) ≤ x2.toInt) (q2_x2 : x2.toInt ≤ (19 : Int)) {x3 : Int32} (h_x3 : xs 3 = x3) (q1_x3 : (0 : Int) ≤ x3.toInt) (q2_x3 : x3.toInt ≤ (17 : Int)) {x4 : Int32} (h_x4 : xs 4 = x4) (q1_x4 : (100 : Int) ≤ x4.toInt) (q2_x4 : x4.toInt ≤ (2147483647 : Int)) {x5 : Int32} (h_x5 : xs 5 = x5) (q1_x5 : (-2147483648 : Int) ≤ x5.toInt) (q2_x5 : x5.toInt ≤ (2147483647 : Int)) (kk : ∀ σ', zx p l e room_1 s m args below meth c g 8 600002 7302232 Q σ' 1395 [(4, .int 0), (0, .ref bS)] []) : zx p l e room_1 s m args below meth c g 8 500 100000 Q σ 148 [(4, .int 0), (3, .ref (b + 431)), (2, .ref (b + 405)), (1, .ref (b + 0)), (0, .ref bS)] [] := by
  have hK := fz_lay hF
  refine z_eqs (σ' := (ap b σ [] [] [])) rfl ?_
  refine z_aload_n B dL_law_148 rfl 3 rfl ?_
  refine z_aload_n B dL_law_149 rfl 4 rfl ?_
  refine z_iload B dL_law_150 0 rfl ?_
  refine z_iconst (v := 1) B dL_law_152 (by decide) ?_
  refine z_iadd B dL_law_153 ?_
  refine z_seti (y := 1) (by decide) ?_
  refine z_sld (j := 1) (x := 4) B hX hbl hbA (by decide) (show ¬ ((1 : Int32) < 0 ∨ 6 ≤ (1 : Int32).toNatClampNeg) by decide) h_x1 dL_law_154 ?_
  refine z_aload_n B dL_law_155 rfl 4 rfl ?_
  refine z_iload B dL_law_156 0 rfl ?_
  refine z_iconst (v := 2) B dL_law_158 (by decide) ?_
  refine z_iadd B dL_law_159 ?_
  refine z_seti (y := 2) (by decide) ?_
  refine z_sld (j := 2) (x := x2) B hX hbl hbA (by decide) (show ¬ ((2 : Int32) < 0 ∨ 6 ≤ (2 : Int32).toNatClampNeg) by decide) h_x2 dL_law_160 ?_
  refine z_aload_n B dL_law_161 rfl 4 rfl ?_
  refine z_iload B dL_law_162 0 rfl ?_
  refine z_iconst (v := 3) B dL_law_164 (by decide) ?_
  refine z_iadd B dL_law_165 ?_
  refine z_seti (y := 3) (by decide) ?_
  refine z_sld (j := 3) (x := x3) B hX hbl hbA (by decide) (show ¬ ((3 : Int32) < 0 ∨ 6 ≤ (3 : Int32).toNatClampNeg) by decide) h_x3 dL_law_166 ?_
  refine z_aload_n B dL_law_167 rfl 4 rfl ?_
  refine z_iload B dL_law_168 0 rfl ?_
  refine z_iconst (v := 4) B dL_law_170 (by decide) ?_
  refine z_iadd B dL_law_171 ?_
  refine z_seti (y := 4) (by decide) ?_
  refine z_sld (j := 4) (x := x4) B hX hbl hbA (by decide) (show ¬ ((4 : Int32) < 0 ∨ 6 ≤ (4 : Int32).toNatClampNeg) by decide) h_x4 dL_law_172 ?_
  refine z_aload_n B dL_law_173 rfl 4 rfl ?_
  refine z_iload B dL_law_174 0 rfl ?_
  refine z_iconst (v := 5) B dL_law_176 (by decide) ?_
  refine z_iadd B dL_law_177 ?_
  refine z_seti (y := 5) (by decide) ?_
  refine z_sld (j := 5) (x := x5) B hX hbl hbA (by decide) (show ¬ ((5 : Int32) < 0 ∨ 6 ≤ (5 : Int32).toNatClampNeg) by decide) h_x5 dL_law_178 ?_
  refine z_aload_n B dL_law_179 rfl 1 rfl ?_
  refine z_cSWi (As := [.ref (b + 0), .int 4, .int x2, .int x3, .int x4, .int x5, .ref (b + 431)]) (rest := []) B cw_L_74 dL_law_180 (ci_L_set_303 l hlt (σ := (ap b σ [] [] [])) (b := b) (lyA hK) x2 x3 x4 x5 q1_x2 q2_x2 q1_x3 q2_x3 q1_x4 q2_x4 (rR_at 0 0 (fz_R hF 0 0 rfl rfl)) (rR_at 1 4 (fz_R hF 1 4 rfl rfl))) rfl (by decide) rfl (Nat.le_of_ble_eq_true rfl) (by decide) (fun r u hu => ?_)
  obtain ⟨hu1, z, hu⟩ := hu
  refine z_eqs (σ' := (ap b (wx_Z σ z) [] [] [])) (hu.trans az_ap) ?_
  show zx p l e _ s m _ below meth c g 8 _ _ _ _ 183 [(4, .int 0), (3, .ref (b + 431)), (2, .ref (b + 405)), (1, .ref (b + 0)), (0, .ref bS)] _
  refine z_seti (y := 2) hu1 ?_
  refine z_istore (lv' := [(5, .int 2), (4, .int 0), (3, .ref (b + 431)), (2, .ref (b + 405)), (1, .ref (b + 0)), (0, .ref bS)]) B dL_law_183 (by decide) rfl ?_
  refine z_aload_n B dL_law_185 rfl 3 rfl ?_
  refine z_aload_n B dL_law_186 rfl 5 rfl ?_
  refine z_iload B dL_law_187 1 rfl ?_
  refine z_iconst (v := 1) B dL_law_189 (by decide) ?_
  refine z_iadd B dL_law_190 ?_
  refine z_seti (y := 1) (by decide) ?_
  refine z_sld (j := 1) (x := 4) B hX hbl hbA (by decide) (show ¬ ((1 : Int32) < 0 ∨ 6 ≤ (1 : Int32).toNatClampNeg) by decide) h_x1 dL_law_191 ?_
  refine z_aload_n B dL_law_192 rfl 5 rfl ?_
  refine z_iload B dL_law_193 1 rfl ?_
  refine z_iconst (v := 2) B dL_law_195 (by decide) ?_
  refine z_iadd B dL_law_196 ?_
  refine z_seti (y := 2) (by decide) ?_
  refine z_sld (j := 2) (x := x2) B hX hbl hbA (by decide) (show ¬ ((2 : Int32) < 0 ∨ 6 ≤ (2 : Int32).toNatClampNeg) by decide) h_x2 dL_law_197 ?_
  refine z_aload_n B dL_law_198 rfl 5 rfl ?_
  refine z_iload B dL_law_199 1 rfl ?_
  refine z_iconst (v := 3) B dL_law_201 (by decide) ?_
  refine z_iadd B dL_law_202 ?_
  refine z_seti (y := 3) (by decide) ?_
  refine z_sld (j := 3) (x := x3) B hX hbl hbA (by decide) (show ¬ ((3 : Int32) < 0 ∨ 6 ≤ (3 : Int32).toNatClampNeg) by decide) h_x3 dL_law_203 ?_
  refine z_aload_n B dL_law_204 rfl 5 rfl ?_
  refine z_iload B dL_law_205 1 rfl ?_
  refine z_iconst (v := 4) B dL_law_207 (by decide) ?_
  refine z_iadd B dL_law_208 ?_
  refine z_seti (y := 4) (by decide) ?_
  refine z_sld (j := 4) (x := x4) B hX hbl hbA (by decide) (show ¬ ((4 : Int32) < 0 ∨ 6 ≤ (4 : Int32).toNatClampNeg) by decide) h_x4 dL_law_209 ?_
  refine z_aload_n B dL_law_210 rfl 5 rfl ?_
  refine z_iload B dL_law_211 1 rfl ?_
  refine z_iconst (v := 5) B dL_law_213 (by decide) ?_
  refine z_iadd B dL_law_214 ?_
  refine z_seti (y := 5) (by decide) ?_
  refine z_sld (j := 5) (x := x5) B hX hbl hbA (by decide) (show ¬ ((5 : Int32) < 0 ∨ 6 ≤ (5 : Int32).toNatClampNeg) by decide) h_x5 dL_law_215 ?_
  refine z_cVi (As := [.int 4, .int x2, .int x3, .int x4, .int x5]) (rest := []) B cw_L_79 cx_10 dL_law_216 (ci_X9_set_304 l (σ := (ap b (wx_Z σ z) [] [] [])) (b := b) (lyA (lyZ hK)) x2 x3 x4 x5 q1_x2 q2_x2 q1_x3 q2_x3 q1_x4 q2_x4) (lKA (lKZ (hk_K hK 405 rfl rfl))) rfl (by decide) rfl (Nat.le_of_ble_eq_true rfl) (by decide) (fun r u hu => ?_)
  refine z_eqs (σ' := (ap b (wx_Z σ z) [(405, 0, 2)] [] [])) (hu.2.trans ap_ap) ?_
  show zx p l e _ s m _ below meth c g 8 _ _ _ _ 219 [(5, .int 2), (4, .int 0), (3, .ref (b + 431)), (2, .ref (b + 405)), (1, .ref (b + 0)), (0, .ref bS)] _
  refine z_seti (y := 0) hu.1 ?_
  refine z_istore (lv' := [(6, .int 0), (5, .int 2), (4, .int 0), (3, .ref (b + 431)), (2, .ref (b + 405)), (1, .ref (b + 0)), (0, .ref bS)]) B dL_law_219 (by decide) rfl ?_
  refine z_aload_n B dL_law_221 rfl 4 rfl ?_
  refine z_cVi (As := []) (rest := []) B cw_L_80 cx_10 dL_law_222 (ci_X9_thrown_73 l (σ := (ap b (wx_Z σ z) [(405, 0, 2)] [] [])) (b := b) (lyA (lyZ hK)) (rI_at 405 0 rfl)) (lKA (lKZ (hk_K hK 405 rfl rfl))) rfl (by decide) rfl (Nat.le_of_ble_eq_true rfl) (by decide) (fun r u hu => ?_)
  refine z_eqs (σ' := (ap b (wx_Z σ z) [(405, 0, 2)] [] [])) hu.2 ?_
  show zx p l e _ s m _ below meth c g 8 _ _ _ _ 225 [(6, .int 0), (5, .int 2), (4, .int 0), (3, .ref (b + 431)), (2, .ref (b + 405)), (1, .ref (b + 0)), (0, .ref bS)] _
  refine z_seti (y := 2) hu.1 ?_
  refine z_iload B dL_law_225 1 rfl ?_
  refine z_icmp_eq (tgt := 232) B dL_law_227 (by decide) (fun _ => ?_) (fun h => absurd (by decide) h)
  refine z_iload B dL_law_232 1 rfl ?_
  refine z_if_ne (tgt := 249) B dL_law_234 (by decide) (fun _ => ?_) (fun h => absurd h (by decide))
  refine z_goto (tgt := 1395) B dL_law_249 (by decide) ?_
  exact z_widen (Nat.le_of_ble_eq_true rfl) (Nat.le_of_ble_eq_true rfl) (z_sub _ [2, 6] rfl (kk _))
set_option maxRecDepth 100000 in
set_option maxHeartbeats 4000000 in
theorem lf_0_104 {p : Program} {l : Launch} {e : Env} {s : State} {m : MethodId} {args : Array Value} {below : List Frame} {meth : Method} {c : Code} {g : gx_T} {Q : State → Prop} {σ : sx_T} {b t bS : Nat} {xs : Nat → Int32} (hlt : l.stackTraces = false) (B : zx_B p s m args meth c code RL 8 g) (hX : va_X bS 6 xs s s.heap) (hbl : bS < s.heap.size) (hbA : ¬ gx_b g ≤ bS) (hF : fz_P b t σ) (h_x1 : xs 1 = 4) {x2 : Int32} (h_x2 : xs 2 = x2) (q1_x2 : (0 : Int) ≤ x2.toInt) (q2_x2 : x2.toInt ≤ (19 : Int)) {x3 : Int32} (h_x3 : xs 3 = x3) (q1_x3 : (18 : Int) ≤ x3.toInt) (q2_x3 : x3.toInt ≤ (2147483647 : Int)) {x4 : Int32} (h_x4 : xs 4 = x4) (q1_x4 : (-2147483648 : Int) ≤ x4.toInt) (q2_x4 : x4.toInt ≤ (2147483647 : Int)) {x5 : Int32} (h_x5 : xs 5 = x5) (q1_x5 : (-2147483648 : Int) ≤ x5.toInt) (q2_x5 : x5.toInt ≤ (2147483647 : Int)) (kk : ∀ σ', zx p l e room_1 s m args below meth c g 8 600002 7302232 Q σ' 1395 [(4, .int 0), (0, .ref bS)] []) : zx p l e room_1 s m args below meth c g 8 500 100000 Q σ 148 [(4, .int 0), (3, .ref (b + 431)), (2, .ref (b + 405)), (1, .ref (b + 0)), (0, .ref bS)] [] := by
  have hK := fz_lay hF
  refine z_eqs (σ' := (ap b σ [] [] [])) rfl ?_
  refine z_aload_n B dL_law_148 rfl 3 rfl ?_
  refine z_aload_n B dL_law_149 rfl 4 rfl ?_
  refine z_iload B dL_law_150 0 rfl ?_
  refine z_iconst (v := 1) B dL_law_152 (by decide) ?_
  refine z_iadd B dL_law_153 ?_
  refine z_seti (y := 1) (by decide) ?_
  refine z_sld (j := 1) (x := 4) B hX hbl hbA (by decide) (show ¬ ((1 : Int32) < 0 ∨ 6 ≤ (1 : Int32).toNatClampNeg) by decide) h_x1 dL_law_154 ?_
  refine z_aload_n B dL_law_155 rfl 4 rfl ?_
  refine z_iload B dL_law_156 0 rfl ?_
  refine z_iconst (v := 2) B dL_law_158 (by decide) ?_
  refine z_iadd B dL_law_159 ?_
  refine z_seti (y := 2) (by decide) ?_
  refine z_sld (j := 2) (x := x2) B hX hbl hbA (by decide) (show ¬ ((2 : Int32) < 0 ∨ 6 ≤ (2 : Int32).toNatClampNeg) by decide) h_x2 dL_law_160 ?_
  refine z_aload_n B dL_law_161 rfl 4 rfl ?_
  refine z_iload B dL_law_162 0 rfl ?_
  refine z_iconst (v := 3) B dL_law_164 (by decide) ?_
  refine z_iadd B dL_law_165 ?_
  refine z_seti (y := 3) (by decide) ?_
  refine z_sld (j := 3) (x := x3) B hX hbl hbA (by decide) (show ¬ ((3 : Int32) < 0 ∨ 6 ≤ (3 : Int32).toNatClampNeg) by decide) h_x3 dL_law_166 ?_
  refine z_aload_n B dL_law_167 rfl 4 rfl ?_
  refine z_iload B dL_law_168 0 rfl ?_
  refine z_iconst (v := 4) B dL_law_170 (by decide) ?_
  refine z_iadd B dL_law_171 ?_
  refine z_seti (y := 4) (by decide) ?_
  refine z_sld (j := 4) (x := x4) B hX hbl hbA (by decide) (show ¬ ((4 : Int32) < 0 ∨ 6 ≤ (4 : Int32).toNatClampNeg) by decide) h_x4 dL_law_172 ?_
  refine z_aload_n B dL_law_173 rfl 4 rfl ?_
  refine z_iload B dL_law_174 0 rfl ?_
  refine z_iconst (v := 5) B dL_law_176 (by decide) ?_
  refine z_iadd B dL_law_177 ?_
  refine z_seti (y := 5) (by decide) ?_
  refine z_sld (j := 5) (x := x5) B hX hbl hbA (by decide) (show ¬ ((5 : Int32) < 0 ∨ 6 ≤ (5 : Int32).toNatClampNeg) by decide) h_x5 dL_law_178 ?_
  refine z_aload_n B dL_law_179 rfl 1 rfl ?_
  refine z_cSWi (As := [.ref (b + 0), .int 4, .int x2, .int x3, .int x4, .int x5, .ref (b + 431)]) (rest := []) B cw_L_74 dL_law_180 (ci_L_set_306 l hlt (σ := (ap b σ [] [] [])) (b := b) (lyA hK) x2 x3 x4 x5 q1_x2 q2_x2 q1_x3 q2_x3 (rR_at 0 0 (fz_R hF 0 0 rfl rfl)) (rR_at 1 4 (fz_R hF 1 4 rfl rfl))) rfl (by decide) rfl (Nat.le_of_ble_eq_true rfl) (by decide) (fun r u hu => ?_)
  obtain ⟨hu1, z, hu⟩ := hu
  refine z_eqs (σ' := (ap b (wx_Z σ z) [] [] [])) (hu.trans az_ap) ?_
  show zx p l e _ s m _ below meth c g 8 _ _ _ _ 183 [(4, .int 0), (3, .ref (b + 431)), (2, .ref (b + 405)), (1, .ref (b + 0)), (0, .ref bS)] _
  refine z_seti (y := 2) hu1 ?_
  refine z_istore (lv' := [(5, .int 2), (4, .int 0), (3, .ref (b + 431)), (2, .ref (b + 405)), (1, .ref (b + 0)), (0, .ref bS)]) B dL_law_183 (by decide) rfl ?_
  refine z_aload_n B dL_law_185 rfl 3 rfl ?_
  refine z_aload_n B dL_law_186 rfl 5 rfl ?_
  refine z_iload B dL_law_187 1 rfl ?_
  refine z_iconst (v := 1) B dL_law_189 (by decide) ?_
  refine z_iadd B dL_law_190 ?_
  refine z_seti (y := 1) (by decide) ?_
  refine z_sld (j := 1) (x := 4) B hX hbl hbA (by decide) (show ¬ ((1 : Int32) < 0 ∨ 6 ≤ (1 : Int32).toNatClampNeg) by decide) h_x1 dL_law_191 ?_
  refine z_aload_n B dL_law_192 rfl 5 rfl ?_
  refine z_iload B dL_law_193 1 rfl ?_
  refine z_iconst (v := 2) B dL_law_195 (by decide) ?_
  refine z_iadd B dL_law_196 ?_
  refine z_seti (y := 2) (by decide) ?_
  refine z_sld (j := 2) (x := x2) B hX hbl hbA (by decide) (show ¬ ((2 : Int32) < 0 ∨ 6 ≤ (2 : Int32).toNatClampNeg) by decide) h_x2 dL_law_197 ?_
  refine z_aload_n B dL_law_198 rfl 5 rfl ?_
  refine z_iload B dL_law_199 1 rfl ?_
  refine z_iconst (v := 3) B dL_law_201 (by decide) ?_
  refine z_iadd B dL_law_202 ?_
  refine z_seti (y := 3) (by decide) ?_
  refine z_sld (j := 3) (x := x3) B hX hbl hbA (by decide) (show ¬ ((3 : Int32) < 0 ∨ 6 ≤ (3 : Int32).toNatClampNeg) by decide) h_x3 dL_law_203 ?_
  refine z_aload_n B dL_law_204 rfl 5 rfl ?_
  refine z_iload B dL_law_205 1 rfl ?_
  refine z_iconst (v := 4) B dL_law_207 (by decide) ?_
  refine z_iadd B dL_law_208 ?_
  refine z_seti (y := 4) (by decide) ?_
  refine z_sld (j := 4) (x := x4) B hX hbl hbA (by decide) (show ¬ ((4 : Int32) < 0 ∨ 6 ≤ (4 : Int32).toNatClampNeg) by decide) h_x4 dL_law_209 ?_
  refine z_aload_n B dL_law_210 rfl 5 rfl ?_
  refine z_iload B dL_law_211 1 rfl ?_
  refine z_iconst (v := 5) B dL_law_213 (by decide) ?_
  refine z_iadd B dL_law_214 ?_
  refine z_seti (y := 5) (by decide) ?_
  refine z_sld (j := 5) (x := x5) B hX hbl hbA (by decide) (show ¬ ((5 : Int32) < 0 ∨ 6 ≤ (5 : Int32).toNatClampNeg) by decide) h_x5 dL_law_215 ?_
  refine z_cVi (As := [.int 4, .int x2, .int x3, .int x4, .int x5]) (rest := []) B cw_L_79 cx_10 dL_law_216 (ci_X9_set_307 l (σ := (ap b (wx_Z σ z) [] [] [])) (b := b) (lyA (lyZ hK)) x2 x3 x4 x5 q1_x2 q2_x2 q1_x3 q2_x3) (lKA (lKZ (hk_K hK 405 rfl rfl))) rfl (by decide) rfl (Nat.le_of_ble_eq_true rfl) (by decide) (fun r u hu => ?_)
  refine z_eqs (σ' := (ap b (wx_Z σ z) [(405, 0, 2)] [] [])) (hu.2.trans ap_ap) ?_
  show zx p l e _ s m _ below meth c g 8 _ _ _ _ 219 [(5, .int 2), (4, .int 0), (3, .ref (b + 431)), (2, .ref (b + 405)), (1, .ref (b + 0)), (0, .ref bS)] _
  refine z_seti (y := 0) hu.1 ?_
  refine z_istore (lv' := [(6, .int 0), (5, .int 2), (4, .int 0), (3, .ref (b + 431)), (2, .ref (b + 405)), (1, .ref (b + 0)), (0, .ref bS)]) B dL_law_219 (by decide) rfl ?_
  refine z_aload_n B dL_law_221 rfl 4 rfl ?_
  refine z_cVi (As := []) (rest := []) B cw_L_80 cx_10 dL_law_222 (ci_X9_thrown_73 l (σ := (ap b (wx_Z σ z) [(405, 0, 2)] [] [])) (b := b) (lyA (lyZ hK)) (rI_at 405 0 rfl)) (lKA (lKZ (hk_K hK 405 rfl rfl))) rfl (by decide) rfl (Nat.le_of_ble_eq_true rfl) (by decide) (fun r u hu => ?_)
  refine z_eqs (σ' := (ap b (wx_Z σ z) [(405, 0, 2)] [] [])) hu.2 ?_
  show zx p l e _ s m _ below meth c g 8 _ _ _ _ 225 [(6, .int 0), (5, .int 2), (4, .int 0), (3, .ref (b + 431)), (2, .ref (b + 405)), (1, .ref (b + 0)), (0, .ref bS)] _
  refine z_seti (y := 2) hu.1 ?_
  refine z_iload B dL_law_225 1 rfl ?_
  refine z_icmp_eq (tgt := 232) B dL_law_227 (by decide) (fun _ => ?_) (fun h => absurd (by decide) h)
  refine z_iload B dL_law_232 1 rfl ?_
  refine z_if_ne (tgt := 249) B dL_law_234 (by decide) (fun _ => ?_) (fun h => absurd h (by decide))
  refine z_goto (tgt := 1395) B dL_law_249 (by decide) ?_
  exact z_widen (Nat.le_of_ble_eq_true rfl) (Nat.le_of_ble_eq_true rfl) (z_sub _ [2, 6] rfl (kk _))
set_option maxRecDepth 100000 in
set_option maxHeartbeats 4000000 in
theorem lf_0_105 {p : Program} {l : Launch} {e : Env} {s : State} {m : MethodId} {args : Array Value} {below : List Frame} {meth : Method} {c : Code} {g : gx_T} {Q : State → Prop} {σ : sx_T} {b t bS : Nat} {xs : Nat → Int32} (hlt : l.stackTraces = false) (B : zx_B p s m args meth c code RL 8 g) (hX : va_X bS 6 xs s s.heap) (hbl : bS < s.heap.size) (hbA : ¬ gx_b g ≤ bS) (hF : fz_P b t σ) (h_x1 : xs 1 = 4) {x2 : Int32} (h_x2 : xs 2 = x2) (q1_x2 : (20 : Int) ≤ x2.toInt) (q2_x2 : x2.toInt ≤ (2147483647 : Int)) {x3 : Int32} (h_x3 : xs 3 = x3) (q1_x3 : (-2147483648 : Int) ≤ x3.toInt) (q2_x3 : x3.toInt ≤ (-1 : Int)) {x4 : Int32} (h_x4 : xs 4 = x4) (q1_x4 : (-2147483648 : Int) ≤ x4.toInt) (q2_x4 : x4.toInt ≤ (2147483647 : Int)) {x5 : Int32} (h_x5 : xs 5 = x5) (q1_x5 : (-2147483648 : Int) ≤ x5.toInt) (q2_x5 : x5.toInt ≤ (2147483647 : Int)) (kk : ∀ σ', zx p l e room_1 s m args below meth c g 8 600002 7302232 Q σ' 1395 [(4, .int 0), (0, .ref bS)] []) : zx p l e room_1 s m args below meth c g 8 500 100000 Q σ 148 [(4, .int 0), (3, .ref (b + 431)), (2, .ref (b + 405)), (1, .ref (b + 0)), (0, .ref bS)] [] := by
  have hK := fz_lay hF
  refine z_eqs (σ' := (ap b σ [] [] [])) rfl ?_
  refine z_aload_n B dL_law_148 rfl 3 rfl ?_
  refine z_aload_n B dL_law_149 rfl 4 rfl ?_
  refine z_iload B dL_law_150 0 rfl ?_
  refine z_iconst (v := 1) B dL_law_152 (by decide) ?_
  refine z_iadd B dL_law_153 ?_
  refine z_seti (y := 1) (by decide) ?_
  refine z_sld (j := 1) (x := 4) B hX hbl hbA (by decide) (show ¬ ((1 : Int32) < 0 ∨ 6 ≤ (1 : Int32).toNatClampNeg) by decide) h_x1 dL_law_154 ?_
  refine z_aload_n B dL_law_155 rfl 4 rfl ?_
  refine z_iload B dL_law_156 0 rfl ?_
  refine z_iconst (v := 2) B dL_law_158 (by decide) ?_
  refine z_iadd B dL_law_159 ?_
  refine z_seti (y := 2) (by decide) ?_
  refine z_sld (j := 2) (x := x2) B hX hbl hbA (by decide) (show ¬ ((2 : Int32) < 0 ∨ 6 ≤ (2 : Int32).toNatClampNeg) by decide) h_x2 dL_law_160 ?_
  refine z_aload_n B dL_law_161 rfl 4 rfl ?_
  refine z_iload B dL_law_162 0 rfl ?_
  refine z_iconst (v := 3) B dL_law_164 (by decide) ?_
  refine z_iadd B dL_law_165 ?_
  refine z_seti (y := 3) (by decide) ?_
  refine z_sld (j := 3) (x := x3) B hX hbl hbA (by decide) (show ¬ ((3 : Int32) < 0 ∨ 6 ≤ (3 : Int32).toNatClampNeg) by decide) h_x3 dL_law_166 ?_
  refine z_aload_n B dL_law_167 rfl 4 rfl ?_
  refine z_iload B dL_law_168 0 rfl ?_
  refine z_iconst (v := 4) B dL_law_170 (by decide) ?_
  refine z_iadd B dL_law_171 ?_
  refine z_seti (y := 4) (by decide) ?_
  refine z_sld (j := 4) (x := x4) B hX hbl hbA (by decide) (show ¬ ((4 : Int32) < 0 ∨ 6 ≤ (4 : Int32).toNatClampNeg) by decide) h_x4 dL_law_172 ?_
  refine z_aload_n B dL_law_173 rfl 4 rfl ?_
  refine z_iload B dL_law_174 0 rfl ?_
  refine z_iconst (v := 5) B dL_law_176 (by decide) ?_
  refine z_iadd B dL_law_177 ?_
  refine z_seti (y := 5) (by decide) ?_
  refine z_sld (j := 5) (x := x5) B hX hbl hbA (by decide) (show ¬ ((5 : Int32) < 0 ∨ 6 ≤ (5 : Int32).toNatClampNeg) by decide) h_x5 dL_law_178 ?_
  refine z_aload_n B dL_law_179 rfl 1 rfl ?_
  refine z_cSWi (As := [.ref (b + 0), .int 4, .int x2, .int x3, .int x4, .int x5, .ref (b + 431)]) (rest := []) B cw_L_74 dL_law_180 (ci_L_set_309 l hlt (σ := (ap b σ [] [] [])) (b := b) (lyA hK) x2 x3 x4 x5 q1_x2 q2_x2 (rR_at 0 0 (fz_R hF 0 0 rfl rfl)) (rR_at 1 4 (fz_R hF 1 4 rfl rfl))) rfl (by decide) rfl (Nat.le_of_ble_eq_true rfl) (by decide) (fun r u hu => ?_)
  obtain ⟨hu1, z, hu⟩ := hu
  refine z_eqs (σ' := (ap b (wx_Z σ z) [] [] [])) (hu.trans az_ap) ?_
  show zx p l e _ s m _ below meth c g 8 _ _ _ _ 183 [(4, .int 0), (3, .ref (b + 431)), (2, .ref (b + 405)), (1, .ref (b + 0)), (0, .ref bS)] _
  refine z_seti (y := 1) hu1 ?_
  refine z_istore (lv' := [(5, .int 1), (4, .int 0), (3, .ref (b + 431)), (2, .ref (b + 405)), (1, .ref (b + 0)), (0, .ref bS)]) B dL_law_183 (by decide) rfl ?_
  refine z_aload_n B dL_law_185 rfl 3 rfl ?_
  refine z_aload_n B dL_law_186 rfl 5 rfl ?_
  refine z_iload B dL_law_187 1 rfl ?_
  refine z_iconst (v := 1) B dL_law_189 (by decide) ?_
  refine z_iadd B dL_law_190 ?_
  refine z_seti (y := 1) (by decide) ?_
  refine z_sld (j := 1) (x := 4) B hX hbl hbA (by decide) (show ¬ ((1 : Int32) < 0 ∨ 6 ≤ (1 : Int32).toNatClampNeg) by decide) h_x1 dL_law_191 ?_
  refine z_aload_n B dL_law_192 rfl 5 rfl ?_
  refine z_iload B dL_law_193 1 rfl ?_
  refine z_iconst (v := 2) B dL_law_195 (by decide) ?_
  refine z_iadd B dL_law_196 ?_
  refine z_seti (y := 2) (by decide) ?_
  refine z_sld (j := 2) (x := x2) B hX hbl hbA (by decide) (show ¬ ((2 : Int32) < 0 ∨ 6 ≤ (2 : Int32).toNatClampNeg) by decide) h_x2 dL_law_197 ?_
  refine z_aload_n B dL_law_198 rfl 5 rfl ?_
  refine z_iload B dL_law_199 1 rfl ?_
  refine z_iconst (v := 3) B dL_law_201 (by decide) ?_
  refine z_iadd B dL_law_202 ?_
  refine z_seti (y := 3) (by decide) ?_
  refine z_sld (j := 3) (x := x3) B hX hbl hbA (by decide) (show ¬ ((3 : Int32) < 0 ∨ 6 ≤ (3 : Int32).toNatClampNeg) by decide) h_x3 dL_law_203 ?_
  refine z_aload_n B dL_law_204 rfl 5 rfl ?_
  refine z_iload B dL_law_205 1 rfl ?_
  refine z_iconst (v := 4) B dL_law_207 (by decide) ?_
  refine z_iadd B dL_law_208 ?_
  refine z_seti (y := 4) (by decide) ?_
  refine z_sld (j := 4) (x := x4) B hX hbl hbA (by decide) (show ¬ ((4 : Int32) < 0 ∨ 6 ≤ (4 : Int32).toNatClampNeg) by decide) h_x4 dL_law_209 ?_
  refine z_aload_n B dL_law_210 rfl 5 rfl ?_
  refine z_iload B dL_law_211 1 rfl ?_
  refine z_iconst (v := 5) B dL_law_213 (by decide) ?_
  refine z_iadd B dL_law_214 ?_
  refine z_seti (y := 5) (by decide) ?_
  refine z_sld (j := 5) (x := x5) B hX hbl hbA (by decide) (show ¬ ((5 : Int32) < 0 ∨ 6 ≤ (5 : Int32).toNatClampNeg) by decide) h_x5 dL_law_215 ?_
  refine z_cVi (As := [.int 4, .int x2, .int x3, .int x4, .int x5]) (rest := []) B cw_L_79 cx_10 dL_law_216 (ci_X9_set_311 l (σ := (ap b (wx_Z σ z) [] [] [])) (b := b) (lyA (lyZ hK)) x2 x3 x4 x5 q1_x2 q2_x2 q1_x3 q2_x3) (lKA (lKZ (hk_K hK 405 rfl rfl))) rfl (by decide) rfl (Nat.le_of_ble_eq_true rfl) (by decide) (fun r u hu => ?_)
  refine z_eqs (σ' := (ap b (wx_Z σ z) [(405, 0, 1)] [] [])) (hu.2.trans ap_ap) ?_
  show zx p l e _ s m _ below meth c g 8 _ _ _ _ 219 [(5, .int 1), (4, .int 0), (3, .ref (b + 431)), (2, .ref (b + 405)), (1, .ref (b + 0)), (0, .ref bS)] _
  refine z_seti (y := 0) hu.1 ?_
  refine z_istore (lv' := [(6, .int 0), (5, .int 1), (4, .int 0), (3, .ref (b + 431)), (2, .ref (b + 405)), (1, .ref (b + 0)), (0, .ref bS)]) B dL_law_219 (by decide) rfl ?_
  refine z_aload_n B dL_law_221 rfl 4 rfl ?_
  refine z_cVi (As := []) (rest := []) B cw_L_80 cx_10 dL_law_222 (ci_X9_thrown_31 l (σ := (ap b (wx_Z σ z) [(405, 0, 1)] [] [])) (b := b) (lyA (lyZ hK)) (rI_at 405 0 rfl)) (lKA (lKZ (hk_K hK 405 rfl rfl))) rfl (by decide) rfl (Nat.le_of_ble_eq_true rfl) (by decide) (fun r u hu => ?_)
  refine z_eqs (σ' := (ap b (wx_Z σ z) [(405, 0, 1)] [] [])) hu.2 ?_
  show zx p l e _ s m _ below meth c g 8 _ _ _ _ 225 [(6, .int 0), (5, .int 1), (4, .int 0), (3, .ref (b + 431)), (2, .ref (b + 405)), (1, .ref (b + 0)), (0, .ref bS)] _
  refine z_seti (y := 1) hu.1 ?_
  refine z_iload B dL_law_225 1 rfl ?_
  refine z_icmp_eq (tgt := 232) B dL_law_227 (by decide) (fun _ => ?_) (fun h => absurd (by decide) h)
  refine z_iload B dL_law_232 1 rfl ?_
  refine z_if_ne (tgt := 249) B dL_law_234 (by decide) (fun _ => ?_) (fun h => absurd h (by decide))
  refine z_goto (tgt := 1395) B dL_law_249 (by decide) ?_
  exact z_widen (Nat.le_of_ble_eq_true rfl) (Nat.le_of_ble_eq_true rfl) (z_sub _ [2, 6] rfl (kk _))
set_option maxRecDepth 100000 in
set_option maxHeartbeats 4000000 in
theorem lf_0_106 {p : Program} {l : Launch} {e : Env} {s : State} {m : MethodId} {args : Array Value} {below : List Frame} {meth : Method} {c : Code} {g : gx_T} {Q : State → Prop} {σ : sx_T} {b t bS : Nat} {xs : Nat → Int32} (hlt : l.stackTraces = false) (B : zx_B p s m args meth c code RL 8 g) (hX : va_X bS 6 xs s s.heap) (hbl : bS < s.heap.size) (hbA : ¬ gx_b g ≤ bS) (hF : fz_P b t σ) (h_x1 : xs 1 = 4) {x2 : Int32} (h_x2 : xs 2 = x2) (q1_x2 : (20 : Int) ≤ x2.toInt) (q2_x2 : x2.toInt ≤ (2147483647 : Int)) {x3 : Int32} (h_x3 : xs 3 = x3) (q1_x3 : (0 : Int) ≤ x3.toInt) (q2_x3 : x3.toInt ≤ (17 : Int)) {x4 : Int32} (h_x4 : xs 4 = x4) (q1_x4 : (-2147483648 : Int) ≤ x4.toInt) (q2_x4 : x4.toInt ≤ (-1 : Int)) {x5 : Int32} (h_x5 : xs 5 = x5) (q1_x5 : (-2147483648 : Int) ≤ x5.toInt) (q2_x5 : x5.toInt ≤ (2147483647 : Int)) (kk : ∀ σ', zx p l e room_1 s m args below meth c g 8 600002 7302232 Q σ' 1395 [(4, .int 0), (0, .ref bS)] []) : zx p l e room_1 s m args below meth c g 8 500 100000 Q σ 148 [(4, .int 0), (3, .ref (b + 431)), (2, .ref (b + 405)), (1, .ref (b + 0)), (0, .ref bS)] [] := by
  have hK := fz_lay hF
  refine z_eqs (σ' := (ap b σ [] [] [])) rfl ?_
  refine z_aload_n B dL_law_148 rfl 3 rfl ?_
  refine z_aload_n B dL_law_149 rfl 4 rfl ?_
  refine z_iload B dL_law_150 0 rfl ?_
  refine z_iconst (v := 1) B dL_law_152 (by decide) ?_
  refine z_iadd B dL_law_153 ?_
  refine z_seti (y := 1) (by decide) ?_
  refine z_sld (j := 1) (x := 4) B hX hbl hbA (by decide) (show ¬ ((1 : Int32) < 0 ∨ 6 ≤ (1 : Int32).toNatClampNeg) by decide) h_x1 dL_law_154 ?_
  refine z_aload_n B dL_law_155 rfl 4 rfl ?_
  refine z_iload B dL_law_156 0 rfl ?_
  refine z_iconst (v := 2) B dL_law_158 (by decide) ?_
  refine z_iadd B dL_law_159 ?_
  refine z_seti (y := 2) (by decide) ?_
  refine z_sld (j := 2) (x := x2) B hX hbl hbA (by decide) (show ¬ ((2 : Int32) < 0 ∨ 6 ≤ (2 : Int32).toNatClampNeg) by decide) h_x2 dL_law_160 ?_
  refine z_aload_n B dL_law_161 rfl 4 rfl ?_
  refine z_iload B dL_law_162 0 rfl ?_
  refine z_iconst (v := 3) B dL_law_164 (by decide) ?_
  refine z_iadd B dL_law_165 ?_
  refine z_seti (y := 3) (by decide) ?_
  refine z_sld (j := 3) (x := x3) B hX hbl hbA (by decide) (show ¬ ((3 : Int32) < 0 ∨ 6 ≤ (3 : Int32).toNatClampNeg) by decide) h_x3 dL_law_166 ?_
  refine z_aload_n B dL_law_167 rfl 4 rfl ?_
  refine z_iload B dL_law_168 0 rfl ?_
  refine z_iconst (v := 4) B dL_law_170 (by decide) ?_
  refine z_iadd B dL_law_171 ?_
  refine z_seti (y := 4) (by decide) ?_
  refine z_sld (j := 4) (x := x4) B hX hbl hbA (by decide) (show ¬ ((4 : Int32) < 0 ∨ 6 ≤ (4 : Int32).toNatClampNeg) by decide) h_x4 dL_law_172 ?_
  refine z_aload_n B dL_law_173 rfl 4 rfl ?_
  refine z_iload B dL_law_174 0 rfl ?_
  refine z_iconst (v := 5) B dL_law_176 (by decide) ?_
  refine z_iadd B dL_law_177 ?_
  refine z_seti (y := 5) (by decide) ?_
  refine z_sld (j := 5) (x := x5) B hX hbl hbA (by decide) (show ¬ ((5 : Int32) < 0 ∨ 6 ≤ (5 : Int32).toNatClampNeg) by decide) h_x5 dL_law_178 ?_
  refine z_aload_n B dL_law_179 rfl 1 rfl ?_
  refine z_cSWi (As := [.ref (b + 0), .int 4, .int x2, .int x3, .int x4, .int x5, .ref (b + 431)]) (rest := []) B cw_L_74 dL_law_180 (ci_L_set_309 l hlt (σ := (ap b σ [] [] [])) (b := b) (lyA hK) x2 x3 x4 x5 q1_x2 q2_x2 (rR_at 0 0 (fz_R hF 0 0 rfl rfl)) (rR_at 1 4 (fz_R hF 1 4 rfl rfl))) rfl (by decide) rfl (Nat.le_of_ble_eq_true rfl) (by decide) (fun r u hu => ?_)
  obtain ⟨hu1, z, hu⟩ := hu
  refine z_eqs (σ' := (ap b (wx_Z σ z) [] [] [])) (hu.trans az_ap) ?_
  show zx p l e _ s m _ below meth c g 8 _ _ _ _ 183 [(4, .int 0), (3, .ref (b + 431)), (2, .ref (b + 405)), (1, .ref (b + 0)), (0, .ref bS)] _
  refine z_seti (y := 1) hu1 ?_
  refine z_istore (lv' := [(5, .int 1), (4, .int 0), (3, .ref (b + 431)), (2, .ref (b + 405)), (1, .ref (b + 0)), (0, .ref bS)]) B dL_law_183 (by decide) rfl ?_
  refine z_aload_n B dL_law_185 rfl 3 rfl ?_
  refine z_aload_n B dL_law_186 rfl 5 rfl ?_
  refine z_iload B dL_law_187 1 rfl ?_
  refine z_iconst (v := 1) B dL_law_189 (by decide) ?_
  refine z_iadd B dL_law_190 ?_
  refine z_seti (y := 1) (by decide) ?_
  refine z_sld (j := 1) (x := 4) B hX hbl hbA (by decide) (show ¬ ((1 : Int32) < 0 ∨ 6 ≤ (1 : Int32).toNatClampNeg) by decide) h_x1 dL_law_191 ?_
  refine z_aload_n B dL_law_192 rfl 5 rfl ?_
  refine z_iload B dL_law_193 1 rfl ?_
  refine z_iconst (v := 2) B dL_law_195 (by decide) ?_
  refine z_iadd B dL_law_196 ?_
  refine z_seti (y := 2) (by decide) ?_
  refine z_sld (j := 2) (x := x2) B hX hbl hbA (by decide) (show ¬ ((2 : Int32) < 0 ∨ 6 ≤ (2 : Int32).toNatClampNeg) by decide) h_x2 dL_law_197 ?_
  refine z_aload_n B dL_law_198 rfl 5 rfl ?_
  refine z_iload B dL_law_199 1 rfl ?_
  refine z_iconst (v := 3) B dL_law_201 (by decide) ?_
  refine z_iadd B dL_law_202 ?_
  refine z_seti (y := 3) (by decide) ?_
  refine z_sld (j := 3) (x := x3) B hX hbl hbA (by decide) (show ¬ ((3 : Int32) < 0 ∨ 6 ≤ (3 : Int32).toNatClampNeg) by decide) h_x3 dL_law_203 ?_
  refine z_aload_n B dL_law_204 rfl 5 rfl ?_
  refine z_iload B dL_law_205 1 rfl ?_
  refine z_iconst (v := 4) B dL_law_207 (by decide) ?_
  refine z_iadd B dL_law_208 ?_
  refine z_seti (y := 4) (by decide) ?_
  refine z_sld (j := 4) (x := x4) B hX hbl hbA (by decide) (show ¬ ((4 : Int32) < 0 ∨ 6 ≤ (4 : Int32).toNatClampNeg) by decide) h_x4 dL_law_209 ?_
  refine z_aload_n B dL_law_210 rfl 5 rfl ?_
  refine z_iload B dL_law_211 1 rfl ?_
  refine z_iconst (v := 5) B dL_law_213 (by decide) ?_
  refine z_iadd B dL_law_214 ?_
  refine z_seti (y := 5) (by decide) ?_
  refine z_sld (j := 5) (x := x5) B hX hbl hbA (by decide) (show ¬ ((5 : Int32) < 0 ∨ 6 ≤ (5 : Int32).toNatClampNeg) by decide) h_x5 dL_law_215 ?_
  refine z_cVi (As := [.int 4, .int x2, .int x3, .int x4, .int x5]) (rest := []) B cw_L_79 cx_10 dL_law_216 (ci_X9_set_312 l (σ := (ap b (wx_Z σ z) [] [] [])) (b := b) (lyA (lyZ hK)) x2 x3 x4 x5 q1_x2 q2_x2 q1_x3 q2_x3 q1_x4 q2_x4) (lKA (lKZ (hk_K hK 405 rfl rfl))) rfl (by decide) rfl (Nat.le_of_ble_eq_true rfl) (by decide) (fun r u hu => ?_)
  refine z_eqs (σ' := (ap b (wx_Z σ z) [(405, 0, 1)] [] [])) (hu.2.trans ap_ap) ?_
  show zx p l e _ s m _ below meth c g 8 _ _ _ _ 219 [(5, .int 1), (4, .int 0), (3, .ref (b + 431)), (2, .ref (b + 405)), (1, .ref (b + 0)), (0, .ref bS)] _
  refine z_seti (y := 0) hu.1 ?_
  refine z_istore (lv' := [(6, .int 0), (5, .int 1), (4, .int 0), (3, .ref (b + 431)), (2, .ref (b + 405)), (1, .ref (b + 0)), (0, .ref bS)]) B dL_law_219 (by decide) rfl ?_
  refine z_aload_n B dL_law_221 rfl 4 rfl ?_
  refine z_cVi (As := []) (rest := []) B cw_L_80 cx_10 dL_law_222 (ci_X9_thrown_31 l (σ := (ap b (wx_Z σ z) [(405, 0, 1)] [] [])) (b := b) (lyA (lyZ hK)) (rI_at 405 0 rfl)) (lKA (lKZ (hk_K hK 405 rfl rfl))) rfl (by decide) rfl (Nat.le_of_ble_eq_true rfl) (by decide) (fun r u hu => ?_)
  refine z_eqs (σ' := (ap b (wx_Z σ z) [(405, 0, 1)] [] [])) hu.2 ?_
  show zx p l e _ s m _ below meth c g 8 _ _ _ _ 225 [(6, .int 0), (5, .int 1), (4, .int 0), (3, .ref (b + 431)), (2, .ref (b + 405)), (1, .ref (b + 0)), (0, .ref bS)] _
  refine z_seti (y := 1) hu.1 ?_
  refine z_iload B dL_law_225 1 rfl ?_
  refine z_icmp_eq (tgt := 232) B dL_law_227 (by decide) (fun _ => ?_) (fun h => absurd (by decide) h)
  refine z_iload B dL_law_232 1 rfl ?_
  refine z_if_ne (tgt := 249) B dL_law_234 (by decide) (fun _ => ?_) (fun h => absurd h (by decide))
  refine z_goto (tgt := 1395) B dL_law_249 (by decide) ?_
  exact z_widen (Nat.le_of_ble_eq_true rfl) (Nat.le_of_ble_eq_true rfl) (z_sub _ [2, 6] rfl (kk _))
set_option maxRecDepth 100000 in
set_option maxHeartbeats 4000000 in
theorem lf_0_107 {p : Program} {l : Launch} {e : Env} {s : State} {m : MethodId} {args : Array Value} {below : List Frame} {meth : Method} {c : Code} {g : gx_T} {Q : State → Prop} {σ : sx_T} {b t bS : Nat} {xs : Nat → Int32} (hlt : l.stackTraces = false) (B : zx_B p s m args meth c code RL 8 g) (hX : va_X bS 6 xs s s.heap) (hbl : bS < s.heap.size) (hbA : ¬ gx_b g ≤ bS) (hF : fz_P b t σ) (h_x1 : xs 1 = 4) {x2 : Int32} (h_x2 : xs 2 = x2) (q1_x2 : (20 : Int) ≤ x2.toInt) (q2_x2 : x2.toInt ≤ (2147483647 : Int)) {x3 : Int32} (h_x3 : xs 3 = x3) (q1_x3 : (0 : Int) ≤ x3.toInt) (q2_x3 : x3.toInt ≤ (17 : Int)) {x4 : Int32} (h_x4 : xs 4 = x4) (q1_x4 : (0 : Int) ≤ x4.toInt) (q2_x4 : x4.toInt ≤ (99 : Int)) {x5 : Int32} (h_x5 : xs 5 = x5) (q1_x5 : (-2147483648 : Int) ≤ x5.toInt) (q2_x5 : x5.toInt ≤ (-1 : Int)) (kk : ∀ σ', zx p l e room_1 s m args below meth c g 8 600002 7302232 Q σ' 1395 [(4, .int 0), (0, .ref bS)] []) : zx p l e room_1 s m args below meth c g 8 500 100000 Q σ 148 [(4, .int 0), (3, .ref (b + 431)), (2, .ref (b + 405)), (1, .ref (b + 0)), (0, .ref bS)] [] := by
  have hK := fz_lay hF
  refine z_eqs (σ' := (ap b σ [] [] [])) rfl ?_
  refine z_aload_n B dL_law_148 rfl 3 rfl ?_
  refine z_aload_n B dL_law_149 rfl 4 rfl ?_
  refine z_iload B dL_law_150 0 rfl ?_
  refine z_iconst (v := 1) B dL_law_152 (by decide) ?_
  refine z_iadd B dL_law_153 ?_
  refine z_seti (y := 1) (by decide) ?_
  refine z_sld (j := 1) (x := 4) B hX hbl hbA (by decide) (show ¬ ((1 : Int32) < 0 ∨ 6 ≤ (1 : Int32).toNatClampNeg) by decide) h_x1 dL_law_154 ?_
  refine z_aload_n B dL_law_155 rfl 4 rfl ?_
  refine z_iload B dL_law_156 0 rfl ?_
  refine z_iconst (v := 2) B dL_law_158 (by decide) ?_
  refine z_iadd B dL_law_159 ?_
  refine z_seti (y := 2) (by decide) ?_
  refine z_sld (j := 2) (x := x2) B hX hbl hbA (by decide) (show ¬ ((2 : Int32) < 0 ∨ 6 ≤ (2 : Int32).toNatClampNeg) by decide) h_x2 dL_law_160 ?_
  refine z_aload_n B dL_law_161 rfl 4 rfl ?_
  refine z_iload B dL_law_162 0 rfl ?_
  refine z_iconst (v := 3) B dL_law_164 (by decide) ?_
  refine z_iadd B dL_law_165 ?_
  refine z_seti (y := 3) (by decide) ?_
  refine z_sld (j := 3) (x := x3) B hX hbl hbA (by decide) (show ¬ ((3 : Int32) < 0 ∨ 6 ≤ (3 : Int32).toNatClampNeg) by decide) h_x3 dL_law_166 ?_
  refine z_aload_n B dL_law_167 rfl 4 rfl ?_
  refine z_iload B dL_law_168 0 rfl ?_
  refine z_iconst (v := 4) B dL_law_170 (by decide) ?_
  refine z_iadd B dL_law_171 ?_
  refine z_seti (y := 4) (by decide) ?_
  refine z_sld (j := 4) (x := x4) B hX hbl hbA (by decide) (show ¬ ((4 : Int32) < 0 ∨ 6 ≤ (4 : Int32).toNatClampNeg) by decide) h_x4 dL_law_172 ?_
  refine z_aload_n B dL_law_173 rfl 4 rfl ?_
  refine z_iload B dL_law_174 0 rfl ?_
  refine z_iconst (v := 5) B dL_law_176 (by decide) ?_
  refine z_iadd B dL_law_177 ?_
  refine z_seti (y := 5) (by decide) ?_
  refine z_sld (j := 5) (x := x5) B hX hbl hbA (by decide) (show ¬ ((5 : Int32) < 0 ∨ 6 ≤ (5 : Int32).toNatClampNeg) by decide) h_x5 dL_law_178 ?_
  refine z_aload_n B dL_law_179 rfl 1 rfl ?_
  refine z_cSWi (As := [.ref (b + 0), .int 4, .int x2, .int x3, .int x4, .int x5, .ref (b + 431)]) (rest := []) B cw_L_74 dL_law_180 (ci_L_set_309 l hlt (σ := (ap b σ [] [] [])) (b := b) (lyA hK) x2 x3 x4 x5 q1_x2 q2_x2 (rR_at 0 0 (fz_R hF 0 0 rfl rfl)) (rR_at 1 4 (fz_R hF 1 4 rfl rfl))) rfl (by decide) rfl (Nat.le_of_ble_eq_true rfl) (by decide) (fun r u hu => ?_)
  obtain ⟨hu1, z, hu⟩ := hu
  refine z_eqs (σ' := (ap b (wx_Z σ z) [] [] [])) (hu.trans az_ap) ?_
  show zx p l e _ s m _ below meth c g 8 _ _ _ _ 183 [(4, .int 0), (3, .ref (b + 431)), (2, .ref (b + 405)), (1, .ref (b + 0)), (0, .ref bS)] _
  refine z_seti (y := 1) hu1 ?_
  refine z_istore (lv' := [(5, .int 1), (4, .int 0), (3, .ref (b + 431)), (2, .ref (b + 405)), (1, .ref (b + 0)), (0, .ref bS)]) B dL_law_183 (by decide) rfl ?_
  refine z_aload_n B dL_law_185 rfl 3 rfl ?_
  refine z_aload_n B dL_law_186 rfl 5 rfl ?_
  refine z_iload B dL_law_187 1 rfl ?_
  refine z_iconst (v := 1) B dL_law_189 (by decide) ?_
  refine z_iadd B dL_law_190 ?_
  refine z_seti (y := 1) (by decide) ?_
  refine z_sld (j := 1) (x := 4) B hX hbl hbA (by decide) (show ¬ ((1 : Int32) < 0 ∨ 6 ≤ (1 : Int32).toNatClampNeg) by decide) h_x1 dL_law_191 ?_
  refine z_aload_n B dL_law_192 rfl 5 rfl ?_
  refine z_iload B dL_law_193 1 rfl ?_
  refine z_iconst (v := 2) B dL_law_195 (by decide) ?_
  refine z_iadd B dL_law_196 ?_
  refine z_seti (y := 2) (by decide) ?_
  refine z_sld (j := 2) (x := x2) B hX hbl hbA (by decide) (show ¬ ((2 : Int32) < 0 ∨ 6 ≤ (2 : Int32).toNatClampNeg) by decide) h_x2 dL_law_197 ?_
  refine z_aload_n B dL_law_198 rfl 5 rfl ?_
  refine z_iload B dL_law_199 1 rfl ?_
  refine z_iconst (v := 3) B dL_law_201 (by decide) ?_
  refine z_iadd B dL_law_202 ?_
  refine z_seti (y := 3) (by decide) ?_
  refine z_sld (j := 3) (x := x3) B hX hbl hbA (by decide) (show ¬ ((3 : Int32) < 0 ∨ 6 ≤ (3 : Int32).toNatClampNeg) by decide) h_x3 dL_law_203 ?_
  refine z_aload_n B dL_law_204 rfl 5 rfl ?_
  refine z_iload B dL_law_205 1 rfl ?_
  refine z_iconst (v := 4) B dL_law_207 (by decide) ?_
  refine z_iadd B dL_law_208 ?_
  refine z_seti (y := 4) (by decide) ?_
  refine z_sld (j := 4) (x := x4) B hX hbl hbA (by decide) (show ¬ ((4 : Int32) < 0 ∨ 6 ≤ (4 : Int32).toNatClampNeg) by decide) h_x4 dL_law_209 ?_
  refine z_aload_n B dL_law_210 rfl 5 rfl ?_
  refine z_iload B dL_law_211 1 rfl ?_
  refine z_iconst (v := 5) B dL_law_213 (by decide) ?_
  refine z_iadd B dL_law_214 ?_
  refine z_seti (y := 5) (by decide) ?_
  refine z_sld (j := 5) (x := x5) B hX hbl hbA (by decide) (show ¬ ((5 : Int32) < 0 ∨ 6 ≤ (5 : Int32).toNatClampNeg) by decide) h_x5 dL_law_215 ?_
  refine z_cVi (As := [.int 4, .int x2, .int x3, .int x4, .int x5]) (rest := []) B cw_L_79 cx_10 dL_law_216 (ci_X9_set_313 l (σ := (ap b (wx_Z σ z) [] [] [])) (b := b) (lyA (lyZ hK)) x2 x3 x4 x5 q1_x2 q2_x2 q1_x3 q2_x3 q1_x4 q2_x4 q1_x5 q2_x5) (lKA (lKZ (hk_K hK 405 rfl rfl))) rfl (by decide) rfl (Nat.le_of_ble_eq_true rfl) (by decide) (fun r u hu => ?_)
  refine z_eqs (σ' := (ap b (wx_Z σ z) [(405, 0, 1)] [] [])) (hu.2.trans ap_ap) ?_
  show zx p l e _ s m _ below meth c g 8 _ _ _ _ 219 [(5, .int 1), (4, .int 0), (3, .ref (b + 431)), (2, .ref (b + 405)), (1, .ref (b + 0)), (0, .ref bS)] _
  refine z_seti (y := 0) hu.1 ?_
  refine z_istore (lv' := [(6, .int 0), (5, .int 1), (4, .int 0), (3, .ref (b + 431)), (2, .ref (b + 405)), (1, .ref (b + 0)), (0, .ref bS)]) B dL_law_219 (by decide) rfl ?_
  refine z_aload_n B dL_law_221 rfl 4 rfl ?_
  refine z_cVi (As := []) (rest := []) B cw_L_80 cx_10 dL_law_222 (ci_X9_thrown_31 l (σ := (ap b (wx_Z σ z) [(405, 0, 1)] [] [])) (b := b) (lyA (lyZ hK)) (rI_at 405 0 rfl)) (lKA (lKZ (hk_K hK 405 rfl rfl))) rfl (by decide) rfl (Nat.le_of_ble_eq_true rfl) (by decide) (fun r u hu => ?_)
  refine z_eqs (σ' := (ap b (wx_Z σ z) [(405, 0, 1)] [] [])) hu.2 ?_
  show zx p l e _ s m _ below meth c g 8 _ _ _ _ 225 [(6, .int 0), (5, .int 1), (4, .int 0), (3, .ref (b + 431)), (2, .ref (b + 405)), (1, .ref (b + 0)), (0, .ref bS)] _
  refine z_seti (y := 1) hu.1 ?_
  refine z_iload B dL_law_225 1 rfl ?_
  refine z_icmp_eq (tgt := 232) B dL_law_227 (by decide) (fun _ => ?_) (fun h => absurd (by decide) h)
  refine z_iload B dL_law_232 1 rfl ?_
  refine z_if_ne (tgt := 249) B dL_law_234 (by decide) (fun _ => ?_) (fun h => absurd h (by decide))
  refine z_goto (tgt := 1395) B dL_law_249 (by decide) ?_
  exact z_widen (Nat.le_of_ble_eq_true rfl) (Nat.le_of_ble_eq_true rfl) (z_sub _ [2, 6] rfl (kk _))
set_option maxRecDepth 100000 in
set_option maxHeartbeats 4000000 in
theorem lf_0_108 {p : Program} {l : Launch} {e : Env} {s : State} {m : MethodId} {args : Array Value} {below : List Frame} {meth : Method} {c : Code} {g : gx_T} {Q : State → Prop} {σ : sx_T} {b t bS : Nat} {xs : Nat → Int32} (hlt : l.stackTraces = false) (B : zx_B p s m args meth c code RL 8 g) (hX : va_X bS 6 xs s s.heap) (hbl : bS < s.heap.size) (hbA : ¬ gx_b g ≤ bS) (hF : fz_P b t σ) (h_x1 : xs 1 = 4) {x2 : Int32} (h_x2 : xs 2 = x2) (q1_x2 : (20 : Int) ≤ x2.toInt) (q2_x2 : x2.toInt ≤ (2147483647 : Int)) {x3 : Int32} (h_x3 : xs 3 = x3) (q1_x3 : (0 : Int) ≤ x3.toInt) (q2_x3 : x3.toInt ≤ (17 : Int)) {x4 : Int32} (h_x4 : xs 4 = x4) (q1_x4 : (0 : Int) ≤ x4.toInt) (q2_x4 : x4.toInt ≤ (99 : Int)) {x5 : Int32} (h_x5 : xs 5 = x5) (q1_x5 : (0 : Int) ≤ x5.toInt) (q2_x5 : x5.toInt ≤ (99 : Int)) (kk : ∀ σ', zx p l e room_1 s m args below meth c g 8 600002 7302232 Q σ' 1395 [(4, .int 0), (0, .ref bS)] []) : zx p l e room_1 s m args below meth c g 8 500 100000 Q σ 148 [(4, .int 0), (3, .ref (b + 431)), (2, .ref (b + 405)), (1, .ref (b + 0)), (0, .ref bS)] [] := by
  have hK := fz_lay hF
  refine z_eqs (σ' := (ap b σ [] [] [])) rfl ?_
  refine z_aload_n B dL_law_148 rfl 3 rfl ?_
  refine z_aload_n B dL_law_149 rfl 4 rfl ?_
  refine z_iload B dL_law_150 0 rfl ?_
  refine z_iconst (v := 1) B dL_law_152 (by decide) ?_
  refine z_iadd B dL_law_153 ?_
  refine z_seti (y := 1) (by decide) ?_
  refine z_sld (j := 1) (x := 4) B hX hbl hbA (by decide) (show ¬ ((1 : Int32) < 0 ∨ 6 ≤ (1 : Int32).toNatClampNeg) by decide) h_x1 dL_law_154 ?_
  refine z_aload_n B dL_law_155 rfl 4 rfl ?_
  refine z_iload B dL_law_156 0 rfl ?_
  refine z_iconst (v := 2) B dL_law_158 (by decide) ?_
  refine z_iadd B dL_law_159 ?_
  refine z_seti (y := 2) (by decide) ?_
  refine z_sld (j := 2) (x := x2) B hX hbl hbA (by decide) (show ¬ ((2 : Int32) < 0 ∨ 6 ≤ (2 : Int32).toNatClampNeg) by decide) h_x2 dL_law_160 ?_
  refine z_aload_n B dL_law_161 rfl 4 rfl ?_
  refine z_iload B dL_law_162 0 rfl ?_
  refine z_iconst (v := 3) B dL_law_164 (by decide) ?_
  refine z_iadd B dL_law_165 ?_
  refine z_seti (y := 3) (by decide) ?_
  refine z_sld (j := 3) (x := x3) B hX hbl hbA (by decide) (show ¬ ((3 : Int32) < 0 ∨ 6 ≤ (3 : Int32).toNatClampNeg) by decide) h_x3 dL_law_166 ?_
  refine z_aload_n B dL_law_167 rfl 4 rfl ?_
  refine z_iload B dL_law_168 0 rfl ?_
  refine z_iconst (v := 4) B dL_law_170 (by decide) ?_
  refine z_iadd B dL_law_171 ?_
  refine z_seti (y := 4) (by decide) ?_
  refine z_sld (j := 4) (x := x4) B hX hbl hbA (by decide) (show ¬ ((4 : Int32) < 0 ∨ 6 ≤ (4 : Int32).toNatClampNeg) by decide) h_x4 dL_law_172 ?_
  refine z_aload_n B dL_law_173 rfl 4 rfl ?_
  refine z_iload B dL_law_174 0 rfl ?_
  refine z_iconst (v := 5) B dL_law_176 (by decide) ?_
  refine z_iadd B dL_law_177 ?_
  refine z_seti (y := 5) (by decide) ?_
  refine z_sld (j := 5) (x := x5) B hX hbl hbA (by decide) (show ¬ ((5 : Int32) < 0 ∨ 6 ≤ (5 : Int32).toNatClampNeg) by decide) h_x5 dL_law_178 ?_
  refine z_aload_n B dL_law_179 rfl 1 rfl ?_
  refine z_cSWi (As := [.ref (b + 0), .int 4, .int x2, .int x3, .int x4, .int x5, .ref (b + 431)]) (rest := []) B cw_L_74 dL_law_180 (ci_L_set_309 l hlt (σ := (ap b σ [] [] [])) (b := b) (lyA hK) x2 x3 x4 x5 q1_x2 q2_x2 (rR_at 0 0 (fz_R hF 0 0 rfl rfl)) (rR_at 1 4 (fz_R hF 1 4 rfl rfl))) rfl (by decide) rfl (Nat.le_of_ble_eq_true rfl) (by decide) (fun r u hu => ?_)
  obtain ⟨hu1, z, hu⟩ := hu
  refine z_eqs (σ' := (ap b (wx_Z σ z) [] [] [])) (hu.trans az_ap) ?_
  show zx p l e _ s m _ below meth c g 8 _ _ _ _ 183 [(4, .int 0), (3, .ref (b + 431)), (2, .ref (b + 405)), (1, .ref (b + 0)), (0, .ref bS)] _
  refine z_seti (y := 1) hu1 ?_
  refine z_istore (lv' := [(5, .int 1), (4, .int 0), (3, .ref (b + 431)), (2, .ref (b + 405)), (1, .ref (b + 0)), (0, .ref bS)]) B dL_law_183 (by decide) rfl ?_
  refine z_aload_n B dL_law_185 rfl 3 rfl ?_
  refine z_aload_n B dL_law_186 rfl 5 rfl ?_
  refine z_iload B dL_law_187 1 rfl ?_
  refine z_iconst (v := 1) B dL_law_189 (by decide) ?_
  refine z_iadd B dL_law_190 ?_
  refine z_seti (y := 1) (by decide) ?_
  refine z_sld (j := 1) (x := 4) B hX hbl hbA (by decide) (show ¬ ((1 : Int32) < 0 ∨ 6 ≤ (1 : Int32).toNatClampNeg) by decide) h_x1 dL_law_191 ?_
  refine z_aload_n B dL_law_192 rfl 5 rfl ?_
  refine z_iload B dL_law_193 1 rfl ?_
  refine z_iconst (v := 2) B dL_law_195 (by decide) ?_
  refine z_iadd B dL_law_196 ?_
  refine z_seti (y := 2) (by decide) ?_
  refine z_sld (j := 2) (x := x2) B hX hbl hbA (by decide) (show ¬ ((2 : Int32) < 0 ∨ 6 ≤ (2 : Int32).toNatClampNeg) by decide) h_x2 dL_law_197 ?_
  refine z_aload_n B dL_law_198 rfl 5 rfl ?_
  refine z_iload B dL_law_199 1 rfl ?_
  refine z_iconst (v := 3) B dL_law_201 (by decide) ?_
  refine z_iadd B dL_law_202 ?_
  refine z_seti (y := 3) (by decide) ?_
  refine z_sld (j := 3) (x := x3) B hX hbl hbA (by decide) (show ¬ ((3 : Int32) < 0 ∨ 6 ≤ (3 : Int32).toNatClampNeg) by decide) h_x3 dL_law_203 ?_
  refine z_aload_n B dL_law_204 rfl 5 rfl ?_
  refine z_iload B dL_law_205 1 rfl ?_
  refine z_iconst (v := 4) B dL_law_207 (by decide) ?_
  refine z_iadd B dL_law_208 ?_
  refine z_seti (y := 4) (by decide) ?_
  refine z_sld (j := 4) (x := x4) B hX hbl hbA (by decide) (show ¬ ((4 : Int32) < 0 ∨ 6 ≤ (4 : Int32).toNatClampNeg) by decide) h_x4 dL_law_209 ?_
  refine z_aload_n B dL_law_210 rfl 5 rfl ?_
  refine z_iload B dL_law_211 1 rfl ?_
  refine z_iconst (v := 5) B dL_law_213 (by decide) ?_
  refine z_iadd B dL_law_214 ?_
  refine z_seti (y := 5) (by decide) ?_
  refine z_sld (j := 5) (x := x5) B hX hbl hbA (by decide) (show ¬ ((5 : Int32) < 0 ∨ 6 ≤ (5 : Int32).toNatClampNeg) by decide) h_x5 dL_law_215 ?_
  refine z_cVi (As := [.int 4, .int x2, .int x3, .int x4, .int x5]) (rest := []) B cw_L_79 cx_10 dL_law_216 (ci_X9_set_314 l (σ := (ap b (wx_Z σ z) [] [] [])) (b := b) (lyA (lyZ hK)) x2 x3 x4 x5 q1_x2 q2_x2 q1_x3 q2_x3 q1_x4 q2_x4 q1_x5 q2_x5) (lKA (lKZ (hk_K hK 405 rfl rfl))) rfl (by decide) rfl (Nat.le_of_ble_eq_true rfl) (by decide) (fun r u hu => ?_)
  refine z_eqs (σ' := (ap b (wx_Z σ z) [(405, 0, 1)] [] [])) (hu.2.trans ap_ap) ?_
  show zx p l e _ s m _ below meth c g 8 _ _ _ _ 219 [(5, .int 1), (4, .int 0), (3, .ref (b + 431)), (2, .ref (b + 405)), (1, .ref (b + 0)), (0, .ref bS)] _
  refine z_seti (y := 0) hu.1 ?_
  refine z_istore (lv' := [(6, .int 0), (5, .int 1), (4, .int 0), (3, .ref (b + 431)), (2, .ref (b + 405)), (1, .ref (b + 0)), (0, .ref bS)]) B dL_law_219 (by decide) rfl ?_
  refine z_aload_n B dL_law_221 rfl 4 rfl ?_
  refine z_cVi (As := []) (rest := []) B cw_L_80 cx_10 dL_law_222 (ci_X9_thrown_31 l (σ := (ap b (wx_Z σ z) [(405, 0, 1)] [] [])) (b := b) (lyA (lyZ hK)) (rI_at 405 0 rfl)) (lKA (lKZ (hk_K hK 405 rfl rfl))) rfl (by decide) rfl (Nat.le_of_ble_eq_true rfl) (by decide) (fun r u hu => ?_)
  refine z_eqs (σ' := (ap b (wx_Z σ z) [(405, 0, 1)] [] [])) hu.2 ?_
  show zx p l e _ s m _ below meth c g 8 _ _ _ _ 225 [(6, .int 0), (5, .int 1), (4, .int 0), (3, .ref (b + 431)), (2, .ref (b + 405)), (1, .ref (b + 0)), (0, .ref bS)] _
  refine z_seti (y := 1) hu.1 ?_
  refine z_iload B dL_law_225 1 rfl ?_
  refine z_icmp_eq (tgt := 232) B dL_law_227 (by decide) (fun _ => ?_) (fun h => absurd (by decide) h)
  refine z_iload B dL_law_232 1 rfl ?_
  refine z_if_ne (tgt := 249) B dL_law_234 (by decide) (fun _ => ?_) (fun h => absurd h (by decide))
  refine z_goto (tgt := 1395) B dL_law_249 (by decide) ?_
  exact z_widen (Nat.le_of_ble_eq_true rfl) (Nat.le_of_ble_eq_true rfl) (z_sub _ [2, 6] rfl (kk _))
set_option maxRecDepth 100000 in
set_option maxHeartbeats 4000000 in
theorem lf_0_109 {p : Program} {l : Launch} {e : Env} {s : State} {m : MethodId} {args : Array Value} {below : List Frame} {meth : Method} {c : Code} {g : gx_T} {Q : State → Prop} {σ : sx_T} {b t bS : Nat} {xs : Nat → Int32} (hlt : l.stackTraces = false) (B : zx_B p s m args meth c code RL 8 g) (hX : va_X bS 6 xs s s.heap) (hbl : bS < s.heap.size) (hbA : ¬ gx_b g ≤ bS) (hF : fz_P b t σ) (h_x1 : xs 1 = 4) {x2 : Int32} (h_x2 : xs 2 = x2) (q1_x2 : (20 : Int) ≤ x2.toInt) (q2_x2 : x2.toInt ≤ (2147483647 : Int)) {x3 : Int32} (h_x3 : xs 3 = x3) (q1_x3 : (0 : Int) ≤ x3.toInt) (q2_x3 : x3.toInt ≤ (17 : Int)) {x4 : Int32} (h_x4 : xs 4 = x4) (q1_x4 : (0 : Int) ≤ x4.toInt) (q2_x4 : x4.toInt ≤ (99 : Int)) {x5 : Int32} (h_x5 : xs 5 = x5) (q1_x5 : (100 : Int) ≤ x5.toInt) (q2_x5 : x5.toInt ≤ (2147483647 : Int)) (kk : ∀ σ', zx p l e room_1 s m args below meth c g 8 600002 7302232 Q σ' 1395 [(4, .int 0), (0, .ref bS)] []) : zx p l e room_1 s m args below meth c g 8 500 100000 Q σ 148 [(4, .int 0), (3, .ref (b + 431)), (2, .ref (b + 405)), (1, .ref (b + 0)), (0, .ref bS)] [] := by
  have hK := fz_lay hF
  refine z_eqs (σ' := (ap b σ [] [] [])) rfl ?_
  refine z_aload_n B dL_law_148 rfl 3 rfl ?_
  refine z_aload_n B dL_law_149 rfl 4 rfl ?_
  refine z_iload B dL_law_150 0 rfl ?_
  refine z_iconst (v := 1) B dL_law_152 (by decide) ?_
  refine z_iadd B dL_law_153 ?_
  refine z_seti (y := 1) (by decide) ?_
  refine z_sld (j := 1) (x := 4) B hX hbl hbA (by decide) (show ¬ ((1 : Int32) < 0 ∨ 6 ≤ (1 : Int32).toNatClampNeg) by decide) h_x1 dL_law_154 ?_
  refine z_aload_n B dL_law_155 rfl 4 rfl ?_
  refine z_iload B dL_law_156 0 rfl ?_
  refine z_iconst (v := 2) B dL_law_158 (by decide) ?_
  refine z_iadd B dL_law_159 ?_
  refine z_seti (y := 2) (by decide) ?_
  refine z_sld (j := 2) (x := x2) B hX hbl hbA (by decide) (show ¬ ((2 : Int32) < 0 ∨ 6 ≤ (2 : Int32).toNatClampNeg) by decide) h_x2 dL_law_160 ?_
  refine z_aload_n B dL_law_161 rfl 4 rfl ?_
  refine z_iload B dL_law_162 0 rfl ?_
  refine z_iconst (v := 3) B dL_law_164 (by decide) ?_
  refine z_iadd B dL_law_165 ?_
  refine z_seti (y := 3) (by decide) ?_
  refine z_sld (j := 3) (x := x3) B hX hbl hbA (by decide) (show ¬ ((3 : Int32) < 0 ∨ 6 ≤ (3 : Int32).toNatClampNeg) by decide) h_x3 dL_law_166 ?_
  refine z_aload_n B dL_law_167 rfl 4 rfl ?_
  refine z_iload B dL_law_168 0 rfl ?_
  refine z_iconst (v := 4) B dL_law_170 (by decide) ?_
  refine z_iadd B dL_law_171 ?_
  refine z_seti (y := 4) (by decide) ?_
  refine z_sld (j := 4) (x := x4) B hX hbl hbA (by decide) (show ¬ ((4 : Int32) < 0 ∨ 6 ≤ (4 : Int32).toNatClampNeg) by decide) h_x4 dL_law_172 ?_
  refine z_aload_n B dL_law_173 rfl 4 rfl ?_
  refine z_iload B dL_law_174 0 rfl ?_
  refine z_iconst (v := 5) B dL_law_176 (by decide) ?_
  refine z_iadd B dL_law_177 ?_
  refine z_seti (y := 5) (by decide) ?_
  refine z_sld (j := 5) (x := x5) B hX hbl hbA (by decide) (show ¬ ((5 : Int32) < 0 ∨ 6 ≤ (5 : Int32).toNatClampNeg) by decide) h_x5 dL_law_178 ?_
  refine z_aload_n B dL_law_179 rfl 1 rfl ?_
  refine z_cSWi (As := [.ref (b + 0), .int 4, .int x2, .int x3, .int x4, .int x5, .ref (b + 431)]) (rest := []) B cw_L_74 dL_law_180 (ci_L_set_309 l hlt (σ := (ap b σ [] [] [])) (b := b) (lyA hK) x2 x3 x4 x5 q1_x2 q2_x2 (rR_at 0 0 (fz_R hF 0 0 rfl rfl)) (rR_at 1 4 (fz_R hF 1 4 rfl rfl))) rfl (by decide) rfl (Nat.le_of_ble_eq_true rfl) (by decide) (fun r u hu => ?_)
  obtain ⟨hu1, z, hu⟩ := hu
  refine z_eqs (σ' := (ap b (wx_Z σ z) [] [] [])) (hu.trans az_ap) ?_
  show zx p l e _ s m _ below meth c g 8 _ _ _ _ 183 [(4, .int 0), (3, .ref (b + 431)), (2, .ref (b + 405)), (1, .ref (b + 0)), (0, .ref bS)] _
  refine z_seti (y := 1) hu1 ?_
  refine z_istore (lv' := [(5, .int 1), (4, .int 0), (3, .ref (b + 431)), (2, .ref (b + 405)), (1, .ref (b + 0)), (0, .ref bS)]) B dL_law_183 (by decide) rfl ?_
  refine z_aload_n B dL_law_185 rfl 3 rfl ?_
  refine z_aload_n B dL_law_186 rfl 5 rfl ?_
  refine z_iload B dL_law_187 1 rfl ?_
  refine z_iconst (v := 1) B dL_law_189 (by decide) ?_
  refine z_iadd B dL_law_190 ?_
  refine z_seti (y := 1) (by decide) ?_
  refine z_sld (j := 1) (x := 4) B hX hbl hbA (by decide) (show ¬ ((1 : Int32) < 0 ∨ 6 ≤ (1 : Int32).toNatClampNeg) by decide) h_x1 dL_law_191 ?_
  refine z_aload_n B dL_law_192 rfl 5 rfl ?_
  refine z_iload B dL_law_193 1 rfl ?_
  refine z_iconst (v := 2) B dL_law_195 (by decide) ?_
  refine z_iadd B dL_law_196 ?_
  refine z_seti (y := 2) (by decide) ?_
  refine z_sld (j := 2) (x := x2) B hX hbl hbA (by decide) (show ¬ ((2 : Int32) < 0 ∨ 6 ≤ (2 : Int32).toNatClampNeg) by decide) h_x2 dL_law_197 ?_
  refine z_aload_n B dL_law_198 rfl 5 rfl ?_
  refine z_iload B dL_law_199 1 rfl ?_
  refine z_iconst (v := 3) B dL_law_201 (by decide) ?_
  refine z_iadd B dL_law_202 ?_
  refine z_seti (y := 3) (by decide) ?_
  refine z_sld (j := 3) (x := x3) B hX hbl hbA (by decide) (show ¬ ((3 : Int32) < 0 ∨ 6 ≤ (3 : Int32).toNatClampNeg) by decide) h_x3 dL_law_203 ?_
  refine z_aload_n B dL_law_204 rfl 5 rfl ?_
  refine z_iload B dL_law_205 1 rfl ?_
  refine z_iconst (v := 4) B dL_law_207 (by decide) ?_
  refine z_iadd B dL_law_208 ?_
  refine z_seti (y := 4) (by decide) ?_
  refine z_sld (j := 4) (x := x4) B hX hbl hbA (by decide) (show ¬ ((4 : Int32) < 0 ∨ 6 ≤ (4 : Int32).toNatClampNeg) by decide) h_x4 dL_law_209 ?_
  refine z_aload_n B dL_law_210 rfl 5 rfl ?_
  refine z_iload B dL_law_211 1 rfl ?_
  refine z_iconst (v := 5) B dL_law_213 (by decide) ?_
  refine z_iadd B dL_law_214 ?_
  refine z_seti (y := 5) (by decide) ?_
  refine z_sld (j := 5) (x := x5) B hX hbl hbA (by decide) (show ¬ ((5 : Int32) < 0 ∨ 6 ≤ (5 : Int32).toNatClampNeg) by decide) h_x5 dL_law_215 ?_
  refine z_cVi (As := [.int 4, .int x2, .int x3, .int x4, .int x5]) (rest := []) B cw_L_79 cx_10 dL_law_216 (ci_X9_set_315 l (σ := (ap b (wx_Z σ z) [] [] [])) (b := b) (lyA (lyZ hK)) x2 x3 x4 x5 q1_x2 q2_x2 q1_x3 q2_x3 q1_x4 q2_x4 q1_x5 q2_x5) (lKA (lKZ (hk_K hK 405 rfl rfl))) rfl (by decide) rfl (Nat.le_of_ble_eq_true rfl) (by decide) (fun r u hu => ?_)
  refine z_eqs (σ' := (ap b (wx_Z σ z) [(405, 0, 1)] [] [])) (hu.2.trans ap_ap) ?_
  show zx p l e _ s m _ below meth c g 8 _ _ _ _ 219 [(5, .int 1), (4, .int 0), (3, .ref (b + 431)), (2, .ref (b + 405)), (1, .ref (b + 0)), (0, .ref bS)] _
  refine z_seti (y := 0) hu.1 ?_
  refine z_istore (lv' := [(6, .int 0), (5, .int 1), (4, .int 0), (3, .ref (b + 431)), (2, .ref (b + 405)), (1, .ref (b + 0)), (0, .ref bS)]) B dL_law_219 (by decide) rfl ?_
  refine z_aload_n B dL_law_221 rfl 4 rfl ?_
  refine z_cVi (As := []) (rest := []) B cw_L_80 cx_10 dL_law_222 (ci_X9_thrown_31 l (σ := (ap b (wx_Z σ z) [(405, 0, 1)] [] [])) (b := b) (lyA (lyZ hK)) (rI_at 405 0 rfl)) (lKA (lKZ (hk_K hK 405 rfl rfl))) rfl (by decide) rfl (Nat.le_of_ble_eq_true rfl) (by decide) (fun r u hu => ?_)
  refine z_eqs (σ' := (ap b (wx_Z σ z) [(405, 0, 1)] [] [])) hu.2 ?_
  show zx p l e _ s m _ below meth c g 8 _ _ _ _ 225 [(6, .int 0), (5, .int 1), (4, .int 0), (3, .ref (b + 431)), (2, .ref (b + 405)), (1, .ref (b + 0)), (0, .ref bS)] _
  refine z_seti (y := 1) hu.1 ?_
  refine z_iload B dL_law_225 1 rfl ?_
  refine z_icmp_eq (tgt := 232) B dL_law_227 (by decide) (fun _ => ?_) (fun h => absurd (by decide) h)
  refine z_iload B dL_law_232 1 rfl ?_
  refine z_if_ne (tgt := 249) B dL_law_234 (by decide) (fun _ => ?_) (fun h => absurd h (by decide))
  refine z_goto (tgt := 1395) B dL_law_249 (by decide) ?_
  exact z_widen (Nat.le_of_ble_eq_true rfl) (Nat.le_of_ble_eq_true rfl) (z_sub _ [2, 6] rfl (kk _))
set_option maxRecDepth 100000 in
set_option maxHeartbeats 4000000 in
theorem lf_0_110 {p : Program} {l : Launch} {e : Env} {s : State} {m : MethodId} {args : Array Value} {below : List Frame} {meth : Method} {c : Code} {g : gx_T} {Q : State → Prop} {σ : sx_T} {b t bS : Nat} {xs : Nat → Int32} (hlt : l.stackTraces = false) (B : zx_B p s m args meth c code RL 8 g) (hX : va_X bS 6 xs s s.heap) (hbl : bS < s.heap.size) (hbA : ¬ gx_b g ≤ bS) (hF : fz_P b t σ) (h_x1 : xs 1 = 4) {x2 : Int32} (h_x2 : xs 2 = x2) (q1_x2 : (20 : Int) ≤ x2.toInt) (q2_x2 : x2.toInt ≤ (2147483647 : Int)) {x3 : Int32} (h_x3 : xs 3 = x3) (q1_x3 : (0 : Int) ≤ x3.toInt) (q2_x3 : x3.toInt ≤ (17 : Int)) {x4 : Int32} (h_x4 : xs 4 = x4) (q1_x4 : (100 : Int) ≤ x4.toInt) (q2_x4 : x4.toInt ≤ (2147483647 : Int)) {x5 : Int32} (h_x5 : xs 5 = x5) (q1_x5 : (-2147483648 : Int) ≤ x5.toInt) (q2_x5 : x5.toInt ≤ (2147483647 : Int)) (kk : ∀ σ', zx p l e room_1 s m args below meth c g 8 600002 7302232 Q σ' 1395 [(4, .int 0), (0, .ref bS)] []) : zx p l e room_1 s m args below meth c g 8 500 100000 Q σ 148 [(4, .int 0), (3, .ref (b + 431)), (2, .ref (b + 405)), (1, .ref (b + 0)), (0, .ref bS)] [] := by
  have hK := fz_lay hF
  refine z_eqs (σ' := (ap b σ [] [] [])) rfl ?_
  refine z_aload_n B dL_law_148 rfl 3 rfl ?_
  refine z_aload_n B dL_law_149 rfl 4 rfl ?_
  refine z_iload B dL_law_150 0 rfl ?_
  refine z_iconst (v := 1) B dL_law_152 (by decide) ?_
  refine z_iadd B dL_law_153 ?_
  refine z_seti (y := 1) (by decide) ?_
  refine z_sld (j := 1) (x := 4) B hX hbl hbA (by decide) (show ¬ ((1 : Int32) < 0 ∨ 6 ≤ (1 : Int32).toNatClampNeg) by decide) h_x1 dL_law_154 ?_
  refine z_aload_n B dL_law_155 rfl 4 rfl ?_
  refine z_iload B dL_law_156 0 rfl ?_
  refine z_iconst (v := 2) B dL_law_158 (by decide) ?_
  refine z_iadd B dL_law_159 ?_
  refine z_seti (y := 2) (by decide) ?_
  refine z_sld (j := 2) (x := x2) B hX hbl hbA (by decide) (show ¬ ((2 : Int32) < 0 ∨ 6 ≤ (2 : Int32).toNatClampNeg) by decide) h_x2 dL_law_160 ?_
  refine z_aload_n B dL_law_161 rfl 4 rfl ?_
  refine z_iload B dL_law_162 0 rfl ?_
  refine z_iconst (v := 3) B dL_law_164 (by decide) ?_
  refine z_iadd B dL_law_165 ?_
  refine z_seti (y := 3) (by decide) ?_
  refine z_sld (j := 3) (x := x3) B hX hbl hbA (by decide) (show ¬ ((3 : Int32) < 0 ∨ 6 ≤ (3 : Int32).toNatClampNeg) by decide) h_x3 dL_law_166 ?_
  refine z_aload_n B dL_law_167 rfl 4 rfl ?_
  refine z_iload B dL_law_168 0 rfl ?_
  refine z_iconst (v := 4) B dL_law_170 (by decide) ?_
  refine z_iadd B dL_law_171 ?_
  refine z_seti (y := 4) (by decide) ?_
  refine z_sld (j := 4) (x := x4) B hX hbl hbA (by decide) (show ¬ ((4 : Int32) < 0 ∨ 6 ≤ (4 : Int32).toNatClampNeg) by decide) h_x4 dL_law_172 ?_
  refine z_aload_n B dL_law_173 rfl 4 rfl ?_
  refine z_iload B dL_law_174 0 rfl ?_
  refine z_iconst (v := 5) B dL_law_176 (by decide) ?_
  refine z_iadd B dL_law_177 ?_
  refine z_seti (y := 5) (by decide) ?_
  refine z_sld (j := 5) (x := x5) B hX hbl hbA (by decide) (show ¬ ((5 : Int32) < 0 ∨ 6 ≤ (5 : Int32).toNatClampNeg) by decide) h_x5 dL_law_178 ?_
  refine z_aload_n B dL_law_179 rfl 1 rfl ?_
  refine z_cSWi (As := [.ref (b + 0), .int 4, .int x2, .int x3, .int x4, .int x5, .ref (b + 431)]) (rest := []) B cw_L_74 dL_law_180 (ci_L_set_309 l hlt (σ := (ap b σ [] [] [])) (b := b) (lyA hK) x2 x3 x4 x5 q1_x2 q2_x2 (rR_at 0 0 (fz_R hF 0 0 rfl rfl)) (rR_at 1 4 (fz_R hF 1 4 rfl rfl))) rfl (by decide) rfl (Nat.le_of_ble_eq_true rfl) (by decide) (fun r u hu => ?_)
  obtain ⟨hu1, z, hu⟩ := hu
  refine z_eqs (σ' := (ap b (wx_Z σ z) [] [] [])) (hu.trans az_ap) ?_
  show zx p l e _ s m _ below meth c g 8 _ _ _ _ 183 [(4, .int 0), (3, .ref (b + 431)), (2, .ref (b + 405)), (1, .ref (b + 0)), (0, .ref bS)] _
  refine z_seti (y := 1) hu1 ?_
  refine z_istore (lv' := [(5, .int 1), (4, .int 0), (3, .ref (b + 431)), (2, .ref (b + 405)), (1, .ref (b + 0)), (0, .ref bS)]) B dL_law_183 (by decide) rfl ?_
  refine z_aload_n B dL_law_185 rfl 3 rfl ?_
  refine z_aload_n B dL_law_186 rfl 5 rfl ?_
  refine z_iload B dL_law_187 1 rfl ?_
  refine z_iconst (v := 1) B dL_law_189 (by decide) ?_
  refine z_iadd B dL_law_190 ?_
  refine z_seti (y := 1) (by decide) ?_
  refine z_sld (j := 1) (x := 4) B hX hbl hbA (by decide) (show ¬ ((1 : Int32) < 0 ∨ 6 ≤ (1 : Int32).toNatClampNeg) by decide) h_x1 dL_law_191 ?_
  refine z_aload_n B dL_law_192 rfl 5 rfl ?_
  refine z_iload B dL_law_193 1 rfl ?_
  refine z_iconst (v := 2) B dL_law_195 (by decide) ?_
  refine z_iadd B dL_law_196 ?_
  refine z_seti (y := 2) (by decide) ?_
  refine z_sld (j := 2) (x := x2) B hX hbl hbA (by decide) (show ¬ ((2 : Int32) < 0 ∨ 6 ≤ (2 : Int32).toNatClampNeg) by decide) h_x2 dL_law_197 ?_
  refine z_aload_n B dL_law_198 rfl 5 rfl ?_
  refine z_iload B dL_law_199 1 rfl ?_
  refine z_iconst (v := 3) B dL_law_201 (by decide) ?_
  refine z_iadd B dL_law_202 ?_
  refine z_seti (y := 3) (by decide) ?_
  refine z_sld (j := 3) (x := x3) B hX hbl hbA (by decide) (show ¬ ((3 : Int32) < 0 ∨ 6 ≤ (3 : Int32).toNatClampNeg) by decide) h_x3 dL_law_203 ?_
  refine z_aload_n B dL_law_204 rfl 5 rfl ?_
  refine z_iload B dL_law_205 1 rfl ?_
  refine z_iconst (v := 4) B dL_law_207 (by decide) ?_
  refine z_iadd B dL_law_208 ?_
  refine z_seti (y := 4) (by decide) ?_
  refine z_sld (j := 4) (x := x4) B hX hbl hbA (by decide) (show ¬ ((4 : Int32) < 0 ∨ 6 ≤ (4 : Int32).toNatClampNeg) by decide) h_x4 dL_law_209 ?_
  refine z_aload_n B dL_law_210 rfl 5 rfl ?_
  refine z_iload B dL_law_211 1 rfl ?_
  refine z_iconst (v := 5) B dL_law_213 (by decide) ?_
  refine z_iadd B dL_law_214 ?_
  refine z_seti (y := 5) (by decide) ?_
  refine z_sld (j := 5) (x := x5) B hX hbl hbA (by decide) (show ¬ ((5 : Int32) < 0 ∨ 6 ≤ (5 : Int32).toNatClampNeg) by decide) h_x5 dL_law_215 ?_
  refine z_cVi (As := [.int 4, .int x2, .int x3, .int x4, .int x5]) (rest := []) B cw_L_79 cx_10 dL_law_216 (ci_X9_set_316 l (σ := (ap b (wx_Z σ z) [] [] [])) (b := b) (lyA (lyZ hK)) x2 x3 x4 x5 q1_x2 q2_x2 q1_x3 q2_x3 q1_x4 q2_x4) (lKA (lKZ (hk_K hK 405 rfl rfl))) rfl (by decide) rfl (Nat.le_of_ble_eq_true rfl) (by decide) (fun r u hu => ?_)
  refine z_eqs (σ' := (ap b (wx_Z σ z) [(405, 0, 1)] [] [])) (hu.2.trans ap_ap) ?_
  show zx p l e _ s m _ below meth c g 8 _ _ _ _ 219 [(5, .int 1), (4, .int 0), (3, .ref (b + 431)), (2, .ref (b + 405)), (1, .ref (b + 0)), (0, .ref bS)] _
  refine z_seti (y := 0) hu.1 ?_
  refine z_istore (lv' := [(6, .int 0), (5, .int 1), (4, .int 0), (3, .ref (b + 431)), (2, .ref (b + 405)), (1, .ref (b + 0)), (0, .ref bS)]) B dL_law_219 (by decide) rfl ?_
  refine z_aload_n B dL_law_221 rfl 4 rfl ?_
  refine z_cVi (As := []) (rest := []) B cw_L_80 cx_10 dL_law_222 (ci_X9_thrown_31 l (σ := (ap b (wx_Z σ z) [(405, 0, 1)] [] [])) (b := b) (lyA (lyZ hK)) (rI_at 405 0 rfl)) (lKA (lKZ (hk_K hK 405 rfl rfl))) rfl (by decide) rfl (Nat.le_of_ble_eq_true rfl) (by decide) (fun r u hu => ?_)
  refine z_eqs (σ' := (ap b (wx_Z σ z) [(405, 0, 1)] [] [])) hu.2 ?_
  show zx p l e _ s m _ below meth c g 8 _ _ _ _ 225 [(6, .int 0), (5, .int 1), (4, .int 0), (3, .ref (b + 431)), (2, .ref (b + 405)), (1, .ref (b + 0)), (0, .ref bS)] _
  refine z_seti (y := 1) hu.1 ?_
  refine z_iload B dL_law_225 1 rfl ?_
  refine z_icmp_eq (tgt := 232) B dL_law_227 (by decide) (fun _ => ?_) (fun h => absurd (by decide) h)
  refine z_iload B dL_law_232 1 rfl ?_
  refine z_if_ne (tgt := 249) B dL_law_234 (by decide) (fun _ => ?_) (fun h => absurd h (by decide))
  refine z_goto (tgt := 1395) B dL_law_249 (by decide) ?_
  exact z_widen (Nat.le_of_ble_eq_true rfl) (Nat.le_of_ble_eq_true rfl) (z_sub _ [2, 6] rfl (kk _))
set_option maxRecDepth 100000 in
set_option maxHeartbeats 4000000 in
theorem lf_0_111 {p : Program} {l : Launch} {e : Env} {s : State} {m : MethodId} {args : Array Value} {below : List Frame} {meth : Method} {c : Code} {g : gx_T} {Q : State → Prop} {σ : sx_T} {b t bS : Nat} {xs : Nat → Int32} (hlt : l.stackTraces = false) (B : zx_B p s m args meth c code RL 8 g) (hX : va_X bS 6 xs s s.heap) (hbl : bS < s.heap.size) (hbA : ¬ gx_b g ≤ bS) (hF : fz_P b t σ) (h_x1 : xs 1 = 4) {x2 : Int32} (h_x2 : xs 2 = x2) (q1_x2 : (20 : Int) ≤ x2.toInt) (q2_x2 : x2.toInt ≤ (2147483647 : Int)) {x3 : Int32} (h_x3 : xs 3 = x3) (q1_x3 : (18 : Int) ≤ x3.toInt) (q2_x3 : x3.toInt ≤ (2147483647 : Int)) {x4 : Int32} (h_x4 : xs 4 = x4) (q1_x4 : (-2147483648 : Int) ≤ x4.toInt) (q2_x4 : x4.toInt ≤ (2147483647 : Int)) {x5 : Int32} (h_x5 : xs 5 = x5) (q1_x5 : (-2147483648 : Int) ≤ x5.toInt) (q2_x5 : x5.toInt ≤ (2147483647 : Int)) (kk : ∀ σ', zx p l e room_1 s m args below meth c g 8 600002 7302232 Q σ' 1395 [(4, .int 0), (0, .ref bS)] []) : zx p l e room_1 s m args below meth c g 8 500 100000 Q σ 148 [(4, .int 0), (3, .ref (b + 431)), (2, .ref (b + 405)), (1, .ref (b + 0)), (0, .ref bS)] [] := by
  have hK := fz_lay hF
  refine z_eqs (σ' := (ap b σ [] [] [])) rfl ?_
  refine z_aload_n B dL_law_148 rfl 3 rfl ?_
  refine z_aload_n B dL_law_149 rfl 4 rfl ?_
  refine z_iload B dL_law_150 0 rfl ?_
  refine z_iconst (v := 1) B dL_law_152 (by decide) ?_
  refine z_iadd B dL_law_153 ?_
  refine z_seti (y := 1) (by decide) ?_
  refine z_sld (j := 1) (x := 4) B hX hbl hbA (by decide) (show ¬ ((1 : Int32) < 0 ∨ 6 ≤ (1 : Int32).toNatClampNeg) by decide) h_x1 dL_law_154 ?_
  refine z_aload_n B dL_law_155 rfl 4 rfl ?_
  refine z_iload B dL_law_156 0 rfl ?_
  refine z_iconst (v := 2) B dL_law_158 (by decide) ?_
  refine z_iadd B dL_law_159 ?_
  refine z_seti (y := 2) (by decide) ?_
  refine z_sld (j := 2) (x := x2) B hX hbl hbA (by decide) (show ¬ ((2 : Int32) < 0 ∨ 6 ≤ (2 : Int32).toNatClampNeg) by decide) h_x2 dL_law_160 ?_
  refine z_aload_n B dL_law_161 rfl 4 rfl ?_
  refine z_iload B dL_law_162 0 rfl ?_
  refine z_iconst (v := 3) B dL_law_164 (by decide) ?_
  refine z_iadd B dL_law_165 ?_
  refine z_seti (y := 3) (by decide) ?_
  refine z_sld (j := 3) (x := x3) B hX hbl hbA (by decide) (show ¬ ((3 : Int32) < 0 ∨ 6 ≤ (3 : Int32).toNatClampNeg) by decide) h_x3 dL_law_166 ?_
  refine z_aload_n B dL_law_167 rfl 4 rfl ?_
  refine z_iload B dL_law_168 0 rfl ?_
  refine z_iconst (v := 4) B dL_law_170 (by decide) ?_
  refine z_iadd B dL_law_171 ?_
  refine z_seti (y := 4) (by decide) ?_
  refine z_sld (j := 4) (x := x4) B hX hbl hbA (by decide) (show ¬ ((4 : Int32) < 0 ∨ 6 ≤ (4 : Int32).toNatClampNeg) by decide) h_x4 dL_law_172 ?_
  refine z_aload_n B dL_law_173 rfl 4 rfl ?_
  refine z_iload B dL_law_174 0 rfl ?_
  refine z_iconst (v := 5) B dL_law_176 (by decide) ?_
  refine z_iadd B dL_law_177 ?_
  refine z_seti (y := 5) (by decide) ?_
  refine z_sld (j := 5) (x := x5) B hX hbl hbA (by decide) (show ¬ ((5 : Int32) < 0 ∨ 6 ≤ (5 : Int32).toNatClampNeg) by decide) h_x5 dL_law_178 ?_
  refine z_aload_n B dL_law_179 rfl 1 rfl ?_
  refine z_cSWi (As := [.ref (b + 0), .int 4, .int x2, .int x3, .int x4, .int x5, .ref (b + 431)]) (rest := []) B cw_L_74 dL_law_180 (ci_L_set_309 l hlt (σ := (ap b σ [] [] [])) (b := b) (lyA hK) x2 x3 x4 x5 q1_x2 q2_x2 (rR_at 0 0 (fz_R hF 0 0 rfl rfl)) (rR_at 1 4 (fz_R hF 1 4 rfl rfl))) rfl (by decide) rfl (Nat.le_of_ble_eq_true rfl) (by decide) (fun r u hu => ?_)
  obtain ⟨hu1, z, hu⟩ := hu
  refine z_eqs (σ' := (ap b (wx_Z σ z) [] [] [])) (hu.trans az_ap) ?_
  show zx p l e _ s m _ below meth c g 8 _ _ _ _ 183 [(4, .int 0), (3, .ref (b + 431)), (2, .ref (b + 405)), (1, .ref (b + 0)), (0, .ref bS)] _
  refine z_seti (y := 1) hu1 ?_
  refine z_istore (lv' := [(5, .int 1), (4, .int 0), (3, .ref (b + 431)), (2, .ref (b + 405)), (1, .ref (b + 0)), (0, .ref bS)]) B dL_law_183 (by decide) rfl ?_
  refine z_aload_n B dL_law_185 rfl 3 rfl ?_
  refine z_aload_n B dL_law_186 rfl 5 rfl ?_
  refine z_iload B dL_law_187 1 rfl ?_
  refine z_iconst (v := 1) B dL_law_189 (by decide) ?_
  refine z_iadd B dL_law_190 ?_
  refine z_seti (y := 1) (by decide) ?_
  refine z_sld (j := 1) (x := 4) B hX hbl hbA (by decide) (show ¬ ((1 : Int32) < 0 ∨ 6 ≤ (1 : Int32).toNatClampNeg) by decide) h_x1 dL_law_191 ?_
  refine z_aload_n B dL_law_192 rfl 5 rfl ?_
  refine z_iload B dL_law_193 1 rfl ?_
  refine z_iconst (v := 2) B dL_law_195 (by decide) ?_
  refine z_iadd B dL_law_196 ?_
  refine z_seti (y := 2) (by decide) ?_
  refine z_sld (j := 2) (x := x2) B hX hbl hbA (by decide) (show ¬ ((2 : Int32) < 0 ∨ 6 ≤ (2 : Int32).toNatClampNeg) by decide) h_x2 dL_law_197 ?_
  refine z_aload_n B dL_law_198 rfl 5 rfl ?_
  refine z_iload B dL_law_199 1 rfl ?_
  refine z_iconst (v := 3) B dL_law_201 (by decide) ?_
  refine z_iadd B dL_law_202 ?_
  refine z_seti (y := 3) (by decide) ?_
  refine z_sld (j := 3) (x := x3) B hX hbl hbA (by decide) (show ¬ ((3 : Int32) < 0 ∨ 6 ≤ (3 : Int32).toNatClampNeg) by decide) h_x3 dL_law_203 ?_
  refine z_aload_n B dL_law_204 rfl 5 rfl ?_
  refine z_iload B dL_law_205 1 rfl ?_
  refine z_iconst (v := 4) B dL_law_207 (by decide) ?_
  refine z_iadd B dL_law_208 ?_
  refine z_seti (y := 4) (by decide) ?_
  refine z_sld (j := 4) (x := x4) B hX hbl hbA (by decide) (show ¬ ((4 : Int32) < 0 ∨ 6 ≤ (4 : Int32).toNatClampNeg) by decide) h_x4 dL_law_209 ?_
  refine z_aload_n B dL_law_210 rfl 5 rfl ?_
  refine z_iload B dL_law_211 1 rfl ?_
  refine z_iconst (v := 5) B dL_law_213 (by decide) ?_
  refine z_iadd B dL_law_214 ?_
  refine z_seti (y := 5) (by decide) ?_
  refine z_sld (j := 5) (x := x5) B hX hbl hbA (by decide) (show ¬ ((5 : Int32) < 0 ∨ 6 ≤ (5 : Int32).toNatClampNeg) by decide) h_x5 dL_law_215 ?_
  refine z_cVi (As := [.int 4, .int x2, .int x3, .int x4, .int x5]) (rest := []) B cw_L_79 cx_10 dL_law_216 (ci_X9_set_317 l (σ := (ap b (wx_Z σ z) [] [] [])) (b := b) (lyA (lyZ hK)) x2 x3 x4 x5 q1_x2 q2_x2 q1_x3 q2_x3) (lKA (lKZ (hk_K hK 405 rfl rfl))) rfl (by decide) rfl (Nat.le_of_ble_eq_true rfl) (by decide) (fun r u hu => ?_)
  refine z_eqs (σ' := (ap b (wx_Z σ z) [(405, 0, 1)] [] [])) (hu.2.trans ap_ap) ?_
  show zx p l e _ s m _ below meth c g 8 _ _ _ _ 219 [(5, .int 1), (4, .int 0), (3, .ref (b + 431)), (2, .ref (b + 405)), (1, .ref (b + 0)), (0, .ref bS)] _
  refine z_seti (y := 0) hu.1 ?_
  refine z_istore (lv' := [(6, .int 0), (5, .int 1), (4, .int 0), (3, .ref (b + 431)), (2, .ref (b + 405)), (1, .ref (b + 0)), (0, .ref bS)]) B dL_law_219 (by decide) rfl ?_
  refine z_aload_n B dL_law_221 rfl 4 rfl ?_
  refine z_cVi (As := []) (rest := []) B cw_L_80 cx_10 dL_law_222 (ci_X9_thrown_31 l (σ := (ap b (wx_Z σ z) [(405, 0, 1)] [] [])) (b := b) (lyA (lyZ hK)) (rI_at 405 0 rfl)) (lKA (lKZ (hk_K hK 405 rfl rfl))) rfl (by decide) rfl (Nat.le_of_ble_eq_true rfl) (by decide) (fun r u hu => ?_)
  refine z_eqs (σ' := (ap b (wx_Z σ z) [(405, 0, 1)] [] [])) hu.2 ?_
  show zx p l e _ s m _ below meth c g 8 _ _ _ _ 225 [(6, .int 0), (5, .int 1), (4, .int 0), (3, .ref (b + 431)), (2, .ref (b + 405)), (1, .ref (b + 0)), (0, .ref bS)] _
  refine z_seti (y := 1) hu.1 ?_
  refine z_iload B dL_law_225 1 rfl ?_
  refine z_icmp_eq (tgt := 232) B dL_law_227 (by decide) (fun _ => ?_) (fun h => absurd (by decide) h)
  refine z_iload B dL_law_232 1 rfl ?_
  refine z_if_ne (tgt := 249) B dL_law_234 (by decide) (fun _ => ?_) (fun h => absurd h (by decide))
  refine z_goto (tgt := 1395) B dL_law_249 (by decide) ?_
  exact z_widen (Nat.le_of_ble_eq_true rfl) (Nat.le_of_ble_eq_true rfl) (z_sub _ [2, 6] rfl (kk _))
set_option maxRecDepth 100000 in
set_option maxHeartbeats 4000000 in
theorem lf_0_112 {p : Program} {l : Launch} {e : Env} {s : State} {m : MethodId} {args : Array Value} {below : List Frame} {meth : Method} {c : Code} {g : gx_T} {Q : State → Prop} {σ : sx_T} {b t bS : Nat} {xs : Nat → Int32} (hlt : l.stackTraces = false) (B : zx_B p s m args meth c code RL 8 g) (hX : va_X bS 6 xs s s.heap) (hbl : bS < s.heap.size) (hbA : ¬ gx_b g ≤ bS) (hF : fz_P b t σ) (h_x1 : xs 1 = 5) {x2 : Int32} (h_x2 : xs 2 = x2) (q1_x2 : (-2147483648 : Int) ≤ x2.toInt) (q2_x2 : x2.toInt ≤ (-1 : Int)) {x3 : Int32} (h_x3 : xs 3 = x3) (q1_x3 : (-2147483648 : Int) ≤ x3.toInt) (q2_x3 : x3.toInt ≤ (-1 : Int)) {x4 : Int32} (h_x4 : xs 4 = x4) (q1_x4 : (-2147483648 : Int) ≤ x4.toInt) (q2_x4 : x4.toInt ≤ (2147483647 : Int)) {x5 : Int32} (h_x5 : xs 5 = x5) (q1_x5 : (-2147483648 : Int) ≤ x5.toInt) (q2_x5 : x5.toInt ≤ (2147483647 : Int)) (kk : ∀ σ', zx p l e room_1 s m args below meth c g 8 600002 7302232 Q σ' 1395 [(4, .int 0), (0, .ref bS)] []) : zx p l e room_1 s m args below meth c g 8 500 100000 Q σ 148 [(4, .int 0), (3, .ref (b + 431)), (2, .ref (b + 405)), (1, .ref (b + 0)), (0, .ref bS)] [] := by
  have hK := fz_lay hF
  refine z_eqs (σ' := (ap b σ [] [] [])) rfl ?_
  refine z_aload_n B dL_law_148 rfl 3 rfl ?_
  refine z_aload_n B dL_law_149 rfl 4 rfl ?_
  refine z_iload B dL_law_150 0 rfl ?_
  refine z_iconst (v := 1) B dL_law_152 (by decide) ?_
  refine z_iadd B dL_law_153 ?_
  refine z_seti (y := 1) (by decide) ?_
  refine z_sld (j := 1) (x := 5) B hX hbl hbA (by decide) (show ¬ ((1 : Int32) < 0 ∨ 6 ≤ (1 : Int32).toNatClampNeg) by decide) h_x1 dL_law_154 ?_
  refine z_aload_n B dL_law_155 rfl 4 rfl ?_
  refine z_iload B dL_law_156 0 rfl ?_
  refine z_iconst (v := 2) B dL_law_158 (by decide) ?_
  refine z_iadd B dL_law_159 ?_
  refine z_seti (y := 2) (by decide) ?_
  refine z_sld (j := 2) (x := x2) B hX hbl hbA (by decide) (show ¬ ((2 : Int32) < 0 ∨ 6 ≤ (2 : Int32).toNatClampNeg) by decide) h_x2 dL_law_160 ?_
  refine z_aload_n B dL_law_161 rfl 4 rfl ?_
  refine z_iload B dL_law_162 0 rfl ?_
  refine z_iconst (v := 3) B dL_law_164 (by decide) ?_
  refine z_iadd B dL_law_165 ?_
  refine z_seti (y := 3) (by decide) ?_
  refine z_sld (j := 3) (x := x3) B hX hbl hbA (by decide) (show ¬ ((3 : Int32) < 0 ∨ 6 ≤ (3 : Int32).toNatClampNeg) by decide) h_x3 dL_law_166 ?_
  refine z_aload_n B dL_law_167 rfl 4 rfl ?_
  refine z_iload B dL_law_168 0 rfl ?_
  refine z_iconst (v := 4) B dL_law_170 (by decide) ?_
  refine z_iadd B dL_law_171 ?_
  refine z_seti (y := 4) (by decide) ?_
  refine z_sld (j := 4) (x := x4) B hX hbl hbA (by decide) (show ¬ ((4 : Int32) < 0 ∨ 6 ≤ (4 : Int32).toNatClampNeg) by decide) h_x4 dL_law_172 ?_
  refine z_aload_n B dL_law_173 rfl 4 rfl ?_
  refine z_iload B dL_law_174 0 rfl ?_
  refine z_iconst (v := 5) B dL_law_176 (by decide) ?_
  refine z_iadd B dL_law_177 ?_
  refine z_seti (y := 5) (by decide) ?_
  refine z_sld (j := 5) (x := x5) B hX hbl hbA (by decide) (show ¬ ((5 : Int32) < 0 ∨ 6 ≤ (5 : Int32).toNatClampNeg) by decide) h_x5 dL_law_178 ?_
  refine z_aload_n B dL_law_179 rfl 1 rfl ?_
  refine z_cSWi (As := [.ref (b + 0), .int 5, .int x2, .int x3, .int x4, .int x5, .ref (b + 431)]) (rest := []) B cw_L_74 dL_law_180 (ci_L_set_320 l hlt (σ := (ap b σ [] [] [])) (b := b) (lyA hK) x2 x3 x4 x5 q1_x2 q2_x2 (rR_at 0 0 (fz_R hF 0 0 rfl rfl)) (rR_at 1 5 (fz_R hF 1 5 rfl rfl))) rfl (by decide) rfl (Nat.le_of_ble_eq_true rfl) (by decide) (fun r u hu => ?_)
  obtain ⟨hu1, z, hu⟩ := hu
  refine z_eqs (σ' := (ap b (wx_Z σ z) [] [] [])) (hu.trans az_ap) ?_
  show zx p l e _ s m _ below meth c g 8 _ _ _ _ 183 [(4, .int 0), (3, .ref (b + 431)), (2, .ref (b + 405)), (1, .ref (b + 0)), (0, .ref bS)] _
  refine z_seti (y := 1) hu1 ?_
  refine z_istore (lv' := [(5, .int 1), (4, .int 0), (3, .ref (b + 431)), (2, .ref (b + 405)), (1, .ref (b + 0)), (0, .ref bS)]) B dL_law_183 (by decide) rfl ?_
  refine z_aload_n B dL_law_185 rfl 3 rfl ?_
  refine z_aload_n B dL_law_186 rfl 5 rfl ?_
  refine z_iload B dL_law_187 1 rfl ?_
  refine z_iconst (v := 1) B dL_law_189 (by decide) ?_
  refine z_iadd B dL_law_190 ?_
  refine z_seti (y := 1) (by decide) ?_
  refine z_sld (j := 1) (x := 5) B hX hbl hbA (by decide) (show ¬ ((1 : Int32) < 0 ∨ 6 ≤ (1 : Int32).toNatClampNeg) by decide) h_x1 dL_law_191 ?_
  refine z_aload_n B dL_law_192 rfl 5 rfl ?_
  refine z_iload B dL_law_193 1 rfl ?_
  refine z_iconst (v := 2) B dL_law_195 (by decide) ?_
  refine z_iadd B dL_law_196 ?_
  refine z_seti (y := 2) (by decide) ?_
  refine z_sld (j := 2) (x := x2) B hX hbl hbA (by decide) (show ¬ ((2 : Int32) < 0 ∨ 6 ≤ (2 : Int32).toNatClampNeg) by decide) h_x2 dL_law_197 ?_
  refine z_aload_n B dL_law_198 rfl 5 rfl ?_
  refine z_iload B dL_law_199 1 rfl ?_
  refine z_iconst (v := 3) B dL_law_201 (by decide) ?_
  refine z_iadd B dL_law_202 ?_
  refine z_seti (y := 3) (by decide) ?_
  refine z_sld (j := 3) (x := x3) B hX hbl hbA (by decide) (show ¬ ((3 : Int32) < 0 ∨ 6 ≤ (3 : Int32).toNatClampNeg) by decide) h_x3 dL_law_203 ?_
  refine z_aload_n B dL_law_204 rfl 5 rfl ?_
  refine z_iload B dL_law_205 1 rfl ?_
  refine z_iconst (v := 4) B dL_law_207 (by decide) ?_
  refine z_iadd B dL_law_208 ?_
  refine z_seti (y := 4) (by decide) ?_
  refine z_sld (j := 4) (x := x4) B hX hbl hbA (by decide) (show ¬ ((4 : Int32) < 0 ∨ 6 ≤ (4 : Int32).toNatClampNeg) by decide) h_x4 dL_law_209 ?_
  refine z_aload_n B dL_law_210 rfl 5 rfl ?_
  refine z_iload B dL_law_211 1 rfl ?_
  refine z_iconst (v := 5) B dL_law_213 (by decide) ?_
  refine z_iadd B dL_law_214 ?_
  refine z_seti (y := 5) (by decide) ?_
  refine z_sld (j := 5) (x := x5) B hX hbl hbA (by decide) (show ¬ ((5 : Int32) < 0 ∨ 6 ≤ (5 : Int32).toNatClampNeg) by decide) h_x5 dL_law_215 ?_
  refine z_cVi (As := [.int 5, .int x2, .int x3, .int x4, .int x5]) (rest := []) B cw_L_79 cx_10 dL_law_216 (ci_X9_set_323 l (σ := (ap b (wx_Z σ z) [] [] [])) (b := b) (lyA (lyZ hK)) x2 x3 x4 x5 q1_x2 q2_x2 q1_x3 q2_x3) (lKA (lKZ (hk_K hK 405 rfl rfl))) rfl (by decide) rfl (Nat.le_of_ble_eq_true rfl) (by decide) (fun r u hu => ?_)
  refine z_eqs (σ' := (ap b (wx_Z σ z) [(405, 0, 1)] [] [])) (hu.2.trans ap_ap) ?_
  show zx p l e _ s m _ below meth c g 8 _ _ _ _ 219 [(5, .int 1), (4, .int 0), (3, .ref (b + 431)), (2, .ref (b + 405)), (1, .ref (b + 0)), (0, .ref bS)] _
  refine z_seti (y := 0) hu.1 ?_
  refine z_istore (lv' := [(6, .int 0), (5, .int 1), (4, .int 0), (3, .ref (b + 431)), (2, .ref (b + 405)), (1, .ref (b + 0)), (0, .ref bS)]) B dL_law_219 (by decide) rfl ?_
  refine z_aload_n B dL_law_221 rfl 4 rfl ?_
  refine z_cVi (As := []) (rest := []) B cw_L_80 cx_10 dL_law_222 (ci_X9_thrown_31 l (σ := (ap b (wx_Z σ z) [(405, 0, 1)] [] [])) (b := b) (lyA (lyZ hK)) (rI_at 405 0 rfl)) (lKA (lKZ (hk_K hK 405 rfl rfl))) rfl (by decide) rfl (Nat.le_of_ble_eq_true rfl) (by decide) (fun r u hu => ?_)
  refine z_eqs (σ' := (ap b (wx_Z σ z) [(405, 0, 1)] [] [])) hu.2 ?_
  show zx p l e _ s m _ below meth c g 8 _ _ _ _ 225 [(6, .int 0), (5, .int 1), (4, .int 0), (3, .ref (b + 431)), (2, .ref (b + 405)), (1, .ref (b + 0)), (0, .ref bS)] _
  refine z_seti (y := 1) hu.1 ?_
  refine z_iload B dL_law_225 1 rfl ?_
  refine z_icmp_eq (tgt := 232) B dL_law_227 (by decide) (fun _ => ?_) (fun h => absurd (by decide) h)
  refine z_iload B dL_law_232 1 rfl ?_
  refine z_if_ne (tgt := 249) B dL_law_234 (by decide) (fun _ => ?_) (fun h => absurd h (by decide))
  refine z_goto (tgt := 1395) B dL_law_249 (by decide) ?_
  exact z_widen (Nat.le_of_ble_eq_true rfl) (Nat.le_of_ble_eq_true rfl) (z_sub _ [2, 6] rfl (kk _))
set_option maxRecDepth 100000 in
set_option maxHeartbeats 4000000 in
theorem lf_0_113 {p : Program} {l : Launch} {e : Env} {s : State} {m : MethodId} {args : Array Value} {below : List Frame} {meth : Method} {c : Code} {g : gx_T} {Q : State → Prop} {σ : sx_T} {b t bS : Nat} {xs : Nat → Int32} (hlt : l.stackTraces = false) (B : zx_B p s m args meth c code RL 8 g) (hX : va_X bS 6 xs s s.heap) (hbl : bS < s.heap.size) (hbA : ¬ gx_b g ≤ bS) (hF : fz_P b t σ) (h_x1 : xs 1 = 5) {x2 : Int32} (h_x2 : xs 2 = x2) (q1_x2 : (-2147483648 : Int) ≤ x2.toInt) (q2_x2 : x2.toInt ≤ (-1 : Int)) {x3 : Int32} (h_x3 : xs 3 = x3) (q1_x3 : (0 : Int) ≤ x3.toInt) (q2_x3 : x3.toInt ≤ (17 : Int)) {x4 : Int32} (h_x4 : xs 4 = x4) (q1_x4 : (-2147483648 : Int) ≤ x4.toInt) (q2_x4 : x4.toInt ≤ (-1 : Int)) {x5 : Int32} (h_x5 : xs 5 = x5) (q1_x5 : (-2147483648 : Int) ≤ x5.toInt) (q2_x5 : x5.toInt ≤ (2147483647 : Int)) (kk : ∀ σ', zx p l e room_1 s m args below meth c g 8 600002 7302232 Q σ' 1395 [(4, .int 0), (0, .ref bS)] []) : zx p l e room_1 s m args below meth c g 8 500 100000 Q σ 148 [(4, .int 0), (3, .ref (b + 431)), (2, .ref (b + 405)), (1, .ref (b + 0)), (0, .ref bS)] [] := by
  have hK := fz_lay hF
  refine z_eqs (σ' := (ap b σ [] [] [])) rfl ?_
  refine z_aload_n B dL_law_148 rfl 3 rfl ?_
  refine z_aload_n B dL_law_149 rfl 4 rfl ?_
  refine z_iload B dL_law_150 0 rfl ?_
  refine z_iconst (v := 1) B dL_law_152 (by decide) ?_
  refine z_iadd B dL_law_153 ?_
  refine z_seti (y := 1) (by decide) ?_
  refine z_sld (j := 1) (x := 5) B hX hbl hbA (by decide) (show ¬ ((1 : Int32) < 0 ∨ 6 ≤ (1 : Int32).toNatClampNeg) by decide) h_x1 dL_law_154 ?_
  refine z_aload_n B dL_law_155 rfl 4 rfl ?_
  refine z_iload B dL_law_156 0 rfl ?_
  refine z_iconst (v := 2) B dL_law_158 (by decide) ?_
  refine z_iadd B dL_law_159 ?_
  refine z_seti (y := 2) (by decide) ?_
  refine z_sld (j := 2) (x := x2) B hX hbl hbA (by decide) (show ¬ ((2 : Int32) < 0 ∨ 6 ≤ (2 : Int32).toNatClampNeg) by decide) h_x2 dL_law_160 ?_
  refine z_aload_n B dL_law_161 rfl 4 rfl ?_
  refine z_iload B dL_law_162 0 rfl ?_
  refine z_iconst (v := 3) B dL_law_164 (by decide) ?_
  refine z_iadd B dL_law_165 ?_
  refine z_seti (y := 3) (by decide) ?_
  refine z_sld (j := 3) (x := x3) B hX hbl hbA (by decide) (show ¬ ((3 : Int32) < 0 ∨ 6 ≤ (3 : Int32).toNatClampNeg) by decide) h_x3 dL_law_166 ?_
  refine z_aload_n B dL_law_167 rfl 4 rfl ?_
  refine z_iload B dL_law_168 0 rfl ?_
  refine z_iconst (v := 4) B dL_law_170 (by decide) ?_
  refine z_iadd B dL_law_171 ?_
  refine z_seti (y := 4) (by decide) ?_
  refine z_sld (j := 4) (x := x4) B hX hbl hbA (by decide) (show ¬ ((4 : Int32) < 0 ∨ 6 ≤ (4 : Int32).toNatClampNeg) by decide) h_x4 dL_law_172 ?_
  refine z_aload_n B dL_law_173 rfl 4 rfl ?_
  refine z_iload B dL_law_174 0 rfl ?_
  refine z_iconst (v := 5) B dL_law_176 (by decide) ?_
  refine z_iadd B dL_law_177 ?_
  refine z_seti (y := 5) (by decide) ?_
  refine z_sld (j := 5) (x := x5) B hX hbl hbA (by decide) (show ¬ ((5 : Int32) < 0 ∨ 6 ≤ (5 : Int32).toNatClampNeg) by decide) h_x5 dL_law_178 ?_
  refine z_aload_n B dL_law_179 rfl 1 rfl ?_
  refine z_cSWi (As := [.ref (b + 0), .int 5, .int x2, .int x3, .int x4, .int x5, .ref (b + 431)]) (rest := []) B cw_L_74 dL_law_180 (ci_L_set_320 l hlt (σ := (ap b σ [] [] [])) (b := b) (lyA hK) x2 x3 x4 x5 q1_x2 q2_x2 (rR_at 0 0 (fz_R hF 0 0 rfl rfl)) (rR_at 1 5 (fz_R hF 1 5 rfl rfl))) rfl (by decide) rfl (Nat.le_of_ble_eq_true rfl) (by decide) (fun r u hu => ?_)
  obtain ⟨hu1, z, hu⟩ := hu
  refine z_eqs (σ' := (ap b (wx_Z σ z) [] [] [])) (hu.trans az_ap) ?_
  show zx p l e _ s m _ below meth c g 8 _ _ _ _ 183 [(4, .int 0), (3, .ref (b + 431)), (2, .ref (b + 405)), (1, .ref (b + 0)), (0, .ref bS)] _
  refine z_seti (y := 1) hu1 ?_
  refine z_istore (lv' := [(5, .int 1), (4, .int 0), (3, .ref (b + 431)), (2, .ref (b + 405)), (1, .ref (b + 0)), (0, .ref bS)]) B dL_law_183 (by decide) rfl ?_
  refine z_aload_n B dL_law_185 rfl 3 rfl ?_
  refine z_aload_n B dL_law_186 rfl 5 rfl ?_
  refine z_iload B dL_law_187 1 rfl ?_
  refine z_iconst (v := 1) B dL_law_189 (by decide) ?_
  refine z_iadd B dL_law_190 ?_
  refine z_seti (y := 1) (by decide) ?_
  refine z_sld (j := 1) (x := 5) B hX hbl hbA (by decide) (show ¬ ((1 : Int32) < 0 ∨ 6 ≤ (1 : Int32).toNatClampNeg) by decide) h_x1 dL_law_191 ?_
  refine z_aload_n B dL_law_192 rfl 5 rfl ?_
  refine z_iload B dL_law_193 1 rfl ?_
  refine z_iconst (v := 2) B dL_law_195 (by decide) ?_
  refine z_iadd B dL_law_196 ?_
  refine z_seti (y := 2) (by decide) ?_
  refine z_sld (j := 2) (x := x2) B hX hbl hbA (by decide) (show ¬ ((2 : Int32) < 0 ∨ 6 ≤ (2 : Int32).toNatClampNeg) by decide) h_x2 dL_law_197 ?_
  refine z_aload_n B dL_law_198 rfl 5 rfl ?_
  refine z_iload B dL_law_199 1 rfl ?_
  refine z_iconst (v := 3) B dL_law_201 (by decide) ?_
  refine z_iadd B dL_law_202 ?_
  refine z_seti (y := 3) (by decide) ?_
  refine z_sld (j := 3) (x := x3) B hX hbl hbA (by decide) (show ¬ ((3 : Int32) < 0 ∨ 6 ≤ (3 : Int32).toNatClampNeg) by decide) h_x3 dL_law_203 ?_
  refine z_aload_n B dL_law_204 rfl 5 rfl ?_
  refine z_iload B dL_law_205 1 rfl ?_
  refine z_iconst (v := 4) B dL_law_207 (by decide) ?_
  refine z_iadd B dL_law_208 ?_
  refine z_seti (y := 4) (by decide) ?_
  refine z_sld (j := 4) (x := x4) B hX hbl hbA (by decide) (show ¬ ((4 : Int32) < 0 ∨ 6 ≤ (4 : Int32).toNatClampNeg) by decide) h_x4 dL_law_209 ?_
  refine z_aload_n B dL_law_210 rfl 5 rfl ?_
  refine z_iload B dL_law_211 1 rfl ?_
  refine z_iconst (v := 5) B dL_law_213 (by decide) ?_
  refine z_iadd B dL_law_214 ?_
  refine z_seti (y := 5) (by decide) ?_
  refine z_sld (j := 5) (x := x5) B hX hbl hbA (by decide) (show ¬ ((5 : Int32) < 0 ∨ 6 ≤ (5 : Int32).toNatClampNeg) by decide) h_x5 dL_law_215 ?_
  refine z_cVi (As := [.int 5, .int x2, .int x3, .int x4, .int x5]) (rest := []) B cw_L_79 cx_10 dL_law_216 (ci_X9_set_324 l (σ := (ap b (wx_Z σ z) [] [] [])) (b := b) (lyA (lyZ hK)) x2 x3 x4 x5 q1_x2 q2_x2 q1_x3 q2_x3 q1_x4 q2_x4) (lKA (lKZ (hk_K hK 405 rfl rfl))) rfl (by decide) rfl (Nat.le_of_ble_eq_true rfl) (by decide) (fun r u hu => ?_)
  refine z_eqs (σ' := (ap b (wx_Z σ z) [(405, 0, 1)] [] [])) (hu.2.trans ap_ap) ?_
  show zx p l e _ s m _ below meth c g 8 _ _ _ _ 219 [(5, .int 1), (4, .int 0), (3, .ref (b + 431)), (2, .ref (b + 405)), (1, .ref (b + 0)), (0, .ref bS)] _
  refine z_seti (y := 0) hu.1 ?_
  refine z_istore (lv' := [(6, .int 0), (5, .int 1), (4, .int 0), (3, .ref (b + 431)), (2, .ref (b + 405)), (1, .ref (b + 0)), (0, .ref bS)]) B dL_law_219 (by decide) rfl ?_
  refine z_aload_n B dL_law_221 rfl 4 rfl ?_
  refine z_cVi (As := []) (rest := []) B cw_L_80 cx_10 dL_law_222 (ci_X9_thrown_31 l (σ := (ap b (wx_Z σ z) [(405, 0, 1)] [] [])) (b := b) (lyA (lyZ hK)) (rI_at 405 0 rfl)) (lKA (lKZ (hk_K hK 405 rfl rfl))) rfl (by decide) rfl (Nat.le_of_ble_eq_true rfl) (by decide) (fun r u hu => ?_)
  refine z_eqs (σ' := (ap b (wx_Z σ z) [(405, 0, 1)] [] [])) hu.2 ?_
  show zx p l e _ s m _ below meth c g 8 _ _ _ _ 225 [(6, .int 0), (5, .int 1), (4, .int 0), (3, .ref (b + 431)), (2, .ref (b + 405)), (1, .ref (b + 0)), (0, .ref bS)] _
  refine z_seti (y := 1) hu.1 ?_
  refine z_iload B dL_law_225 1 rfl ?_
  refine z_icmp_eq (tgt := 232) B dL_law_227 (by decide) (fun _ => ?_) (fun h => absurd (by decide) h)
  refine z_iload B dL_law_232 1 rfl ?_
  refine z_if_ne (tgt := 249) B dL_law_234 (by decide) (fun _ => ?_) (fun h => absurd h (by decide))
  refine z_goto (tgt := 1395) B dL_law_249 (by decide) ?_
  exact z_widen (Nat.le_of_ble_eq_true rfl) (Nat.le_of_ble_eq_true rfl) (z_sub _ [2, 6] rfl (kk _))
set_option maxRecDepth 100000 in
set_option maxHeartbeats 4000000 in
theorem lf_0_114 {p : Program} {l : Launch} {e : Env} {s : State} {m : MethodId} {args : Array Value} {below : List Frame} {meth : Method} {c : Code} {g : gx_T} {Q : State → Prop} {σ : sx_T} {b t bS : Nat} {xs : Nat → Int32} (hlt : l.stackTraces = false) (B : zx_B p s m args meth c code RL 8 g) (hX : va_X bS 6 xs s s.heap) (hbl : bS < s.heap.size) (hbA : ¬ gx_b g ≤ bS) (hF : fz_P b t σ) (h_x1 : xs 1 = 5) {x2 : Int32} (h_x2 : xs 2 = x2) (q1_x2 : (-2147483648 : Int) ≤ x2.toInt) (q2_x2 : x2.toInt ≤ (-1 : Int)) {x3 : Int32} (h_x3 : xs 3 = x3) (q1_x3 : (0 : Int) ≤ x3.toInt) (q2_x3 : x3.toInt ≤ (17 : Int)) {x4 : Int32} (h_x4 : xs 4 = x4) (q1_x4 : (0 : Int) ≤ x4.toInt) (q2_x4 : x4.toInt ≤ (99 : Int)) {x5 : Int32} (h_x5 : xs 5 = x5) (q1_x5 : (-2147483648 : Int) ≤ x5.toInt) (q2_x5 : x5.toInt ≤ (-1 : Int)) (kk : ∀ σ', zx p l e room_1 s m args below meth c g 8 600002 7302232 Q σ' 1395 [(4, .int 0), (0, .ref bS)] []) : zx p l e room_1 s m args below meth c g 8 500 100000 Q σ 148 [(4, .int 0), (3, .ref (b + 431)), (2, .ref (b + 405)), (1, .ref (b + 0)), (0, .ref bS)] [] := by
  have hK := fz_lay hF
  refine z_eqs (σ' := (ap b σ [] [] [])) rfl ?_
  refine z_aload_n B dL_law_148 rfl 3 rfl ?_
  refine z_aload_n B dL_law_149 rfl 4 rfl ?_
  refine z_iload B dL_law_150 0 rfl ?_
  refine z_iconst (v := 1) B dL_law_152 (by decide) ?_
  refine z_iadd B dL_law_153 ?_
  refine z_seti (y := 1) (by decide) ?_
  refine z_sld (j := 1) (x := 5) B hX hbl hbA (by decide) (show ¬ ((1 : Int32) < 0 ∨ 6 ≤ (1 : Int32).toNatClampNeg) by decide) h_x1 dL_law_154 ?_
  refine z_aload_n B dL_law_155 rfl 4 rfl ?_
  refine z_iload B dL_law_156 0 rfl ?_
  refine z_iconst (v := 2) B dL_law_158 (by decide) ?_
  refine z_iadd B dL_law_159 ?_
  refine z_seti (y := 2) (by decide) ?_
  refine z_sld (j := 2) (x := x2) B hX hbl hbA (by decide) (show ¬ ((2 : Int32) < 0 ∨ 6 ≤ (2 : Int32).toNatClampNeg) by decide) h_x2 dL_law_160 ?_
  refine z_aload_n B dL_law_161 rfl 4 rfl ?_
  refine z_iload B dL_law_162 0 rfl ?_
  refine z_iconst (v := 3) B dL_law_164 (by decide) ?_
  refine z_iadd B dL_law_165 ?_
  refine z_seti (y := 3) (by decide) ?_
  refine z_sld (j := 3) (x := x3) B hX hbl hbA (by decide) (show ¬ ((3 : Int32) < 0 ∨ 6 ≤ (3 : Int32).toNatClampNeg) by decide) h_x3 dL_law_166 ?_
  refine z_aload_n B dL_law_167 rfl 4 rfl ?_
  refine z_iload B dL_law_168 0 rfl ?_
  refine z_iconst (v := 4) B dL_law_170 (by decide) ?_
  refine z_iadd B dL_law_171 ?_
  refine z_seti (y := 4) (by decide) ?_
  refine z_sld (j := 4) (x := x4) B hX hbl hbA (by decide) (show ¬ ((4 : Int32) < 0 ∨ 6 ≤ (4 : Int32).toNatClampNeg) by decide) h_x4 dL_law_172 ?_
  refine z_aload_n B dL_law_173 rfl 4 rfl ?_
  refine z_iload B dL_law_174 0 rfl ?_
  refine z_iconst (v := 5) B dL_law_176 (by decide) ?_
  refine z_iadd B dL_law_177 ?_
  refine z_seti (y := 5) (by decide) ?_
  refine z_sld (j := 5) (x := x5) B hX hbl hbA (by decide) (show ¬ ((5 : Int32) < 0 ∨ 6 ≤ (5 : Int32).toNatClampNeg) by decide) h_x5 dL_law_178 ?_
  refine z_aload_n B dL_law_179 rfl 1 rfl ?_
  refine z_cSWi (As := [.ref (b + 0), .int 5, .int x2, .int x3, .int x4, .int x5, .ref (b + 431)]) (rest := []) B cw_L_74 dL_law_180 (ci_L_set_320 l hlt (σ := (ap b σ [] [] [])) (b := b) (lyA hK) x2 x3 x4 x5 q1_x2 q2_x2 (rR_at 0 0 (fz_R hF 0 0 rfl rfl)) (rR_at 1 5 (fz_R hF 1 5 rfl rfl))) rfl (by decide) rfl (Nat.le_of_ble_eq_true rfl) (by decide) (fun r u hu => ?_)
  obtain ⟨hu1, z, hu⟩ := hu
  refine z_eqs (σ' := (ap b (wx_Z σ z) [] [] [])) (hu.trans az_ap) ?_
  show zx p l e _ s m _ below meth c g 8 _ _ _ _ 183 [(4, .int 0), (3, .ref (b + 431)), (2, .ref (b + 405)), (1, .ref (b + 0)), (0, .ref bS)] _
  refine z_seti (y := 1) hu1 ?_
  refine z_istore (lv' := [(5, .int 1), (4, .int 0), (3, .ref (b + 431)), (2, .ref (b + 405)), (1, .ref (b + 0)), (0, .ref bS)]) B dL_law_183 (by decide) rfl ?_
  refine z_aload_n B dL_law_185 rfl 3 rfl ?_
  refine z_aload_n B dL_law_186 rfl 5 rfl ?_
  refine z_iload B dL_law_187 1 rfl ?_
  refine z_iconst (v := 1) B dL_law_189 (by decide) ?_
  refine z_iadd B dL_law_190 ?_
  refine z_seti (y := 1) (by decide) ?_
  refine z_sld (j := 1) (x := 5) B hX hbl hbA (by decide) (show ¬ ((1 : Int32) < 0 ∨ 6 ≤ (1 : Int32).toNatClampNeg) by decide) h_x1 dL_law_191 ?_
  refine z_aload_n B dL_law_192 rfl 5 rfl ?_
  refine z_iload B dL_law_193 1 rfl ?_
  refine z_iconst (v := 2) B dL_law_195 (by decide) ?_
  refine z_iadd B dL_law_196 ?_
  refine z_seti (y := 2) (by decide) ?_
  refine z_sld (j := 2) (x := x2) B hX hbl hbA (by decide) (show ¬ ((2 : Int32) < 0 ∨ 6 ≤ (2 : Int32).toNatClampNeg) by decide) h_x2 dL_law_197 ?_
  refine z_aload_n B dL_law_198 rfl 5 rfl ?_
  refine z_iload B dL_law_199 1 rfl ?_
  refine z_iconst (v := 3) B dL_law_201 (by decide) ?_
  refine z_iadd B dL_law_202 ?_
  refine z_seti (y := 3) (by decide) ?_
  refine z_sld (j := 3) (x := x3) B hX hbl hbA (by decide) (show ¬ ((3 : Int32) < 0 ∨ 6 ≤ (3 : Int32).toNatClampNeg) by decide) h_x3 dL_law_203 ?_
  refine z_aload_n B dL_law_204 rfl 5 rfl ?_
  refine z_iload B dL_law_205 1 rfl ?_
  refine z_iconst (v := 4) B dL_law_207 (by decide) ?_
  refine z_iadd B dL_law_208 ?_
  refine z_seti (y := 4) (by decide) ?_
  refine z_sld (j := 4) (x := x4) B hX hbl hbA (by decide) (show ¬ ((4 : Int32) < 0 ∨ 6 ≤ (4 : Int32).toNatClampNeg) by decide) h_x4 dL_law_209 ?_
  refine z_aload_n B dL_law_210 rfl 5 rfl ?_
  refine z_iload B dL_law_211 1 rfl ?_
  refine z_iconst (v := 5) B dL_law_213 (by decide) ?_
  refine z_iadd B dL_law_214 ?_
  refine z_seti (y := 5) (by decide) ?_
  refine z_sld (j := 5) (x := x5) B hX hbl hbA (by decide) (show ¬ ((5 : Int32) < 0 ∨ 6 ≤ (5 : Int32).toNatClampNeg) by decide) h_x5 dL_law_215 ?_
  refine z_cVi (As := [.int 5, .int x2, .int x3, .int x4, .int x5]) (rest := []) B cw_L_79 cx_10 dL_law_216 (ci_X9_set_325 l (σ := (ap b (wx_Z σ z) [] [] [])) (b := b) (lyA (lyZ hK)) x2 x3 x4 x5 q1_x2 q2_x2 q1_x3 q2_x3 q1_x4 q2_x4 q1_x5 q2_x5) (lKA (lKZ (hk_K hK 405 rfl rfl))) rfl (by decide) rfl (Nat.le_of_ble_eq_true rfl) (by decide) (fun r u hu => ?_)
  refine z_eqs (σ' := (ap b (wx_Z σ z) [(405, 0, 1)] [] [])) (hu.2.trans ap_ap) ?_
  show zx p l e _ s m _ below meth c g 8 _ _ _ _ 219 [(5, .int 1), (4, .int 0), (3, .ref (b + 431)), (2, .ref (b + 405)), (1, .ref (b + 0)), (0, .ref bS)] _
  refine z_seti (y := 0) hu.1 ?_
  refine z_istore (lv' := [(6, .int 0), (5, .int 1), (4, .int 0), (3, .ref (b + 431)), (2, .ref (b + 405)), (1, .ref (b + 0)), (0, .ref bS)]) B dL_law_219 (by decide) rfl ?_
  refine z_aload_n B dL_law_221 rfl 4 rfl ?_
  refine z_cVi (As := []) (rest := []) B cw_L_80 cx_10 dL_law_222 (ci_X9_thrown_31 l (σ := (ap b (wx_Z σ z) [(405, 0, 1)] [] [])) (b := b) (lyA (lyZ hK)) (rI_at 405 0 rfl)) (lKA (lKZ (hk_K hK 405 rfl rfl))) rfl (by decide) rfl (Nat.le_of_ble_eq_true rfl) (by decide) (fun r u hu => ?_)
  refine z_eqs (σ' := (ap b (wx_Z σ z) [(405, 0, 1)] [] [])) hu.2 ?_
  show zx p l e _ s m _ below meth c g 8 _ _ _ _ 225 [(6, .int 0), (5, .int 1), (4, .int 0), (3, .ref (b + 431)), (2, .ref (b + 405)), (1, .ref (b + 0)), (0, .ref bS)] _
  refine z_seti (y := 1) hu.1 ?_
  refine z_iload B dL_law_225 1 rfl ?_
  refine z_icmp_eq (tgt := 232) B dL_law_227 (by decide) (fun _ => ?_) (fun h => absurd (by decide) h)
  refine z_iload B dL_law_232 1 rfl ?_
  refine z_if_ne (tgt := 249) B dL_law_234 (by decide) (fun _ => ?_) (fun h => absurd h (by decide))
  refine z_goto (tgt := 1395) B dL_law_249 (by decide) ?_
  exact z_widen (Nat.le_of_ble_eq_true rfl) (Nat.le_of_ble_eq_true rfl) (z_sub _ [2, 6] rfl (kk _))
set_option maxRecDepth 100000 in
set_option maxHeartbeats 4000000 in
theorem lf_0_115 {p : Program} {l : Launch} {e : Env} {s : State} {m : MethodId} {args : Array Value} {below : List Frame} {meth : Method} {c : Code} {g : gx_T} {Q : State → Prop} {σ : sx_T} {b t bS : Nat} {xs : Nat → Int32} (hlt : l.stackTraces = false) (B : zx_B p s m args meth c code RL 8 g) (hX : va_X bS 6 xs s s.heap) (hbl : bS < s.heap.size) (hbA : ¬ gx_b g ≤ bS) (hF : fz_P b t σ) (h_x1 : xs 1 = 5) {x2 : Int32} (h_x2 : xs 2 = x2) (q1_x2 : (-2147483648 : Int) ≤ x2.toInt) (q2_x2 : x2.toInt ≤ (-1 : Int)) {x3 : Int32} (h_x3 : xs 3 = x3) (q1_x3 : (0 : Int) ≤ x3.toInt) (q2_x3 : x3.toInt ≤ (17 : Int)) {x4 : Int32} (h_x4 : xs 4 = x4) (q1_x4 : (0 : Int) ≤ x4.toInt) (q2_x4 : x4.toInt ≤ (99 : Int)) {x5 : Int32} (h_x5 : xs 5 = x5) (q1_x5 : (0 : Int) ≤ x5.toInt) (q2_x5 : x5.toInt ≤ (99 : Int)) (kk : ∀ σ', zx p l e room_1 s m args below meth c g 8 600002 7302232 Q σ' 1395 [(4, .int 0), (0, .ref bS)] []) : zx p l e room_1 s m args below meth c g 8 500 100000 Q σ 148 [(4, .int 0), (3, .ref (b + 431)), (2, .ref (b + 405)), (1, .ref (b + 0)), (0, .ref bS)] [] := by
  have hK := fz_lay hF
  refine z_eqs (σ' := (ap b σ [] [] [])) rfl ?_
  refine z_aload_n B dL_law_148 rfl 3 rfl ?_
  refine z_aload_n B dL_law_149 rfl 4 rfl ?_
  refine z_iload B dL_law_150 0 rfl ?_
  refine z_iconst (v := 1) B dL_law_152 (by decide) ?_
  refine z_iadd B dL_law_153 ?_
  refine z_seti (y := 1) (by decide) ?_
  refine z_sld (j := 1) (x := 5) B hX hbl hbA (by decide) (show ¬ ((1 : Int32) < 0 ∨ 6 ≤ (1 : Int32).toNatClampNeg) by decide) h_x1 dL_law_154 ?_
  refine z_aload_n B dL_law_155 rfl 4 rfl ?_
  refine z_iload B dL_law_156 0 rfl ?_
  refine z_iconst (v := 2) B dL_law_158 (by decide) ?_
  refine z_iadd B dL_law_159 ?_
  refine z_seti (y := 2) (by decide) ?_
  refine z_sld (j := 2) (x := x2) B hX hbl hbA (by decide) (show ¬ ((2 : Int32) < 0 ∨ 6 ≤ (2 : Int32).toNatClampNeg) by decide) h_x2 dL_law_160 ?_
  refine z_aload_n B dL_law_161 rfl 4 rfl ?_
  refine z_iload B dL_law_162 0 rfl ?_
  refine z_iconst (v := 3) B dL_law_164 (by decide) ?_
  refine z_iadd B dL_law_165 ?_
  refine z_seti (y := 3) (by decide) ?_
  refine z_sld (j := 3) (x := x3) B hX hbl hbA (by decide) (show ¬ ((3 : Int32) < 0 ∨ 6 ≤ (3 : Int32).toNatClampNeg) by decide) h_x3 dL_law_166 ?_
  refine z_aload_n B dL_law_167 rfl 4 rfl ?_
  refine z_iload B dL_law_168 0 rfl ?_
  refine z_iconst (v := 4) B dL_law_170 (by decide) ?_
  refine z_iadd B dL_law_171 ?_
  refine z_seti (y := 4) (by decide) ?_
  refine z_sld (j := 4) (x := x4) B hX hbl hbA (by decide) (show ¬ ((4 : Int32) < 0 ∨ 6 ≤ (4 : Int32).toNatClampNeg) by decide) h_x4 dL_law_172 ?_
  refine z_aload_n B dL_law_173 rfl 4 rfl ?_
  refine z_iload B dL_law_174 0 rfl ?_
  refine z_iconst (v := 5) B dL_law_176 (by decide) ?_
  refine z_iadd B dL_law_177 ?_
  refine z_seti (y := 5) (by decide) ?_
  refine z_sld (j := 5) (x := x5) B hX hbl hbA (by decide) (show ¬ ((5 : Int32) < 0 ∨ 6 ≤ (5 : Int32).toNatClampNeg) by decide) h_x5 dL_law_178 ?_
  refine z_aload_n B dL_law_179 rfl 1 rfl ?_
  refine z_cSWi (As := [.ref (b + 0), .int 5, .int x2, .int x3, .int x4, .int x5, .ref (b + 431)]) (rest := []) B cw_L_74 dL_law_180 (ci_L_set_320 l hlt (σ := (ap b σ [] [] [])) (b := b) (lyA hK) x2 x3 x4 x5 q1_x2 q2_x2 (rR_at 0 0 (fz_R hF 0 0 rfl rfl)) (rR_at 1 5 (fz_R hF 1 5 rfl rfl))) rfl (by decide) rfl (Nat.le_of_ble_eq_true rfl) (by decide) (fun r u hu => ?_)
  obtain ⟨hu1, z, hu⟩ := hu
  refine z_eqs (σ' := (ap b (wx_Z σ z) [] [] [])) (hu.trans az_ap) ?_
  show zx p l e _ s m _ below meth c g 8 _ _ _ _ 183 [(4, .int 0), (3, .ref (b + 431)), (2, .ref (b + 405)), (1, .ref (b + 0)), (0, .ref bS)] _
  refine z_seti (y := 1) hu1 ?_
  refine z_istore (lv' := [(5, .int 1), (4, .int 0), (3, .ref (b + 431)), (2, .ref (b + 405)), (1, .ref (b + 0)), (0, .ref bS)]) B dL_law_183 (by decide) rfl ?_
  refine z_aload_n B dL_law_185 rfl 3 rfl ?_
  refine z_aload_n B dL_law_186 rfl 5 rfl ?_
  refine z_iload B dL_law_187 1 rfl ?_
  refine z_iconst (v := 1) B dL_law_189 (by decide) ?_
  refine z_iadd B dL_law_190 ?_
  refine z_seti (y := 1) (by decide) ?_
  refine z_sld (j := 1) (x := 5) B hX hbl hbA (by decide) (show ¬ ((1 : Int32) < 0 ∨ 6 ≤ (1 : Int32).toNatClampNeg) by decide) h_x1 dL_law_191 ?_
  refine z_aload_n B dL_law_192 rfl 5 rfl ?_
  refine z_iload B dL_law_193 1 rfl ?_
  refine z_iconst (v := 2) B dL_law_195 (by decide) ?_
  refine z_iadd B dL_law_196 ?_
  refine z_seti (y := 2) (by decide) ?_
  refine z_sld (j := 2) (x := x2) B hX hbl hbA (by decide) (show ¬ ((2 : Int32) < 0 ∨ 6 ≤ (2 : Int32).toNatClampNeg) by decide) h_x2 dL_law_197 ?_
  refine z_aload_n B dL_law_198 rfl 5 rfl ?_
  refine z_iload B dL_law_199 1 rfl ?_
  refine z_iconst (v := 3) B dL_law_201 (by decide) ?_
  refine z_iadd B dL_law_202 ?_
  refine z_seti (y := 3) (by decide) ?_
  refine z_sld (j := 3) (x := x3) B hX hbl hbA (by decide) (show ¬ ((3 : Int32) < 0 ∨ 6 ≤ (3 : Int32).toNatClampNeg) by decide) h_x3 dL_law_203 ?_
  refine z_aload_n B dL_law_204 rfl 5 rfl ?_
  refine z_iload B dL_law_205 1 rfl ?_
  refine z_iconst (v := 4) B dL_law_207 (by decide) ?_
  refine z_iadd B dL_law_208 ?_
  refine z_seti (y := 4) (by decide) ?_
  refine z_sld (j := 4) (x := x4) B hX hbl hbA (by decide) (show ¬ ((4 : Int32) < 0 ∨ 6 ≤ (4 : Int32).toNatClampNeg) by decide) h_x4 dL_law_209 ?_
  refine z_aload_n B dL_law_210 rfl 5 rfl ?_
  refine z_iload B dL_law_211 1 rfl ?_
  refine z_iconst (v := 5) B dL_law_213 (by decide) ?_
  refine z_iadd B dL_law_214 ?_
  refine z_seti (y := 5) (by decide) ?_
  refine z_sld (j := 5) (x := x5) B hX hbl hbA (by decide) (show ¬ ((5 : Int32) < 0 ∨ 6 ≤ (5 : Int32).toNatClampNeg) by decide) h_x5 dL_law_215 ?_
  refine z_cVi (As := [.int 5, .int x2, .int x3, .int x4, .int x5]) (rest := []) B cw_L_79 cx_10 dL_law_216 (ci_X9_set_326 l (σ := (ap b (wx_Z σ z) [] [] [])) (b := b) (lyA (lyZ hK)) x2 x3 x4 x5 q1_x2 q2_x2 q1_x3 q2_x3 q1_x4 q2_x4 q1_x5 q2_x5) (lKA (lKZ (hk_K hK 405 rfl rfl))) rfl (by decide) rfl (Nat.le_of_ble_eq_true rfl) (by decide) (fun r u hu => ?_)
  refine z_eqs (σ' := (ap b (wx_Z σ z) [(405, 0, 1)] [] [])) (hu.2.trans ap_ap) ?_
  show zx p l e _ s m _ below meth c g 8 _ _ _ _ 219 [(5, .int 1), (4, .int 0), (3, .ref (b + 431)), (2, .ref (b + 405)), (1, .ref (b + 0)), (0, .ref bS)] _
  refine z_seti (y := 0) hu.1 ?_
  refine z_istore (lv' := [(6, .int 0), (5, .int 1), (4, .int 0), (3, .ref (b + 431)), (2, .ref (b + 405)), (1, .ref (b + 0)), (0, .ref bS)]) B dL_law_219 (by decide) rfl ?_
  refine z_aload_n B dL_law_221 rfl 4 rfl ?_
  refine z_cVi (As := []) (rest := []) B cw_L_80 cx_10 dL_law_222 (ci_X9_thrown_31 l (σ := (ap b (wx_Z σ z) [(405, 0, 1)] [] [])) (b := b) (lyA (lyZ hK)) (rI_at 405 0 rfl)) (lKA (lKZ (hk_K hK 405 rfl rfl))) rfl (by decide) rfl (Nat.le_of_ble_eq_true rfl) (by decide) (fun r u hu => ?_)
  refine z_eqs (σ' := (ap b (wx_Z σ z) [(405, 0, 1)] [] [])) hu.2 ?_
  show zx p l e _ s m _ below meth c g 8 _ _ _ _ 225 [(6, .int 0), (5, .int 1), (4, .int 0), (3, .ref (b + 431)), (2, .ref (b + 405)), (1, .ref (b + 0)), (0, .ref bS)] _
  refine z_seti (y := 1) hu.1 ?_
  refine z_iload B dL_law_225 1 rfl ?_
  refine z_icmp_eq (tgt := 232) B dL_law_227 (by decide) (fun _ => ?_) (fun h => absurd (by decide) h)
  refine z_iload B dL_law_232 1 rfl ?_
  refine z_if_ne (tgt := 249) B dL_law_234 (by decide) (fun _ => ?_) (fun h => absurd h (by decide))
  refine z_goto (tgt := 1395) B dL_law_249 (by decide) ?_
  exact z_widen (Nat.le_of_ble_eq_true rfl) (Nat.le_of_ble_eq_true rfl) (z_sub _ [2, 6] rfl (kk _))
set_option maxRecDepth 100000 in
set_option maxHeartbeats 4000000 in
theorem lf_0_116 {p : Program} {l : Launch} {e : Env} {s : State} {m : MethodId} {args : Array Value} {below : List Frame} {meth : Method} {c : Code} {g : gx_T} {Q : State → Prop} {σ : sx_T} {b t bS : Nat} {xs : Nat → Int32} (hlt : l.stackTraces = false) (B : zx_B p s m args meth c code RL 8 g) (hX : va_X bS 6 xs s s.heap) (hbl : bS < s.heap.size) (hbA : ¬ gx_b g ≤ bS) (hF : fz_P b t σ) (h_x1 : xs 1 = 5) {x2 : Int32} (h_x2 : xs 2 = x2) (q1_x2 : (-2147483648 : Int) ≤ x2.toInt) (q2_x2 : x2.toInt ≤ (-1 : Int)) {x3 : Int32} (h_x3 : xs 3 = x3) (q1_x3 : (0 : Int) ≤ x3.toInt) (q2_x3 : x3.toInt ≤ (17 : Int)) {x4 : Int32} (h_x4 : xs 4 = x4) (q1_x4 : (0 : Int) ≤ x4.toInt) (q2_x4 : x4.toInt ≤ (99 : Int)) {x5 : Int32} (h_x5 : xs 5 = x5) (q1_x5 : (100 : Int) ≤ x5.toInt) (q2_x5 : x5.toInt ≤ (2147483647 : Int)) (kk : ∀ σ', zx p l e room_1 s m args below meth c g 8 600002 7302232 Q σ' 1395 [(4, .int 0), (0, .ref bS)] []) : zx p l e room_1 s m args below meth c g 8 500 100000 Q σ 148 [(4, .int 0), (3, .ref (b + 431)), (2, .ref (b + 405)), (1, .ref (b + 0)), (0, .ref bS)] [] := by
  have hK := fz_lay hF
  refine z_eqs (σ' := (ap b σ [] [] [])) rfl ?_
  refine z_aload_n B dL_law_148 rfl 3 rfl ?_
  refine z_aload_n B dL_law_149 rfl 4 rfl ?_
  refine z_iload B dL_law_150 0 rfl ?_
  refine z_iconst (v := 1) B dL_law_152 (by decide) ?_
  refine z_iadd B dL_law_153 ?_
  refine z_seti (y := 1) (by decide) ?_
  refine z_sld (j := 1) (x := 5) B hX hbl hbA (by decide) (show ¬ ((1 : Int32) < 0 ∨ 6 ≤ (1 : Int32).toNatClampNeg) by decide) h_x1 dL_law_154 ?_
  refine z_aload_n B dL_law_155 rfl 4 rfl ?_
  refine z_iload B dL_law_156 0 rfl ?_
  refine z_iconst (v := 2) B dL_law_158 (by decide) ?_
  refine z_iadd B dL_law_159 ?_
  refine z_seti (y := 2) (by decide) ?_
  refine z_sld (j := 2) (x := x2) B hX hbl hbA (by decide) (show ¬ ((2 : Int32) < 0 ∨ 6 ≤ (2 : Int32).toNatClampNeg) by decide) h_x2 dL_law_160 ?_
  refine z_aload_n B dL_law_161 rfl 4 rfl ?_
  refine z_iload B dL_law_162 0 rfl ?_
  refine z_iconst (v := 3) B dL_law_164 (by decide) ?_
  refine z_iadd B dL_law_165 ?_
  refine z_seti (y := 3) (by decide) ?_
  refine z_sld (j := 3) (x := x3) B hX hbl hbA (by decide) (show ¬ ((3 : Int32) < 0 ∨ 6 ≤ (3 : Int32).toNatClampNeg) by decide) h_x3 dL_law_166 ?_
  refine z_aload_n B dL_law_167 rfl 4 rfl ?_
  refine z_iload B dL_law_168 0 rfl ?_
  refine z_iconst (v := 4) B dL_law_170 (by decide) ?_
  refine z_iadd B dL_law_171 ?_
  refine z_seti (y := 4) (by decide) ?_
  refine z_sld (j := 4) (x := x4) B hX hbl hbA (by decide) (show ¬ ((4 : Int32) < 0 ∨ 6 ≤ (4 : Int32).toNatClampNeg) by decide) h_x4 dL_law_172 ?_
  refine z_aload_n B dL_law_173 rfl 4 rfl ?_
  refine z_iload B dL_law_174 0 rfl ?_
  refine z_iconst (v := 5) B dL_law_176 (by decide) ?_
  refine z_iadd B dL_law_177 ?_
  refine z_seti (y := 5) (by decide) ?_
  refine z_sld (j := 5) (x := x5) B hX hbl hbA (by decide) (show ¬ ((5 : Int32) < 0 ∨ 6 ≤ (5 : Int32).toNatClampNeg) by decide) h_x5 dL_law_178 ?_
  refine z_aload_n B dL_law_179 rfl 1 rfl ?_
  refine z_cSWi (As := [.ref (b + 0), .int 5, .int x2, .int x3, .int x4, .int x5, .ref (b + 431)]) (rest := []) B cw_L_74 dL_law_180 (ci_L_set_320 l hlt (σ := (ap b σ [] [] [])) (b := b) (lyA hK) x2 x3 x4 x5 q1_x2 q2_x2 (rR_at 0 0 (fz_R hF 0 0 rfl rfl)) (rR_at 1 5 (fz_R hF 1 5 rfl rfl))) rfl (by decide) rfl (Nat.le_of_ble_eq_true rfl) (by decide) (fun r u hu => ?_)
  obtain ⟨hu1, z, hu⟩ := hu
  refine z_eqs (σ' := (ap b (wx_Z σ z) [] [] [])) (hu.trans az_ap) ?_
  show zx p l e _ s m _ below meth c g 8 _ _ _ _ 183 [(4, .int 0), (3, .ref (b + 431)), (2, .ref (b + 405)), (1, .ref (b + 0)), (0, .ref bS)] _
  refine z_seti (y := 1) hu1 ?_
  refine z_istore (lv' := [(5, .int 1), (4, .int 0), (3, .ref (b + 431)), (2, .ref (b + 405)), (1, .ref (b + 0)), (0, .ref bS)]) B dL_law_183 (by decide) rfl ?_
  refine z_aload_n B dL_law_185 rfl 3 rfl ?_
  refine z_aload_n B dL_law_186 rfl 5 rfl ?_
  refine z_iload B dL_law_187 1 rfl ?_
  refine z_iconst (v := 1) B dL_law_189 (by decide) ?_
  refine z_iadd B dL_law_190 ?_
  refine z_seti (y := 1) (by decide) ?_
  refine z_sld (j := 1) (x := 5) B hX hbl hbA (by decide) (show ¬ ((1 : Int32) < 0 ∨ 6 ≤ (1 : Int32).toNatClampNeg) by decide) h_x1 dL_law_191 ?_
  refine z_aload_n B dL_law_192 rfl 5 rfl ?_
  refine z_iload B dL_law_193 1 rfl ?_
  refine z_iconst (v := 2) B dL_law_195 (by decide) ?_
  refine z_iadd B dL_law_196 ?_
  refine z_seti (y := 2) (by decide) ?_
  refine z_sld (j := 2) (x := x2) B hX hbl hbA (by decide) (show ¬ ((2 : Int32) < 0 ∨ 6 ≤ (2 : Int32).toNatClampNeg) by decide) h_x2 dL_law_197 ?_
  refine z_aload_n B dL_law_198 rfl 5 rfl ?_
  refine z_iload B dL_law_199 1 rfl ?_
  refine z_iconst (v := 3) B dL_law_201 (by decide) ?_
  refine z_iadd B dL_law_202 ?_
  refine z_seti (y := 3) (by decide) ?_
  refine z_sld (j := 3) (x := x3) B hX hbl hbA (by decide) (show ¬ ((3 : Int32) < 0 ∨ 6 ≤ (3 : Int32).toNatClampNeg) by decide) h_x3 dL_law_203 ?_
  refine z_aload_n B dL_law_204 rfl 5 rfl ?_
  refine z_iload B dL_law_205 1 rfl ?_
  refine z_iconst (v := 4) B dL_law_207 (by decide) ?_
  refine z_iadd B dL_law_208 ?_
  refine z_seti (y := 4) (by decide) ?_
  refine z_sld (j := 4) (x := x4) B hX hbl hbA (by decide) (show ¬ ((4 : Int32) < 0 ∨ 6 ≤ (4 : Int32).toNatClampNeg) by decide) h_x4 dL_law_209 ?_
  refine z_aload_n B dL_law_210 rfl 5 rfl ?_
  refine z_iload B dL_law_211 1 rfl ?_
  refine z_iconst (v := 5) B dL_law_213 (by decide) ?_
  refine z_iadd B dL_law_214 ?_
  refine z_seti (y := 5) (by decide) ?_
  refine z_sld (j := 5) (x := x5) B hX hbl hbA (by decide) (show ¬ ((5 : Int32) < 0 ∨ 6 ≤ (5 : Int32).toNatClampNeg) by decide) h_x5 dL_law_215 ?_
  refine z_cVi (As := [.int 5, .int x2, .int x3, .int x4, .int x5]) (rest := []) B cw_L_79 cx_10 dL_law_216 (ci_X9_set_327 l (σ := (ap b (wx_Z σ z) [] [] [])) (b := b) (lyA (lyZ hK)) x2 x3 x4 x5 q1_x2 q2_x2 q1_x3 q2_x3 q1_x4 q2_x4 q1_x5 q2_x5) (lKA (lKZ (hk_K hK 405 rfl rfl))) rfl (by decide) rfl (Nat.le_of_ble_eq_true rfl) (by decide) (fun r u hu => ?_)
  refine z_eqs (σ' := (ap b (wx_Z σ z) [(405, 0, 1)] [] [])) (hu.2.trans ap_ap) ?_
  show zx p l e _ s m _ below meth c g 8 _ _ _ _ 219 [(5, .int 1), (4, .int 0), (3, .ref (b + 431)), (2, .ref (b + 405)), (1, .ref (b + 0)), (0, .ref bS)] _
  refine z_seti (y := 0) hu.1 ?_
  refine z_istore (lv' := [(6, .int 0), (5, .int 1), (4, .int 0), (3, .ref (b + 431)), (2, .ref (b + 405)), (1, .ref (b + 0)), (0, .ref bS)]) B dL_law_219 (by decide) rfl ?_
  refine z_aload_n B dL_law_221 rfl 4 rfl ?_
  refine z_cVi (As := []) (rest := []) B cw_L_80 cx_10 dL_law_222 (ci_X9_thrown_31 l (σ := (ap b (wx_Z σ z) [(405, 0, 1)] [] [])) (b := b) (lyA (lyZ hK)) (rI_at 405 0 rfl)) (lKA (lKZ (hk_K hK 405 rfl rfl))) rfl (by decide) rfl (Nat.le_of_ble_eq_true rfl) (by decide) (fun r u hu => ?_)
  refine z_eqs (σ' := (ap b (wx_Z σ z) [(405, 0, 1)] [] [])) hu.2 ?_
  show zx p l e _ s m _ below meth c g 8 _ _ _ _ 225 [(6, .int 0), (5, .int 1), (4, .int 0), (3, .ref (b + 431)), (2, .ref (b + 405)), (1, .ref (b + 0)), (0, .ref bS)] _
  refine z_seti (y := 1) hu.1 ?_
  refine z_iload B dL_law_225 1 rfl ?_
  refine z_icmp_eq (tgt := 232) B dL_law_227 (by decide) (fun _ => ?_) (fun h => absurd (by decide) h)
  refine z_iload B dL_law_232 1 rfl ?_
  refine z_if_ne (tgt := 249) B dL_law_234 (by decide) (fun _ => ?_) (fun h => absurd h (by decide))
  refine z_goto (tgt := 1395) B dL_law_249 (by decide) ?_
  exact z_widen (Nat.le_of_ble_eq_true rfl) (Nat.le_of_ble_eq_true rfl) (z_sub _ [2, 6] rfl (kk _))
set_option maxRecDepth 100000 in
set_option maxHeartbeats 4000000 in
theorem lf_0_117 {p : Program} {l : Launch} {e : Env} {s : State} {m : MethodId} {args : Array Value} {below : List Frame} {meth : Method} {c : Code} {g : gx_T} {Q : State → Prop} {σ : sx_T} {b t bS : Nat} {xs : Nat → Int32} (hlt : l.stackTraces = false) (B : zx_B p s m args meth c code RL 8 g) (hX : va_X bS 6 xs s s.heap) (hbl : bS < s.heap.size) (hbA : ¬ gx_b g ≤ bS) (hF : fz_P b t σ) (h_x1 : xs 1 = 5) {x2 : Int32} (h_x2 : xs 2 = x2) (q1_x2 : (-2147483648 : Int) ≤ x2.toInt) (q2_x2 : x2.toInt ≤ (-1 : Int)) {x3 : Int32} (h_x3 : xs 3 = x3) (q1_x3 : (0 : Int) ≤ x3.toInt) (q2_x3 : x3.toInt ≤ (17 : Int)) {x4 : Int32} (h_x4 : xs 4 = x4) (q1_x4 : (100 : Int) ≤ x4.toInt) (q2_x4 : x4.toInt ≤ (2147483647 : Int)) {x5 : Int32} (h_x5 : xs 5 = x5) (q1_x5 : (-2147483648 : Int) ≤ x5.toInt) (q2_x5 : x5.toInt ≤ (2147483647 : Int)) (kk : ∀ σ', zx p l e room_1 s m args below meth c g 8 600002 7302232 Q σ' 1395 [(4, .int 0), (0, .ref bS)] []) : zx p l e room_1 s m args below meth c g 8 500 100000 Q σ 148 [(4, .int 0), (3, .ref (b + 431)), (2, .ref (b + 405)), (1, .ref (b + 0)), (0, .ref bS)] [] := by
  have hK := fz_lay hF
  refine z_eqs (σ' := (ap b σ [] [] [])) rfl ?_
  refine z_aload_n B dL_law_148 rfl 3 rfl ?_
  refine z_aload_n B dL_law_149 rfl 4 rfl ?_
  refine z_iload B dL_law_150 0 rfl ?_
  refine z_iconst (v := 1) B dL_law_152 (by decide) ?_
  refine z_iadd B dL_law_153 ?_
  refine z_seti (y := 1) (by decide) ?_
  refine z_sld (j := 1) (x := 5) B hX hbl hbA (by decide) (show ¬ ((1 : Int32) < 0 ∨ 6 ≤ (1 : Int32).toNatClampNeg) by decide) h_x1 dL_law_154 ?_
  refine z_aload_n B dL_law_155 rfl 4 rfl ?_
  refine z_iload B dL_law_156 0 rfl ?_
  refine z_iconst (v := 2) B dL_law_158 (by decide) ?_
  refine z_iadd B dL_law_159 ?_
  refine z_seti (y := 2) (by decide) ?_
  refine z_sld (j := 2) (x := x2) B hX hbl hbA (by decide) (show ¬ ((2 : Int32) < 0 ∨ 6 ≤ (2 : Int32).toNatClampNeg) by decide) h_x2 dL_law_160 ?_
  refine z_aload_n B dL_law_161 rfl 4 rfl ?_
  refine z_iload B dL_law_162 0 rfl ?_
  refine z_iconst (v := 3) B dL_law_164 (by decide) ?_
  refine z_iadd B dL_law_165 ?_
  refine z_seti (y := 3) (by decide) ?_
  refine z_sld (j := 3) (x := x3) B hX hbl hbA (by decide) (show ¬ ((3 : Int32) < 0 ∨ 6 ≤ (3 : Int32).toNatClampNeg) by decide) h_x3 dL_law_166 ?_
  refine z_aload_n B dL_law_167 rfl 4 rfl ?_
  refine z_iload B dL_law_168 0 rfl ?_
  refine z_iconst (v := 4) B dL_law_170 (by decide) ?_
  refine z_iadd B dL_law_171 ?_
  refine z_seti (y := 4) (by decide) ?_
  refine z_sld (j := 4) (x := x4) B hX hbl hbA (by decide) (show ¬ ((4 : Int32) < 0 ∨ 6 ≤ (4 : Int32).toNatClampNeg) by decide) h_x4 dL_law_172 ?_
  refine z_aload_n B dL_law_173 rfl 4 rfl ?_
  refine z_iload B dL_law_174 0 rfl ?_
  refine z_iconst (v := 5) B dL_law_176 (by decide) ?_
  refine z_iadd B dL_law_177 ?_
  refine z_seti (y := 5) (by decide) ?_
  refine z_sld (j := 5) (x := x5) B hX hbl hbA (by decide) (show ¬ ((5 : Int32) < 0 ∨ 6 ≤ (5 : Int32).toNatClampNeg) by decide) h_x5 dL_law_178 ?_
  refine z_aload_n B dL_law_179 rfl 1 rfl ?_
  refine z_cSWi (As := [.ref (b + 0), .int 5, .int x2, .int x3, .int x4, .int x5, .ref (b + 431)]) (rest := []) B cw_L_74 dL_law_180 (ci_L_set_320 l hlt (σ := (ap b σ [] [] [])) (b := b) (lyA hK) x2 x3 x4 x5 q1_x2 q2_x2 (rR_at 0 0 (fz_R hF 0 0 rfl rfl)) (rR_at 1 5 (fz_R hF 1 5 rfl rfl))) rfl (by decide) rfl (Nat.le_of_ble_eq_true rfl) (by decide) (fun r u hu => ?_)
  obtain ⟨hu1, z, hu⟩ := hu
  refine z_eqs (σ' := (ap b (wx_Z σ z) [] [] [])) (hu.trans az_ap) ?_
  show zx p l e _ s m _ below meth c g 8 _ _ _ _ 183 [(4, .int 0), (3, .ref (b + 431)), (2, .ref (b + 405)), (1, .ref (b + 0)), (0, .ref bS)] _
  refine z_seti (y := 1) hu1 ?_
  refine z_istore (lv' := [(5, .int 1), (4, .int 0), (3, .ref (b + 431)), (2, .ref (b + 405)), (1, .ref (b + 0)), (0, .ref bS)]) B dL_law_183 (by decide) rfl ?_
  refine z_aload_n B dL_law_185 rfl 3 rfl ?_
  refine z_aload_n B dL_law_186 rfl 5 rfl ?_
  refine z_iload B dL_law_187 1 rfl ?_
  refine z_iconst (v := 1) B dL_law_189 (by decide) ?_
  refine z_iadd B dL_law_190 ?_
  refine z_seti (y := 1) (by decide) ?_
  refine z_sld (j := 1) (x := 5) B hX hbl hbA (by decide) (show ¬ ((1 : Int32) < 0 ∨ 6 ≤ (1 : Int32).toNatClampNeg) by decide) h_x1 dL_law_191 ?_
  refine z_aload_n B dL_law_192 rfl 5 rfl ?_
  refine z_iload B dL_law_193 1 rfl ?_
  refine z_iconst (v := 2) B dL_law_195 (by decide) ?_
  refine z_iadd B dL_law_196 ?_
  refine z_seti (y := 2) (by decide) ?_
  refine z_sld (j := 2) (x := x2) B hX hbl hbA (by decide) (show ¬ ((2 : Int32) < 0 ∨ 6 ≤ (2 : Int32).toNatClampNeg) by decide) h_x2 dL_law_197 ?_
  refine z_aload_n B dL_law_198 rfl 5 rfl ?_
  refine z_iload B dL_law_199 1 rfl ?_
  refine z_iconst (v := 3) B dL_law_201 (by decide) ?_
  refine z_iadd B dL_law_202 ?_
  refine z_seti (y := 3) (by decide) ?_
  refine z_sld (j := 3) (x := x3) B hX hbl hbA (by decide) (show ¬ ((3 : Int32) < 0 ∨ 6 ≤ (3 : Int32).toNatClampNeg) by decide) h_x3 dL_law_203 ?_
  refine z_aload_n B dL_law_204 rfl 5 rfl ?_
  refine z_iload B dL_law_205 1 rfl ?_
  refine z_iconst (v := 4) B dL_law_207 (by decide) ?_
  refine z_iadd B dL_law_208 ?_
  refine z_seti (y := 4) (by decide) ?_
  refine z_sld (j := 4) (x := x4) B hX hbl hbA (by decide) (show ¬ ((4 : Int32) < 0 ∨ 6 ≤ (4 : Int32).toNatClampNeg) by decide) h_x4 dL_law_209 ?_
  refine z_aload_n B dL_law_210 rfl 5 rfl ?_
  refine z_iload B dL_law_211 1 rfl ?_
  refine z_iconst (v := 5) B dL_law_213 (by decide) ?_
  refine z_iadd B dL_law_214 ?_
  refine z_seti (y := 5) (by decide) ?_
  refine z_sld (j := 5) (x := x5) B hX hbl hbA (by decide) (show ¬ ((5 : Int32) < 0 ∨ 6 ≤ (5 : Int32).toNatClampNeg) by decide) h_x5 dL_law_215 ?_
  refine z_cVi (As := [.int 5, .int x2, .int x3, .int x4, .int x5]) (rest := []) B cw_L_79 cx_10 dL_law_216 (ci_X9_set_328 l (σ := (ap b (wx_Z σ z) [] [] [])) (b := b) (lyA (lyZ hK)) x2 x3 x4 x5 q1_x2 q2_x2 q1_x3 q2_x3 q1_x4 q2_x4) (lKA (lKZ (hk_K hK 405 rfl rfl))) rfl (by decide) rfl (Nat.le_of_ble_eq_true rfl) (by decide) (fun r u hu => ?_)
  refine z_eqs (σ' := (ap b (wx_Z σ z) [(405, 0, 1)] [] [])) (hu.2.trans ap_ap) ?_
  show zx p l e _ s m _ below meth c g 8 _ _ _ _ 219 [(5, .int 1), (4, .int 0), (3, .ref (b + 431)), (2, .ref (b + 405)), (1, .ref (b + 0)), (0, .ref bS)] _
  refine z_seti (y := 0) hu.1 ?_
  refine z_istore (lv' := [(6, .int 0), (5, .int 1), (4, .int 0), (3, .ref (b + 431)), (2, .ref (b + 405)), (1, .ref (b + 0)), (0, .ref bS)]) B dL_law_219 (by decide) rfl ?_
  refine z_aload_n B dL_law_221 rfl 4 rfl ?_
  refine z_cVi (As := []) (rest := []) B cw_L_80 cx_10 dL_law_222 (ci_X9_thrown_31 l (σ := (ap b (wx_Z σ z) [(405, 0, 1)] [] [])) (b := b) (lyA (lyZ hK)) (rI_at 405 0 rfl)) (lKA (lKZ (hk_K hK 405 rfl rfl))) rfl (by decide) rfl (Nat.le_of_ble_eq_true rfl) (by decide) (fun r u hu => ?_)
  refine z_eqs (σ' := (ap b (wx_Z σ z) [(405, 0, 1)] [] [])) hu.2 ?_
  show zx p l e _ s m _ below meth c g 8 _ _ _ _ 225 [(6, .int 0), (5, .int 1), (4, .int 0), (3, .ref (b + 431)), (2, .ref (b + 405)), (1, .ref (b + 0)), (0, .ref bS)] _
  refine z_seti (y := 1) hu.1 ?_
  refine z_iload B dL_law_225 1 rfl ?_
  refine z_icmp_eq (tgt := 232) B dL_law_227 (by decide) (fun _ => ?_) (fun h => absurd (by decide) h)
  refine z_iload B dL_law_232 1 rfl ?_
  refine z_if_ne (tgt := 249) B dL_law_234 (by decide) (fun _ => ?_) (fun h => absurd h (by decide))
  refine z_goto (tgt := 1395) B dL_law_249 (by decide) ?_
  exact z_widen (Nat.le_of_ble_eq_true rfl) (Nat.le_of_ble_eq_true rfl) (z_sub _ [2, 6] rfl (kk _))
set_option maxRecDepth 100000 in
set_option maxHeartbeats 4000000 in
theorem lf_0_118 {p : Program} {l : Launch} {e : Env} {s : State} {m : MethodId} {args : Array Value} {below : List Frame} {meth : Method} {c : Code} {g : gx_T} {Q : State → Prop} {σ : sx_T} {b t bS : Nat} {xs : Nat → Int32} (hlt : l.stackTraces = false) (B : zx_B p s m args meth c code RL 8 g) (hX : va_X bS 6 xs s s.heap) (hbl : bS < s.heap.size) (hbA : ¬ gx_b g ≤ bS) (hF : fz_P b t σ) (h_x1 : xs 1 = 5) {x2 : Int32} (h_x2 : xs 2 = x2) (q1_x2 : (-2147483648 : Int) ≤ x2.toInt) (q2_x2 : x2.toInt ≤ (-1 : Int)) {x3 : Int32} (h_x3 : xs 3 = x3) (q1_x3 : (18 : Int) ≤ x3.toInt) (q2_x3 : x3.toInt ≤ (2147483647 : Int)) {x4 : Int32} (h_x4 : xs 4 = x4) (q1_x4 : (-2147483648 : Int) ≤ x4.toInt) (q2_x4 : x4.toInt ≤ (2147483647 : Int)) {x5 : Int32} (h_x5 : xs 5 = x5) (q1_x5 : (-2147483648 : Int) ≤ x5.toInt) (q2_x5 : x5.toInt ≤ (2147483647 : Int)) (kk : ∀ σ', zx p l e room_1 s m args below meth c g 8 600002 7302232 Q σ' 1395 [(4, .int 0), (0, .ref bS)] []) : zx p l e room_1 s m args below meth c g 8 500 100000 Q σ 148 [(4, .int 0), (3, .ref (b + 431)), (2, .ref (b + 405)), (1, .ref (b + 0)), (0, .ref bS)] [] := by
  have hK := fz_lay hF
  refine z_eqs (σ' := (ap b σ [] [] [])) rfl ?_
  refine z_aload_n B dL_law_148 rfl 3 rfl ?_
  refine z_aload_n B dL_law_149 rfl 4 rfl ?_
  refine z_iload B dL_law_150 0 rfl ?_
  refine z_iconst (v := 1) B dL_law_152 (by decide) ?_
  refine z_iadd B dL_law_153 ?_
  refine z_seti (y := 1) (by decide) ?_
  refine z_sld (j := 1) (x := 5) B hX hbl hbA (by decide) (show ¬ ((1 : Int32) < 0 ∨ 6 ≤ (1 : Int32).toNatClampNeg) by decide) h_x1 dL_law_154 ?_
  refine z_aload_n B dL_law_155 rfl 4 rfl ?_
  refine z_iload B dL_law_156 0 rfl ?_
  refine z_iconst (v := 2) B dL_law_158 (by decide) ?_
  refine z_iadd B dL_law_159 ?_
  refine z_seti (y := 2) (by decide) ?_
  refine z_sld (j := 2) (x := x2) B hX hbl hbA (by decide) (show ¬ ((2 : Int32) < 0 ∨ 6 ≤ (2 : Int32).toNatClampNeg) by decide) h_x2 dL_law_160 ?_
  refine z_aload_n B dL_law_161 rfl 4 rfl ?_
  refine z_iload B dL_law_162 0 rfl ?_
  refine z_iconst (v := 3) B dL_law_164 (by decide) ?_
  refine z_iadd B dL_law_165 ?_
  refine z_seti (y := 3) (by decide) ?_
  refine z_sld (j := 3) (x := x3) B hX hbl hbA (by decide) (show ¬ ((3 : Int32) < 0 ∨ 6 ≤ (3 : Int32).toNatClampNeg) by decide) h_x3 dL_law_166 ?_
  refine z_aload_n B dL_law_167 rfl 4 rfl ?_
  refine z_iload B dL_law_168 0 rfl ?_
  refine z_iconst (v := 4) B dL_law_170 (by decide) ?_
  refine z_iadd B dL_law_171 ?_
  refine z_seti (y := 4) (by decide) ?_
  refine z_sld (j := 4) (x := x4) B hX hbl hbA (by decide) (show ¬ ((4 : Int32) < 0 ∨ 6 ≤ (4 : Int32).toNatClampNeg) by decide) h_x4 dL_law_172 ?_
  refine z_aload_n B dL_law_173 rfl 4 rfl ?_
  refine z_iload B dL_law_174 0 rfl ?_
  refine z_iconst (v := 5) B dL_law_176 (by decide) ?_
  refine z_iadd B dL_law_177 ?_
  refine z_seti (y := 5) (by decide) ?_
  refine z_sld (j := 5) (x := x5) B hX hbl hbA (by decide) (show ¬ ((5 : Int32) < 0 ∨ 6 ≤ (5 : Int32).toNatClampNeg) by decide) h_x5 dL_law_178 ?_
  refine z_aload_n B dL_law_179 rfl 1 rfl ?_
  refine z_cSWi (As := [.ref (b + 0), .int 5, .int x2, .int x3, .int x4, .int x5, .ref (b + 431)]) (rest := []) B cw_L_74 dL_law_180 (ci_L_set_320 l hlt (σ := (ap b σ [] [] [])) (b := b) (lyA hK) x2 x3 x4 x5 q1_x2 q2_x2 (rR_at 0 0 (fz_R hF 0 0 rfl rfl)) (rR_at 1 5 (fz_R hF 1 5 rfl rfl))) rfl (by decide) rfl (Nat.le_of_ble_eq_true rfl) (by decide) (fun r u hu => ?_)
  obtain ⟨hu1, z, hu⟩ := hu
  refine z_eqs (σ' := (ap b (wx_Z σ z) [] [] [])) (hu.trans az_ap) ?_
  show zx p l e _ s m _ below meth c g 8 _ _ _ _ 183 [(4, .int 0), (3, .ref (b + 431)), (2, .ref (b + 405)), (1, .ref (b + 0)), (0, .ref bS)] _
  refine z_seti (y := 1) hu1 ?_
  refine z_istore (lv' := [(5, .int 1), (4, .int 0), (3, .ref (b + 431)), (2, .ref (b + 405)), (1, .ref (b + 0)), (0, .ref bS)]) B dL_law_183 (by decide) rfl ?_
  refine z_aload_n B dL_law_185 rfl 3 rfl ?_
  refine z_aload_n B dL_law_186 rfl 5 rfl ?_
  refine z_iload B dL_law_187 1 rfl ?_
  refine z_iconst (v := 1) B dL_law_189 (by decide) ?_
  refine z_iadd B dL_law_190 ?_
  refine z_seti (y := 1) (by decide) ?_
  refine z_sld (j := 1) (x := 5) B hX hbl hbA (by decide) (show ¬ ((1 : Int32) < 0 ∨ 6 ≤ (1 : Int32).toNatClampNeg) by decide) h_x1 dL_law_191 ?_
  refine z_aload_n B dL_law_192 rfl 5 rfl ?_
  refine z_iload B dL_law_193 1 rfl ?_
  refine z_iconst (v := 2) B dL_law_195 (by decide) ?_
  refine z_iadd B dL_law_196 ?_
  refine z_seti (y := 2) (by decide) ?_
  refine z_sld (j := 2) (x := x2) B hX hbl hbA (by decide) (show ¬ ((2 : Int32) < 0 ∨ 6 ≤ (2 : Int32).toNatClampNeg) by decide) h_x2 dL_law_197 ?_
  refine z_aload_n B dL_law_198 rfl 5 rfl ?_
  refine z_iload B dL_law_199 1 rfl ?_
  refine z_iconst (v := 3) B dL_law_201 (by decide) ?_
  refine z_iadd B dL_law_202 ?_
  refine z_seti (y := 3) (by decide) ?_
  refine z_sld (j := 3) (x := x3) B hX hbl hbA (by decide) (show ¬ ((3 : Int32) < 0 ∨ 6 ≤ (3 : Int32).toNatClampNeg) by decide) h_x3 dL_law_203 ?_
  refine z_aload_n B dL_law_204 rfl 5 rfl ?_
  refine z_iload B dL_law_205 1 rfl ?_
  refine z_iconst (v := 4) B dL_law_207 (by decide) ?_
  refine z_iadd B dL_law_208 ?_
  refine z_seti (y := 4) (by decide) ?_
  refine z_sld (j := 4) (x := x4) B hX hbl hbA (by decide) (show ¬ ((4 : Int32) < 0 ∨ 6 ≤ (4 : Int32).toNatClampNeg) by decide) h_x4 dL_law_209 ?_
  refine z_aload_n B dL_law_210 rfl 5 rfl ?_
  refine z_iload B dL_law_211 1 rfl ?_
  refine z_iconst (v := 5) B dL_law_213 (by decide) ?_
  refine z_iadd B dL_law_214 ?_
  refine z_seti (y := 5) (by decide) ?_
  refine z_sld (j := 5) (x := x5) B hX hbl hbA (by decide) (show ¬ ((5 : Int32) < 0 ∨ 6 ≤ (5 : Int32).toNatClampNeg) by decide) h_x5 dL_law_215 ?_
  refine z_cVi (As := [.int 5, .int x2, .int x3, .int x4, .int x5]) (rest := []) B cw_L_79 cx_10 dL_law_216 (ci_X9_set_329 l (σ := (ap b (wx_Z σ z) [] [] [])) (b := b) (lyA (lyZ hK)) x2 x3 x4 x5 q1_x2 q2_x2 q1_x3 q2_x3) (lKA (lKZ (hk_K hK 405 rfl rfl))) rfl (by decide) rfl (Nat.le_of_ble_eq_true rfl) (by decide) (fun r u hu => ?_)
  refine z_eqs (σ' := (ap b (wx_Z σ z) [(405, 0, 1)] [] [])) (hu.2.trans ap_ap) ?_
  show zx p l e _ s m _ below meth c g 8 _ _ _ _ 219 [(5, .int 1), (4, .int 0), (3, .ref (b + 431)), (2, .ref (b + 405)), (1, .ref (b + 0)), (0, .ref bS)] _
  refine z_seti (y := 0) hu.1 ?_
  refine z_istore (lv' := [(6, .int 0), (5, .int 1), (4, .int 0), (3, .ref (b + 431)), (2, .ref (b + 405)), (1, .ref (b + 0)), (0, .ref bS)]) B dL_law_219 (by decide) rfl ?_
  refine z_aload_n B dL_law_221 rfl 4 rfl ?_
  refine z_cVi (As := []) (rest := []) B cw_L_80 cx_10 dL_law_222 (ci_X9_thrown_31 l (σ := (ap b (wx_Z σ z) [(405, 0, 1)] [] [])) (b := b) (lyA (lyZ hK)) (rI_at 405 0 rfl)) (lKA (lKZ (hk_K hK 405 rfl rfl))) rfl (by decide) rfl (Nat.le_of_ble_eq_true rfl) (by decide) (fun r u hu => ?_)
  refine z_eqs (σ' := (ap b (wx_Z σ z) [(405, 0, 1)] [] [])) hu.2 ?_
  show zx p l e _ s m _ below meth c g 8 _ _ _ _ 225 [(6, .int 0), (5, .int 1), (4, .int 0), (3, .ref (b + 431)), (2, .ref (b + 405)), (1, .ref (b + 0)), (0, .ref bS)] _
  refine z_seti (y := 1) hu.1 ?_
  refine z_iload B dL_law_225 1 rfl ?_
  refine z_icmp_eq (tgt := 232) B dL_law_227 (by decide) (fun _ => ?_) (fun h => absurd (by decide) h)
  refine z_iload B dL_law_232 1 rfl ?_
  refine z_if_ne (tgt := 249) B dL_law_234 (by decide) (fun _ => ?_) (fun h => absurd h (by decide))
  refine z_goto (tgt := 1395) B dL_law_249 (by decide) ?_
  exact z_widen (Nat.le_of_ble_eq_true rfl) (Nat.le_of_ble_eq_true rfl) (z_sub _ [2, 6] rfl (kk _))
set_option maxRecDepth 100000 in
set_option maxHeartbeats 4000000 in
theorem lf_0_119 {p : Program} {l : Launch} {e : Env} {s : State} {m : MethodId} {args : Array Value} {below : List Frame} {meth : Method} {c : Code} {g : gx_T} {Q : State → Prop} {σ : sx_T} {b t bS : Nat} {xs : Nat → Int32} (hlt : l.stackTraces = false) (B : zx_B p s m args meth c code RL 8 g) (hX : va_X bS 6 xs s s.heap) (hbl : bS < s.heap.size) (hbA : ¬ gx_b g ≤ bS) (hF : fz_P b t σ) (h_x1 : xs 1 = 5) {x2 : Int32} (h_x2 : xs 2 = x2) (q1_x2 : (0 : Int) ≤ x2.toInt) (q2_x2 : x2.toInt ≤ (19 : Int)) {x3 : Int32} (h_x3 : xs 3 = x3) (q1_x3 : (-2147483648 : Int) ≤ x3.toInt) (q2_x3 : x3.toInt ≤ (-1 : Int)) {x4 : Int32} (h_x4 : xs 4 = x4) (q1_x4 : (-2147483648 : Int) ≤ x4.toInt) (q2_x4 : x4.toInt ≤ (2147483647 : Int)) {x5 : Int32} (h_x5 : xs 5 = x5) (q1_x5 : (-2147483648 : Int) ≤ x5.toInt) (q2_x5 : x5.toInt ≤ (2147483647 : Int)) (kk : ∀ σ', zx p l e room_1 s m args below meth c g 8 600002 7302232 Q σ' 1395 [(4, .int 0), (0, .ref bS)] []) : zx p l e room_1 s m args below meth c g 8 500 100000 Q σ 148 [(4, .int 0), (3, .ref (b + 431)), (2, .ref (b + 405)), (1, .ref (b + 0)), (0, .ref bS)] [] := by
  have hK := fz_lay hF
  refine z_eqs (σ' := (ap b σ [] [] [])) rfl ?_
  refine z_aload_n B dL_law_148 rfl 3 rfl ?_
  refine z_aload_n B dL_law_149 rfl 4 rfl ?_
  refine z_iload B dL_law_150 0 rfl ?_
  refine z_iconst (v := 1) B dL_law_152 (by decide) ?_
  refine z_iadd B dL_law_153 ?_
  refine z_seti (y := 1) (by decide) ?_
  refine z_sld (j := 1) (x := 5) B hX hbl hbA (by decide) (show ¬ ((1 : Int32) < 0 ∨ 6 ≤ (1 : Int32).toNatClampNeg) by decide) h_x1 dL_law_154 ?_
  refine z_aload_n B dL_law_155 rfl 4 rfl ?_
  refine z_iload B dL_law_156 0 rfl ?_
  refine z_iconst (v := 2) B dL_law_158 (by decide) ?_
  refine z_iadd B dL_law_159 ?_
  refine z_seti (y := 2) (by decide) ?_
  refine z_sld (j := 2) (x := x2) B hX hbl hbA (by decide) (show ¬ ((2 : Int32) < 0 ∨ 6 ≤ (2 : Int32).toNatClampNeg) by decide) h_x2 dL_law_160 ?_
  refine z_aload_n B dL_law_161 rfl 4 rfl ?_
  refine z_iload B dL_law_162 0 rfl ?_
  refine z_iconst (v := 3) B dL_law_164 (by decide) ?_
  refine z_iadd B dL_law_165 ?_
  refine z_seti (y := 3) (by decide) ?_
  refine z_sld (j := 3) (x := x3) B hX hbl hbA (by decide) (show ¬ ((3 : Int32) < 0 ∨ 6 ≤ (3 : Int32).toNatClampNeg) by decide) h_x3 dL_law_166 ?_
  refine z_aload_n B dL_law_167 rfl 4 rfl ?_
  refine z_iload B dL_law_168 0 rfl ?_
  refine z_iconst (v := 4) B dL_law_170 (by decide) ?_
  refine z_iadd B dL_law_171 ?_
  refine z_seti (y := 4) (by decide) ?_
  refine z_sld (j := 4) (x := x4) B hX hbl hbA (by decide) (show ¬ ((4 : Int32) < 0 ∨ 6 ≤ (4 : Int32).toNatClampNeg) by decide) h_x4 dL_law_172 ?_
  refine z_aload_n B dL_law_173 rfl 4 rfl ?_
  refine z_iload B dL_law_174 0 rfl ?_
  refine z_iconst (v := 5) B dL_law_176 (by decide) ?_
  refine z_iadd B dL_law_177 ?_
  refine z_seti (y := 5) (by decide) ?_
  refine z_sld (j := 5) (x := x5) B hX hbl hbA (by decide) (show ¬ ((5 : Int32) < 0 ∨ 6 ≤ (5 : Int32).toNatClampNeg) by decide) h_x5 dL_law_178 ?_
  refine z_aload_n B dL_law_179 rfl 1 rfl ?_
  refine z_cSWi (As := [.ref (b + 0), .int 5, .int x2, .int x3, .int x4, .int x5, .ref (b + 431)]) (rest := []) B cw_L_74 dL_law_180 (ci_L_set_331 l hlt (σ := (ap b σ [] [] [])) (b := b) (lyA hK) x2 x3 x4 x5 q1_x2 q2_x2 q1_x3 q2_x3 (rR_at 0 0 (fz_R hF 0 0 rfl rfl)) (rR_at 1 5 (fz_R hF 1 5 rfl rfl))) rfl (by decide) rfl (Nat.le_of_ble_eq_true rfl) (by decide) (fun r u hu => ?_)
  obtain ⟨hu1, z, hu⟩ := hu
  refine z_eqs (σ' := (ap b (wx_Z σ z) [] [] [])) (hu.trans az_ap) ?_
  show zx p l e _ s m _ below meth c g 8 _ _ _ _ 183 [(4, .int 0), (3, .ref (b + 431)), (2, .ref (b + 405)), (1, .ref (b + 0)), (0, .ref bS)] _
  refine z_seti (y := 2) hu1 ?_
  refine z_istore (lv' := [(5, .int 2), (4, .int 0), (3, .ref (b + 431)), (2, .ref (b + 405)), (1, .ref (b + 0)), (0, .ref bS)]) B dL_law_183 (by decide) rfl ?_
  refine z_aload_n B dL_law_185 rfl 3 rfl ?_
  refine z_aload_n B dL_law_186 rfl 5 rfl ?_
  refine z_iload B dL_law_187 1 rfl ?_
  refine z_iconst (v := 1) B dL_law_189 (by decide) ?_
  refine z_iadd B dL_law_190 ?_
  refine z_seti (y := 1) (by decide) ?_
  refine z_sld (j := 1) (x := 5) B hX hbl hbA (by decide) (show ¬ ((1 : Int32) < 0 ∨ 6 ≤ (1 : Int32).toNatClampNeg) by decide) h_x1 dL_law_191 ?_
  refine z_aload_n B dL_law_192 rfl 5 rfl ?_
  refine z_iload B dL_law_193 1 rfl ?_
  refine z_iconst (v := 2) B dL_law_195 (by decide) ?_
  refine z_iadd B dL_law_196 ?_
  refine z_seti (y := 2) (by decide) ?_
  refine z_sld (j := 2) (x := x2) B hX hbl hbA (by decide) (show ¬ ((2 : Int32) < 0 ∨ 6 ≤ (2 : Int32).toNatClampNeg) by decide) h_x2 dL_law_197 ?_
  refine z_aload_n B dL_law_198 rfl 5 rfl ?_
  refine z_iload B dL_law_199 1 rfl ?_
  refine z_iconst (v := 3) B dL_law_201 (by decide) ?_
  refine z_iadd B dL_law_202 ?_
  refine z_seti (y := 3) (by decide) ?_
  refine z_sld (j := 3) (x := x3) B hX hbl hbA (by decide) (show ¬ ((3 : Int32) < 0 ∨ 6 ≤ (3 : Int32).toNatClampNeg) by decide) h_x3 dL_law_203 ?_
  refine z_aload_n B dL_law_204 rfl 5 rfl ?_
  refine z_iload B dL_law_205 1 rfl ?_
  refine z_iconst (v := 4) B dL_law_207 (by decide) ?_
  refine z_iadd B dL_law_208 ?_
  refine z_seti (y := 4) (by decide) ?_
  refine z_sld (j := 4) (x := x4) B hX hbl hbA (by decide) (show ¬ ((4 : Int32) < 0 ∨ 6 ≤ (4 : Int32).toNatClampNeg) by decide) h_x4 dL_law_209 ?_
  refine z_aload_n B dL_law_210 rfl 5 rfl ?_
  refine z_iload B dL_law_211 1 rfl ?_
  refine z_iconst (v := 5) B dL_law_213 (by decide) ?_
  refine z_iadd B dL_law_214 ?_
  refine z_seti (y := 5) (by decide) ?_
  refine z_sld (j := 5) (x := x5) B hX hbl hbA (by decide) (show ¬ ((5 : Int32) < 0 ∨ 6 ≤ (5 : Int32).toNatClampNeg) by decide) h_x5 dL_law_215 ?_
  refine z_cVi (As := [.int 5, .int x2, .int x3, .int x4, .int x5]) (rest := []) B cw_L_79 cx_10 dL_law_216 (ci_X9_set_333 l (σ := (ap b (wx_Z σ z) [] [] [])) (b := b) (lyA (lyZ hK)) x2 x3 x4 x5 q1_x2 q2_x2 q1_x3 q2_x3) (lKA (lKZ (hk_K hK 405 rfl rfl))) rfl (by decide) rfl (Nat.le_of_ble_eq_true rfl) (by decide) (fun r u hu => ?_)
  refine z_eqs (σ' := (ap b (wx_Z σ z) [(405, 0, 2)] [] [])) (hu.2.trans ap_ap) ?_
  show zx p l e _ s m _ below meth c g 8 _ _ _ _ 219 [(5, .int 2), (4, .int 0), (3, .ref (b + 431)), (2, .ref (b + 405)), (1, .ref (b + 0)), (0, .ref bS)] _
  refine z_seti (y := 0) hu.1 ?_
  refine z_istore (lv' := [(6, .int 0), (5, .int 2), (4, .int 0), (3, .ref (b + 431)), (2, .ref (b + 405)), (1, .ref (b + 0)), (0, .ref bS)]) B dL_law_219 (by decide) rfl ?_
  refine z_aload_n B dL_law_221 rfl 4 rfl ?_
  refine z_cVi (As := []) (rest := []) B cw_L_80 cx_10 dL_law_222 (ci_X9_thrown_73 l (σ := (ap b (wx_Z σ z) [(405, 0, 2)] [] [])) (b := b) (lyA (lyZ hK)) (rI_at 405 0 rfl)) (lKA (lKZ (hk_K hK 405 rfl rfl))) rfl (by decide) rfl (Nat.le_of_ble_eq_true rfl) (by decide) (fun r u hu => ?_)
  refine z_eqs (σ' := (ap b (wx_Z σ z) [(405, 0, 2)] [] [])) hu.2 ?_
  show zx p l e _ s m _ below meth c g 8 _ _ _ _ 225 [(6, .int 0), (5, .int 2), (4, .int 0), (3, .ref (b + 431)), (2, .ref (b + 405)), (1, .ref (b + 0)), (0, .ref bS)] _
  refine z_seti (y := 2) hu.1 ?_
  refine z_iload B dL_law_225 1 rfl ?_
  refine z_icmp_eq (tgt := 232) B dL_law_227 (by decide) (fun _ => ?_) (fun h => absurd (by decide) h)
  refine z_iload B dL_law_232 1 rfl ?_
  refine z_if_ne (tgt := 249) B dL_law_234 (by decide) (fun _ => ?_) (fun h => absurd h (by decide))
  refine z_goto (tgt := 1395) B dL_law_249 (by decide) ?_
  exact z_widen (Nat.le_of_ble_eq_true rfl) (Nat.le_of_ble_eq_true rfl) (z_sub _ [2, 6] rfl (kk _))
set_option maxRecDepth 100000 in
set_option maxHeartbeats 4000000 in
theorem lf_0_120 {p : Program} {l : Launch} {e : Env} {s : State} {m : MethodId} {args : Array Value} {below : List Frame} {meth : Method} {c : Code} {g : gx_T} {Q : State → Prop} {σ : sx_T} {b t bS : Nat} {xs : Nat → Int32} (hlt : l.stackTraces = false) (B : zx_B p s m args meth c code RL 8 g) (hX : va_X bS 6 xs s s.heap) (hbl : bS < s.heap.size) (hbA : ¬ gx_b g ≤ bS) (hF : fz_P b t σ) (h_x1 : xs 1 = 5) {x2 : Int32} (h_x2 : xs 2 = x2) (q1_x2 : (0 : Int) ≤ x2.toInt) (q2_x2 : x2.toInt ≤ (19 : Int)) {x3 : Int32} (h_x3 : xs 3 = x3) (q1_x3 : (0 : Int) ≤ x3.toInt) (q2_x3 : x3.toInt ≤ (17 : Int)) {x4 : Int32} (h_x4 : xs 4 = x4) (q1_x4 : (-2147483648 : Int) ≤ x4.toInt) (q2_x4 : x4.toInt ≤ (-1 : Int)) {x5 : Int32} (h_x5 : xs 5 = x5) (q1_x5 : (-2147483648 : Int) ≤ x5.toInt) (q2_x5 : x5.toInt ≤ (2147483647 : Int)) (kk : ∀ σ', zx p l e room_1 s m args below meth c g 8 600002 7302232 Q σ' 1395 [(4, .int 0), (0, .ref bS)] []) : zx p l e room_1 s m args below meth c g 8 500 100000 Q σ 148 [(4, .int 0), (3, .ref (b + 431)), (2, .ref (b + 405)), (1, .ref (b + 0)), (0, .ref bS)] [] := by
  have hK := fz_lay hF
  refine z_eqs (σ' := (ap b σ [] [] [])) rfl ?_
  refine z_aload_n B dL_law_148 rfl 3 rfl ?_
  refine z_aload_n B dL_law_149 rfl 4 rfl ?_
  refine z_iload B dL_law_150 0 rfl ?_
  refine z_iconst (v := 1) B dL_law_152 (by decide) ?_
  refine z_iadd B dL_law_153 ?_
  refine z_seti (y := 1) (by decide) ?_
  refine z_sld (j := 1) (x := 5) B hX hbl hbA (by decide) (show ¬ ((1 : Int32) < 0 ∨ 6 ≤ (1 : Int32).toNatClampNeg) by decide) h_x1 dL_law_154 ?_
  refine z_aload_n B dL_law_155 rfl 4 rfl ?_
  refine z_iload B dL_law_156 0 rfl ?_
  refine z_iconst (v := 2) B dL_law_158 (by decide) ?_
  refine z_iadd B dL_law_159 ?_
  refine z_seti (y := 2) (by decide) ?_
  refine z_sld (j := 2) (x := x2) B hX hbl hbA (by decide) (show ¬ ((2 : Int32) < 0 ∨ 6 ≤ (2 : Int32).toNatClampNeg) by decide) h_x2 dL_law_160 ?_
  refine z_aload_n B dL_law_161 rfl 4 rfl ?_
  refine z_iload B dL_law_162 0 rfl ?_
  refine z_iconst (v := 3) B dL_law_164 (by decide) ?_
  refine z_iadd B dL_law_165 ?_
  refine z_seti (y := 3) (by decide) ?_
  refine z_sld (j := 3) (x := x3) B hX hbl hbA (by decide) (show ¬ ((3 : Int32) < 0 ∨ 6 ≤ (3 : Int32).toNatClampNeg) by decide) h_x3 dL_law_166 ?_
  refine z_aload_n B dL_law_167 rfl 4 rfl ?_
  refine z_iload B dL_law_168 0 rfl ?_
  refine z_iconst (v := 4) B dL_law_170 (by decide) ?_
  refine z_iadd B dL_law_171 ?_
  refine z_seti (y := 4) (by decide) ?_
  refine z_sld (j := 4) (x := x4) B hX hbl hbA (by decide) (show ¬ ((4 : Int32) < 0 ∨ 6 ≤ (4 : Int32).toNatClampNeg) by decide) h_x4 dL_law_172 ?_
  refine z_aload_n B dL_law_173 rfl 4 rfl ?_
  refine z_iload B dL_law_174 0 rfl ?_
  refine z_iconst (v := 5) B dL_law_176 (by decide) ?_
  refine z_iadd B dL_law_177 ?_
  refine z_seti (y := 5) (by decide) ?_
  refine z_sld (j := 5) (x := x5) B hX hbl hbA (by decide) (show ¬ ((5 : Int32) < 0 ∨ 6 ≤ (5 : Int32).toNatClampNeg) by decide) h_x5 dL_law_178 ?_
  refine z_aload_n B dL_law_179 rfl 1 rfl ?_
  refine z_cSWi (As := [.ref (b + 0), .int 5, .int x2, .int x3, .int x4, .int x5, .ref (b + 431)]) (rest := []) B cw_L_74 dL_law_180 (ci_L_set_335 l hlt (σ := (ap b σ [] [] [])) (b := b) (lyA hK) x2 x3 x4 x5 q1_x2 q2_x2 q1_x3 q2_x3 q1_x4 q2_x4 (rR_at 0 0 (fz_R hF 0 0 rfl rfl)) (rR_at 1 5 (fz_R hF 1 5 rfl rfl))) rfl (by decide) rfl (Nat.le_of_ble_eq_true rfl) (by decide) (fun r u hu => ?_)
  obtain ⟨hu1, z, hu⟩ := hu
  refine z_eqs (σ' := (ap b (wx_Z σ z) [] [] [])) (hu.trans az_ap) ?_
  show zx p l e _ s m _ below meth c g 8 _ _ _ _ 183 [(4, .int 0), (3, .ref (b + 431)), (2, .ref (b + 405)), (1, .ref (b + 0)), (0, .ref bS)] _
  refine z_seti (y := 2) hu1 ?_
  refine z_istore (lv' := [(5, .int 2), (4, .int 0), (3, .ref (b + 431)), (2, .ref (b + 405)), (1, .ref (b + 0)), (0, .ref bS)]) B dL_law_183 (by decide) rfl ?_
  refine z_aload_n B dL_law_185 rfl 3 rfl ?_
  refine z_aload_n B dL_law_186 rfl 5 rfl ?_
  refine z_iload B dL_law_187 1 rfl ?_
  refine z_iconst (v := 1) B dL_law_189 (by decide) ?_
  refine z_iadd B dL_law_190 ?_
  refine z_seti (y := 1) (by decide) ?_
  refine z_sld (j := 1) (x := 5) B hX hbl hbA (by decide) (show ¬ ((1 : Int32) < 0 ∨ 6 ≤ (1 : Int32).toNatClampNeg) by decide) h_x1 dL_law_191 ?_
  refine z_aload_n B dL_law_192 rfl 5 rfl ?_
  refine z_iload B dL_law_193 1 rfl ?_
  refine z_iconst (v := 2) B dL_law_195 (by decide) ?_
  refine z_iadd B dL_law_196 ?_
  refine z_seti (y := 2) (by decide) ?_
  refine z_sld (j := 2) (x := x2) B hX hbl hbA (by decide) (show ¬ ((2 : Int32) < 0 ∨ 6 ≤ (2 : Int32).toNatClampNeg) by decide) h_x2 dL_law_197 ?_
  refine z_aload_n B dL_law_198 rfl 5 rfl ?_
  refine z_iload B dL_law_199 1 rfl ?_
  refine z_iconst (v := 3) B dL_law_201 (by decide) ?_
  refine z_iadd B dL_law_202 ?_
  refine z_seti (y := 3) (by decide) ?_
  refine z_sld (j := 3) (x := x3) B hX hbl hbA (by decide) (show ¬ ((3 : Int32) < 0 ∨ 6 ≤ (3 : Int32).toNatClampNeg) by decide) h_x3 dL_law_203 ?_
  refine z_aload_n B dL_law_204 rfl 5 rfl ?_
  refine z_iload B dL_law_205 1 rfl ?_
  refine z_iconst (v := 4) B dL_law_207 (by decide) ?_
  refine z_iadd B dL_law_208 ?_
  refine z_seti (y := 4) (by decide) ?_
  refine z_sld (j := 4) (x := x4) B hX hbl hbA (by decide) (show ¬ ((4 : Int32) < 0 ∨ 6 ≤ (4 : Int32).toNatClampNeg) by decide) h_x4 dL_law_209 ?_
  refine z_aload_n B dL_law_210 rfl 5 rfl ?_
  refine z_iload B dL_law_211 1 rfl ?_
  refine z_iconst (v := 5) B dL_law_213 (by decide) ?_
  refine z_iadd B dL_law_214 ?_
  refine z_seti (y := 5) (by decide) ?_
  refine z_sld (j := 5) (x := x5) B hX hbl hbA (by decide) (show ¬ ((5 : Int32) < 0 ∨ 6 ≤ (5 : Int32).toNatClampNeg) by decide) h_x5 dL_law_215 ?_
  refine z_cVi (As := [.int 5, .int x2, .int x3, .int x4, .int x5]) (rest := []) B cw_L_79 cx_10 dL_law_216 (ci_X9_set_336 l (σ := (ap b (wx_Z σ z) [] [] [])) (b := b) (lyA (lyZ hK)) x2 x3 x4 x5 q1_x2 q2_x2 q1_x3 q2_x3 q1_x4 q2_x4) (lKA (lKZ (hk_K hK 405 rfl rfl))) rfl (by decide) rfl (Nat.le_of_ble_eq_true rfl) (by decide) (fun r u hu => ?_)
  refine z_eqs (σ' := (ap b (wx_Z σ z) [(405, 0, 2)] [] [])) (hu.2.trans ap_ap) ?_
  show zx p l e _ s m _ below meth c g 8 _ _ _ _ 219 [(5, .int 2), (4, .int 0), (3, .ref (b + 431)), (2, .ref (b + 405)), (1, .ref (b + 0)), (0, .ref bS)] _
  refine z_seti (y := 0) hu.1 ?_
  refine z_istore (lv' := [(6, .int 0), (5, .int 2), (4, .int 0), (3, .ref (b + 431)), (2, .ref (b + 405)), (1, .ref (b + 0)), (0, .ref bS)]) B dL_law_219 (by decide) rfl ?_
  refine z_aload_n B dL_law_221 rfl 4 rfl ?_
  refine z_cVi (As := []) (rest := []) B cw_L_80 cx_10 dL_law_222 (ci_X9_thrown_73 l (σ := (ap b (wx_Z σ z) [(405, 0, 2)] [] [])) (b := b) (lyA (lyZ hK)) (rI_at 405 0 rfl)) (lKA (lKZ (hk_K hK 405 rfl rfl))) rfl (by decide) rfl (Nat.le_of_ble_eq_true rfl) (by decide) (fun r u hu => ?_)
  refine z_eqs (σ' := (ap b (wx_Z σ z) [(405, 0, 2)] [] [])) hu.2 ?_
  show zx p l e _ s m _ below meth c g 8 _ _ _ _ 225 [(6, .int 0), (5, .int 2), (4, .int 0), (3, .ref (b + 431)), (2, .ref (b + 405)), (1, .ref (b + 0)), (0, .ref bS)] _
  refine z_seti (y := 2) hu.1 ?_
  refine z_iload B dL_law_225 1 rfl ?_
  refine z_icmp_eq (tgt := 232) B dL_law_227 (by decide) (fun _ => ?_) (fun h => absurd (by decide) h)
  refine z_iload B dL_law_232 1 rfl ?_
  refine z_if_ne (tgt := 249) B dL_law_234 (by decide) (fun _ => ?_) (fun h => absurd h (by decide))
  refine z_goto (tgt := 1395) B dL_law_249 (by decide) ?_
  exact z_widen (Nat.le_of_ble_eq_true rfl) (Nat.le_of_ble_eq_true rfl) (z_sub _ [2, 6] rfl (kk _))
set_option maxRecDepth 100000 in
set_option maxHeartbeats 4000000 in
theorem lf_0_121 {p : Program} {l : Launch} {e : Env} {s : State} {m : MethodId} {args : Array Value} {below : List Frame} {meth : Method} {c : Code} {g : gx_T} {Q : State → Prop} {σ : sx_T} {b t bS : Nat} {xs : Nat → Int32} (hlt : l.stackTraces = false) (B : zx_B p s m args meth c code RL 8 g) (hX : va_X bS 6 xs s s.heap) (hbl : bS < s.heap.size) (hbA : ¬ gx_b g ≤ bS) (hF : fz_P b t σ) (h_x1 : xs 1 = 5) {x2 : Int32} (h_x2 : xs 2 = x2) (q1_x2 : (0 : Int) ≤ x2.toInt) (q2_x2 : x2.toInt ≤ (19 : Int)) {x3 : Int32} (h_x3 : xs 3 = x3) (q1_x3 : (0 : Int) ≤ x3.toInt) (q2_x3 : x3.toInt ≤ (17 : Int)) {x4 : Int32} (h_x4 : xs 4 = x4) (q1_x4 : (0 : Int) ≤ x4.toInt) (q2_x4 : x4.toInt ≤ (99 : Int)) {x5 : Int32} (h_x5 : xs 5 = x5) (q1_x5 : (-2147483648 : Int) ≤ x5.toInt) (q2_x5 : x5.toInt ≤ (-1 : Int)) (kk : ∀ σ', zx p l e room_1 s m args below meth c g 8 600002 7302232 Q σ' 1395 [(4, .int 0), (0, .ref bS)] []) : zx p l e room_1 s m args below meth c g 8 500 100000 Q σ 148 [(4, .int 0), (3, .ref (b + 431)), (2, .ref (b + 405)), (1, .ref (b + 0)), (0, .ref bS)] [] := by
  have hK := fz_lay hF
  refine z_eqs (σ' := (ap b σ [] [] [])) rfl ?_
  refine z_aload_n B dL_law_148 rfl 3 rfl ?_
  refine z_aload_n B dL_law_149 rfl 4 rfl ?_
  refine z_iload B dL_law_150 0 rfl ?_
  refine z_iconst (v := 1) B dL_law_152 (by decide) ?_
  refine z_iadd B dL_law_153 ?_
  refine z_seti (y := 1) (by decide) ?_
  refine z_sld (j := 1) (x := 5) B hX hbl hbA (by decide) (show ¬ ((1 : Int32) < 0 ∨ 6 ≤ (1 : Int32).toNatClampNeg) by decide) h_x1 dL_law_154 ?_
  refine z_aload_n B dL_law_155 rfl 4 rfl ?_
  refine z_iload B dL_law_156 0 rfl ?_
  refine z_iconst (v := 2) B dL_law_158 (by decide) ?_
  refine z_iadd B dL_law_159 ?_
  refine z_seti (y := 2) (by decide) ?_
  refine z_sld (j := 2) (x := x2) B hX hbl hbA (by decide) (show ¬ ((2 : Int32) < 0 ∨ 6 ≤ (2 : Int32).toNatClampNeg) by decide) h_x2 dL_law_160 ?_
  refine z_aload_n B dL_law_161 rfl 4 rfl ?_
  refine z_iload B dL_law_162 0 rfl ?_
  refine z_iconst (v := 3) B dL_law_164 (by decide) ?_
  refine z_iadd B dL_law_165 ?_
  refine z_seti (y := 3) (by decide) ?_
  refine z_sld (j := 3) (x := x3) B hX hbl hbA (by decide) (show ¬ ((3 : Int32) < 0 ∨ 6 ≤ (3 : Int32).toNatClampNeg) by decide) h_x3 dL_law_166 ?_
  refine z_aload_n B dL_law_167 rfl 4 rfl ?_
  refine z_iload B dL_law_168 0 rfl ?_
  refine z_iconst (v := 4) B dL_law_170 (by decide) ?_
  refine z_iadd B dL_law_171 ?_
  refine z_seti (y := 4) (by decide) ?_
  refine z_sld (j := 4) (x := x4) B hX hbl hbA (by decide) (show ¬ ((4 : Int32) < 0 ∨ 6 ≤ (4 : Int32).toNatClampNeg) by decide) h_x4 dL_law_172 ?_
  refine z_aload_n B dL_law_173 rfl 4 rfl ?_
  refine z_iload B dL_law_174 0 rfl ?_
  refine z_iconst (v := 5) B dL_law_176 (by decide) ?_
  refine z_iadd B dL_law_177 ?_
  refine z_seti (y := 5) (by decide) ?_
  refine z_sld (j := 5) (x := x5) B hX hbl hbA (by decide) (show ¬ ((5 : Int32) < 0 ∨ 6 ≤ (5 : Int32).toNatClampNeg) by decide) h_x5 dL_law_178 ?_
  refine z_aload_n B dL_law_179 rfl 1 rfl ?_
  refine z_cSWi (As := [.ref (b + 0), .int 5, .int x2, .int x3, .int x4, .int x5, .ref (b + 431)]) (rest := []) B cw_L_74 dL_law_180 (ci_L_set_338 l hlt (σ := (ap b σ [] [] [])) (b := b) (lyA hK) x2 x3 x4 x5 q1_x2 q2_x2 q1_x3 q2_x3 q1_x4 q2_x4 q1_x5 q2_x5 (rR_at 0 0 (fz_R hF 0 0 rfl rfl)) (rR_at 1 5 (fz_R hF 1 5 rfl rfl))) rfl (by decide) rfl (Nat.le_of_ble_eq_true rfl) (by decide) (fun r u hu => ?_)
  obtain ⟨hu1, z, hu⟩ := hu
  refine z_eqs (σ' := (ap b (wx_Z σ z) [] [] [])) (hu.trans az_ap) ?_
  show zx p l e _ s m _ below meth c g 8 _ _ _ _ 183 [(4, .int 0), (3, .ref (b + 431)), (2, .ref (b + 405)), (1, .ref (b + 0)), (0, .ref bS)] _
  refine z_seti (y := 2) hu1 ?_
  refine z_istore (lv' := [(5, .int 2), (4, .int 0), (3, .ref (b + 431)), (2, .ref (b + 405)), (1, .ref (b + 0)), (0, .ref bS)]) B dL_law_183 (by decide) rfl ?_
  refine z_aload_n B dL_law_185 rfl 3 rfl ?_
  refine z_aload_n B dL_law_186 rfl 5 rfl ?_
  refine z_iload B dL_law_187 1 rfl ?_
  refine z_iconst (v := 1) B dL_law_189 (by decide) ?_
  refine z_iadd B dL_law_190 ?_
  refine z_seti (y := 1) (by decide) ?_
  refine z_sld (j := 1) (x := 5) B hX hbl hbA (by decide) (show ¬ ((1 : Int32) < 0 ∨ 6 ≤ (1 : Int32).toNatClampNeg) by decide) h_x1 dL_law_191 ?_
  refine z_aload_n B dL_law_192 rfl 5 rfl ?_
  refine z_iload B dL_law_193 1 rfl ?_
  refine z_iconst (v := 2) B dL_law_195 (by decide) ?_
  refine z_iadd B dL_law_196 ?_
  refine z_seti (y := 2) (by decide) ?_
  refine z_sld (j := 2) (x := x2) B hX hbl hbA (by decide) (show ¬ ((2 : Int32) < 0 ∨ 6 ≤ (2 : Int32).toNatClampNeg) by decide) h_x2 dL_law_197 ?_
  refine z_aload_n B dL_law_198 rfl 5 rfl ?_
  refine z_iload B dL_law_199 1 rfl ?_
  refine z_iconst (v := 3) B dL_law_201 (by decide) ?_
  refine z_iadd B dL_law_202 ?_
  refine z_seti (y := 3) (by decide) ?_
  refine z_sld (j := 3) (x := x3) B hX hbl hbA (by decide) (show ¬ ((3 : Int32) < 0 ∨ 6 ≤ (3 : Int32).toNatClampNeg) by decide) h_x3 dL_law_203 ?_
  refine z_aload_n B dL_law_204 rfl 5 rfl ?_
  refine z_iload B dL_law_205 1 rfl ?_
  refine z_iconst (v := 4) B dL_law_207 (by decide) ?_
  refine z_iadd B dL_law_208 ?_
  refine z_seti (y := 4) (by decide) ?_
  refine z_sld (j := 4) (x := x4) B hX hbl hbA (by decide) (show ¬ ((4 : Int32) < 0 ∨ 6 ≤ (4 : Int32).toNatClampNeg) by decide) h_x4 dL_law_209 ?_
  refine z_aload_n B dL_law_210 rfl 5 rfl ?_
  refine z_iload B dL_law_211 1 rfl ?_
  refine z_iconst (v := 5) B dL_law_213 (by decide) ?_
  refine z_iadd B dL_law_214 ?_
  refine z_seti (y := 5) (by decide) ?_
  refine z_sld (j := 5) (x := x5) B hX hbl hbA (by decide) (show ¬ ((5 : Int32) < 0 ∨ 6 ≤ (5 : Int32).toNatClampNeg) by decide) h_x5 dL_law_215 ?_
  refine z_cVi (As := [.int 5, .int x2, .int x3, .int x4, .int x5]) (rest := []) B cw_L_79 cx_10 dL_law_216 (ci_X9_set_339 l (σ := (ap b (wx_Z σ z) [] [] [])) (b := b) (lyA (lyZ hK)) x2 x3 x4 x5 q1_x2 q2_x2 q1_x3 q2_x3 q1_x4 q2_x4 q1_x5 q2_x5) (lKA (lKZ (hk_K hK 405 rfl rfl))) rfl (by decide) rfl (Nat.le_of_ble_eq_true rfl) (by decide) (fun r u hu => ?_)
  refine z_eqs (σ' := (ap b (wx_Z σ z) [(405, 0, 2)] [] [])) (hu.2.trans ap_ap) ?_
  show zx p l e _ s m _ below meth c g 8 _ _ _ _ 219 [(5, .int 2), (4, .int 0), (3, .ref (b + 431)), (2, .ref (b + 405)), (1, .ref (b + 0)), (0, .ref bS)] _
  refine z_seti (y := 0) hu.1 ?_
  refine z_istore (lv' := [(6, .int 0), (5, .int 2), (4, .int 0), (3, .ref (b + 431)), (2, .ref (b + 405)), (1, .ref (b + 0)), (0, .ref bS)]) B dL_law_219 (by decide) rfl ?_
  refine z_aload_n B dL_law_221 rfl 4 rfl ?_
  refine z_cVi (As := []) (rest := []) B cw_L_80 cx_10 dL_law_222 (ci_X9_thrown_73 l (σ := (ap b (wx_Z σ z) [(405, 0, 2)] [] [])) (b := b) (lyA (lyZ hK)) (rI_at 405 0 rfl)) (lKA (lKZ (hk_K hK 405 rfl rfl))) rfl (by decide) rfl (Nat.le_of_ble_eq_true rfl) (by decide) (fun r u hu => ?_)
  refine z_eqs (σ' := (ap b (wx_Z σ z) [(405, 0, 2)] [] [])) hu.2 ?_
  show zx p l e _ s m _ below meth c g 8 _ _ _ _ 225 [(6, .int 0), (5, .int 2), (4, .int 0), (3, .ref (b + 431)), (2, .ref (b + 405)), (1, .ref (b + 0)), (0, .ref bS)] _
  refine z_seti (y := 2) hu.1 ?_
  refine z_iload B dL_law_225 1 rfl ?_
  refine z_icmp_eq (tgt := 232) B dL_law_227 (by decide) (fun _ => ?_) (fun h => absurd (by decide) h)
  refine z_iload B dL_law_232 1 rfl ?_
  refine z_if_ne (tgt := 249) B dL_law_234 (by decide) (fun _ => ?_) (fun h => absurd h (by decide))
  refine z_goto (tgt := 1395) B dL_law_249 (by decide) ?_
  exact z_widen (Nat.le_of_ble_eq_true rfl) (Nat.le_of_ble_eq_true rfl) (z_sub _ [2, 6] rfl (kk _))
set_option maxRecDepth 100000 in
set_option maxHeartbeats 4000000 in
theorem lf_0_122 {p : Program} {l : Launch} {e : Env} {s : State} {m : MethodId} {args : Array Value} {below : List Frame} {meth : Method} {c : Code} {g : gx_T} {Q : State → Prop} {σ : sx_T} {b t bS : Nat} {xs : Nat → Int32} (hlt : l.stackTraces = false) (B : zx_B p s m args meth c code RL 8 g) (hX : va_X bS 6 xs s s.heap) (hbl : bS < s.heap.size) (hbA : ¬ gx_b g ≤ bS) (hF : fz_P b t σ) (h_x1 : xs 1 = 5) {x2 : Int32} (h_x2 : xs 2 = x2) (q1_x2 : (0 : Int) ≤ x2.toInt) (q2_x2 : x2.toInt ≤ (19 : Int)) {x3 : Int32} (h_x3 : xs 3 = x3) (q1_x3 : (0 : Int) ≤ x3.toInt) (q2_x3 : x3.toInt ≤ (17 : Int)) {x4 : Int32} (h_x4 : xs 4 = x4) (q1_x4 : (0 : Int) ≤ x4.toInt) (q2_x4 : x4.toInt ≤ (99 : Int)) {x5 : Int32} (h_x5 : xs 5 = x5) (q1_x5 : (0 : Int) ≤ x5.toInt) (q2_x5 : x5.toInt ≤ (99 : Int)) (kk : ∀ σ', zx p l e room_1 s m args below meth c g 8 600002 7302232 Q σ' 1395 [(4, .int 0), (0, .ref bS)] []) : zx p l e room_1 s m args below meth c g 8 500 100000 Q σ 148 [(4, .int 0), (3, .ref (b + 431)), (2, .ref (b + 405)), (1, .ref (b + 0)), (0, .ref bS)] [] := by
  have hK := fz_lay hF
  refine z_eqs (σ' := (ap b σ [] [] [])) rfl ?_
  refine z_aload_n B dL_law_148 rfl 3 rfl ?_
  refine z_aload_n B dL_law_149 rfl 4 rfl ?_
  refine z_iload B dL_law_150 0 rfl ?_
  refine z_iconst (v := 1) B dL_law_152 (by decide) ?_
  refine z_iadd B dL_law_153 ?_
  refine z_seti (y := 1) (by decide) ?_
  refine z_sld (j := 1) (x := 5) B hX hbl hbA (by decide) (show ¬ ((1 : Int32) < 0 ∨ 6 ≤ (1 : Int32).toNatClampNeg) by decide) h_x1 dL_law_154 ?_
  refine z_aload_n B dL_law_155 rfl 4 rfl ?_
  refine z_iload B dL_law_156 0 rfl ?_
  refine z_iconst (v := 2) B dL_law_158 (by decide) ?_
  refine z_iadd B dL_law_159 ?_
  refine z_seti (y := 2) (by decide) ?_
  refine z_sld (j := 2) (x := x2) B hX hbl hbA (by decide) (show ¬ ((2 : Int32) < 0 ∨ 6 ≤ (2 : Int32).toNatClampNeg) by decide) h_x2 dL_law_160 ?_
  refine z_aload_n B dL_law_161 rfl 4 rfl ?_
  refine z_iload B dL_law_162 0 rfl ?_
  refine z_iconst (v := 3) B dL_law_164 (by decide) ?_
  refine z_iadd B dL_law_165 ?_
  refine z_seti (y := 3) (by decide) ?_
  refine z_sld (j := 3) (x := x3) B hX hbl hbA (by decide) (show ¬ ((3 : Int32) < 0 ∨ 6 ≤ (3 : Int32).toNatClampNeg) by decide) h_x3 dL_law_166 ?_
  refine z_aload_n B dL_law_167 rfl 4 rfl ?_
  refine z_iload B dL_law_168 0 rfl ?_
  refine z_iconst (v := 4) B dL_law_170 (by decide) ?_
  refine z_iadd B dL_law_171 ?_
  refine z_seti (y := 4) (by decide) ?_
  refine z_sld (j := 4) (x := x4) B hX hbl hbA (by decide) (show ¬ ((4 : Int32) < 0 ∨ 6 ≤ (4 : Int32).toNatClampNeg) by decide) h_x4 dL_law_172 ?_
  refine z_aload_n B dL_law_173 rfl 4 rfl ?_
  refine z_iload B dL_law_174 0 rfl ?_
  refine z_iconst (v := 5) B dL_law_176 (by decide) ?_
  refine z_iadd B dL_law_177 ?_
  refine z_seti (y := 5) (by decide) ?_
  refine z_sld (j := 5) (x := x5) B hX hbl hbA (by decide) (show ¬ ((5 : Int32) < 0 ∨ 6 ≤ (5 : Int32).toNatClampNeg) by decide) h_x5 dL_law_178 ?_
  refine z_aload_n B dL_law_179 rfl 1 rfl ?_
  refine z_cSWi (As := [.ref (b + 0), .int 5, .int x2, .int x3, .int x4, .int x5, .ref (b + 431)]) (rest := []) B cw_L_74 dL_law_180 (ci_L_set_344 l (σ := (ap b σ [] [] [])) (b := b) (lyA hK) x2 x3 x4 x5 q1_x2 q2_x2 q1_x3 q2_x3 q1_x4 q2_x4 q1_x5 q2_x5 (rI_at 0 7 (fz_I hF 0 7 rfl rfl)) (rR_at 0 0 (fz_R hF 0 0 rfl rfl)) (rR_at 1 5 (fz_R hF 1 5 rfl rfl)) (rR_at 29 1 (fz_R hF 29 1 rfl rfl)) (rR_at 29 2 (fz_R hF 29 2 rfl rfl)) (rR_at 29 3 (fz_R hF 29 3 rfl rfl))) rfl (by decide) rfl (Nat.le_of_ble_eq_true rfl) (by decide) (fun r u hu => ?_)
  refine z_eqs (σ' := (ap b (wx_I (ap b (wx_I (ap b (wx_I (ap b (ap b (ap b (ap b σ [] [] []) [] [] []) [] [] []) [] [] []) (b + 30) x2.toNatClampNeg x3) [] [] []) (b + 31) x2.toNatClampNeg x4) [] [] []) (b + 32) x2.toNatClampNeg x5) [] [(431, 0, 0)] [])) hu.2 ?_
  show zx p l e _ s m _ below meth c g 8 _ _ _ _ 183 [(4, .int 0), (3, .ref (b + 431)), (2, .ref (b + 405)), (1, .ref (b + 0)), (0, .ref bS)] _
  refine z_seti (y := 0) hu.1 ?_
  refine z_istore (lv' := [(5, .int 0), (4, .int 0), (3, .ref (b + 431)), (2, .ref (b + 405)), (1, .ref (b + 0)), (0, .ref bS)]) B dL_law_183 (by decide) rfl ?_
  refine z_aload_n B dL_law_185 rfl 3 rfl ?_
  refine z_aload_n B dL_law_186 rfl 5 rfl ?_
  refine z_iload B dL_law_187 1 rfl ?_
  refine z_iconst (v := 1) B dL_law_189 (by decide) ?_
  refine z_iadd B dL_law_190 ?_
  refine z_seti (y := 1) (by decide) ?_
  refine z_sld (j := 1) (x := 5) B hX hbl hbA (by decide) (show ¬ ((1 : Int32) < 0 ∨ 6 ≤ (1 : Int32).toNatClampNeg) by decide) h_x1 dL_law_191 ?_
  refine z_aload_n B dL_law_192 rfl 5 rfl ?_
  refine z_iload B dL_law_193 1 rfl ?_
  refine z_iconst (v := 2) B dL_law_195 (by decide) ?_
  refine z_iadd B dL_law_196 ?_
  refine z_seti (y := 2) (by decide) ?_
  refine z_sld (j := 2) (x := x2) B hX hbl hbA (by decide) (show ¬ ((2 : Int32) < 0 ∨ 6 ≤ (2 : Int32).toNatClampNeg) by decide) h_x2 dL_law_197 ?_
  refine z_aload_n B dL_law_198 rfl 5 rfl ?_
  refine z_iload B dL_law_199 1 rfl ?_
  refine z_iconst (v := 3) B dL_law_201 (by decide) ?_
  refine z_iadd B dL_law_202 ?_
  refine z_seti (y := 3) (by decide) ?_
  refine z_sld (j := 3) (x := x3) B hX hbl hbA (by decide) (show ¬ ((3 : Int32) < 0 ∨ 6 ≤ (3 : Int32).toNatClampNeg) by decide) h_x3 dL_law_203 ?_
  refine z_aload_n B dL_law_204 rfl 5 rfl ?_
  refine z_iload B dL_law_205 1 rfl ?_
  refine z_iconst (v := 4) B dL_law_207 (by decide) ?_
  refine z_iadd B dL_law_208 ?_
  refine z_seti (y := 4) (by decide) ?_
  refine z_sld (j := 4) (x := x4) B hX hbl hbA (by decide) (show ¬ ((4 : Int32) < 0 ∨ 6 ≤ (4 : Int32).toNatClampNeg) by decide) h_x4 dL_law_209 ?_
  refine z_aload_n B dL_law_210 rfl 5 rfl ?_
  refine z_iload B dL_law_211 1 rfl ?_
  refine z_iconst (v := 5) B dL_law_213 (by decide) ?_
  refine z_iadd B dL_law_214 ?_
  refine z_seti (y := 5) (by decide) ?_
  refine z_sld (j := 5) (x := x5) B hX hbl hbA (by decide) (show ¬ ((5 : Int32) < 0 ∨ 6 ≤ (5 : Int32).toNatClampNeg) by decide) h_x5 dL_law_215 ?_
  refine z_cVi (As := [.int 5, .int x2, .int x3, .int x4, .int x5]) (rest := []) B cw_L_79 cx_10 dL_law_216 (ci_X9_set_347 l (σ := (ap b (wx_I (ap b (wx_I (ap b (wx_I (ap b (ap b (ap b (ap b σ [] [] []) [] [] []) [] [] []) [] [] []) (b + 30) x2.toNatClampNeg x3) [] [] []) (b + 31) x2.toNatClampNeg x4) [] [] []) (b + 32) x2.toNatClampNeg x5) [] [(431, 0, 0)] [])) (b := b) (lyA (lyW (lyA (lyW (lyA (lyW (lyA (lyA (lyA (lyA hK)))))))))) x2 x3 x4 x5 q1_x2 q2_x2 q1_x3 q2_x3 q1_x4 q2_x4 q1_x5 q2_x5 (rI_at 405 6 ((ux_a (by omega)).trans (rI_at 405 6 ((ux_a (by omega)).trans (rI_at 405 6 ((ux_a (by omega)).trans (rI_at 405 6 (rI_at 405 6 (rI_at 405 6 (rI_at 405 6 (fz_I hF 405 6 rfl rfl))))))))))) (rR_at 405 3 (rR_w (rR_at 405 3 (rR_w (rR_at 405 3 (rR_w (rR_at 405 3 (rR_at 405 3 (rR_at 405 3 (rR_at 405 3 (fz_R hF 405 3 rfl rfl))))))))))) (rR_at 405 4 (rR_w (rR_at 405 4 (rR_w (rR_at 405 4 (rR_w (rR_at 405 4 (rR_at 405 4 (rR_at 405 4 (rR_at 405 4 (fz_R hF 405 4 rfl rfl))))))))))) (rR_at 405 5 (rR_w (rR_at 405 5 (rR_w (rR_at 405 5 (rR_w (rR_at 405 5 (rR_at 405 5 (rR_at 405 5 (rR_at 405 5 (fz_R hF 405 5 rfl rfl)))))))))))) (lKA (lKW (lKA (lKW (lKA (lKW (lKA (lKA (lKA (lKA (hk_K hK 405 rfl rfl))))))))))) rfl (by decide) rfl (Nat.le_of_ble_eq_true rfl) (by decide) (fun r u hu => ?_)
  refine z_eqs (σ' := (ap b (wx_I (ap b (wx_I (ap b (wx_I (ap b (ap b (ap b (wx_I (ap b (wx_I (ap b (wx_I (ap b (ap b (ap b (ap b σ [] [] []) [] [] []) [] [] []) [] [] []) (b + 30) x2.toNatClampNeg x3) [] [] []) (b + 31) x2.toNatClampNeg x4) [] [] []) (b + 32) x2.toNatClampNeg x5) [] [(431, 0, 0)] []) [(405, 0, 0)] [] []) [] [] []) (b + 406) (100 + x2).toNatClampNeg x3) [] [] []) (b + 407) (100 + x2).toNatClampNeg x4) [] [] []) (b + 408) (100 + x2).toNatClampNeg x5) [] [] [])) hu.2 ?_
  show zx p l e _ s m _ below meth c g 8 _ _ _ _ 219 [(5, .int 0), (4, .int 0), (3, .ref (b + 431)), (2, .ref (b + 405)), (1, .ref (b + 0)), (0, .ref bS)] _
  refine z_seti (y := 0) hu.1 ?_
  refine z_istore (lv' := [(6, .int 0), (5, .int 0), (4, .int 0), (3, .ref (b + 431)), (2, .ref (b + 405)), (1, .ref (b + 0)), (0, .ref bS)]) B dL_law_219 (by decide) rfl ?_
  refine z_aload_n B dL_law_221 rfl 4 rfl ?_
  refine z_cVi (As := []) (rest := []) B cw_L_80 cx_10 dL_law_222 (ci_X9_thrown_95 l (σ := (ap b (wx_I (ap b (wx_I (ap b (wx_I (ap b (ap b (ap b (wx_I (ap b (wx_I (ap b (wx_I (ap b (ap b (ap b (ap b σ [] [] []) [] [] []) [] [] []) [] [] []) (b + 30) x2.toNatClampNeg x3) [] [] []) (b + 31) x2.toNatClampNeg x4) [] [] []) (b + 32) x2.toNatClampNeg x5) [] [(431, 0, 0)] []) [(405, 0, 0)] [] []) [] [] []) (b + 406) (100 + x2).toNatClampNeg x3) [] [] []) (b + 407) (100 + x2).toNatClampNeg x4) [] [] []) (b + 408) (100 + x2).toNatClampNeg x5) [] [] [])) (b := b) (lyA (lyW (lyA (lyW (lyA (lyW (lyA (lyA (lyA (lyW (lyA (lyW (lyA (lyW (lyA (lyA (lyA (lyA hK)))))))))))))))))) (rI_at 405 0 ((ux_a (by omega)).trans (rI_at 405 0 ((ux_a (by omega)).trans (rI_at 405 0 ((ux_a (by omega)).trans (rI_at 405 0 (rI_at 405 0 rfl))))))))) (lKA (lKW (lKA (lKW (lKA (lKW (lKA (lKA (lKA (lKW (lKA (lKW (lKA (lKW (lKA (lKA (lKA (lKA (hk_K hK 405 rfl rfl))))))))))))))))))) rfl (by decide) rfl (Nat.le_of_ble_eq_true rfl) (by decide) (fun r u hu => ?_)
  refine z_eqs (σ' := (ap b (wx_I (ap b (wx_I (ap b (wx_I (ap b (ap b (ap b (wx_I (ap b (wx_I (ap b (wx_I (ap b (ap b (ap b (ap b σ [] [] []) [] [] []) [] [] []) [] [] []) (b + 30) x2.toNatClampNeg x3) [] [] []) (b + 31) x2.toNatClampNeg x4) [] [] []) (b + 32) x2.toNatClampNeg x5) [] [(431, 0, 0)] []) [(405, 0, 0)] [] []) [] [] []) (b + 406) (100 + x2).toNatClampNeg x3) [] [] []) (b + 407) (100 + x2).toNatClampNeg x4) [] [] []) (b + 408) (100 + x2).toNatClampNeg x5) [] [] [])) hu.2 ?_
  show zx p l e _ s m _ below meth c g 8 _ _ _ _ 225 [(6, .int 0), (5, .int 0), (4, .int 0), (3, .ref (b + 431)), (2, .ref (b + 405)), (1, .ref (b + 0)), (0, .ref bS)] _
  refine z_seti (y := 0) hu.1 ?_
  refine z_iload B dL_law_225 1 rfl ?_
  refine z_icmp_eq (tgt := 232) B dL_law_227 (by decide) (fun _ => ?_) (fun h => absurd (by decide) h)
  refine z_iload B dL_law_232 1 rfl ?_
  refine z_if_ne (tgt := 249) B dL_law_234 (by decide) (fun h => absurd (by decide) h) (fun _ => ?_)
  refine z_aload_n B dL_law_237 rfl 3 rfl ?_
  refine z_iconst (v := 0) B dL_law_238 (by decide) ?_
  refine z_lald (j := 0) (x := 0) B (lKA (lKW (lKA (lKW (lKA (lKW (lKA (lKA (lKA (lKW (lKA (lKW (lKA (lKW (lKA (lKA (lKA (lKA (hk_K hK 431 rfl rfl))))))))))))))))))) (by decide) (in_of (lNA (lNW (lNA (lNW (lNA (lNW (lNA (lNA (lNA (lNW (lNA (lNW (lNA (lNW (lNA (lNA (lNA (lNA (hk_N hK 431 rfl rfl))))))))))))))))))) (show ¬ ((0 : Int32) < 0 ∨ 1 ≤ (0 : Int32).toNatClampNeg) by decide)) (rJ_at 431 0 (rJ_w (rJ_at 431 0 (rJ_w (rJ_at 431 0 (rJ_w (rJ_at 431 0 (rJ_at 431 0 (rJ_at 431 0 rfl))))))))) dL_law_239 ?_
  refine z_iload B dL_law_240 0 rfl ?_
  refine z_i2l (v := 0) B dL_law_242 (by decide) ?_
  refine z_lcmp (v := 0) B dL_law_243 (by decide) ?_
  refine z_if_eq (tgt := 249) B dL_law_244 (by decide) (fun _ => ?_) (fun h => absurd (by decide) h)
  refine z_goto (tgt := 1395) B dL_law_249 (by decide) ?_
  exact z_widen (Nat.le_of_ble_eq_true rfl) (Nat.le_of_ble_eq_true rfl) (z_sub _ [2, 6] rfl (kk _))
set_option maxRecDepth 100000 in
set_option maxHeartbeats 4000000 in
theorem lf_0_123 {p : Program} {l : Launch} {e : Env} {s : State} {m : MethodId} {args : Array Value} {below : List Frame} {meth : Method} {c : Code} {g : gx_T} {Q : State → Prop} {σ : sx_T} {b t bS : Nat} {xs : Nat → Int32} (hlt : l.stackTraces = false) (B : zx_B p s m args meth c code RL 8 g) (hX : va_X bS 6 xs s s.heap) (hbl : bS < s.heap.size) (hbA : ¬ gx_b g ≤ bS) (hF : fz_P b t σ) (h_x1 : xs 1 = 5) {x2 : Int32} (h_x2 : xs 2 = x2) (q1_x2 : (0 : Int) ≤ x2.toInt) (q2_x2 : x2.toInt ≤ (19 : Int)) {x3 : Int32} (h_x3 : xs 3 = x3) (q1_x3 : (0 : Int) ≤ x3.toInt) (q2_x3 : x3.toInt ≤ (17 : Int)) {x4 : Int32} (h_x4 : xs 4 = x4) (q1_x4 : (0 : Int) ≤ x4.toInt) (q2_x4 : x4.toInt ≤ (99 : Int)) {x5 : Int32} (h_x5 : xs 5 = x5) (q1_x5 : (100 : Int) ≤ x5.toInt) (q2_x5 : x5.toInt ≤ (2147483647 : Int)) (kk : ∀ σ', zx p l e room_1 s m args below meth c g 8 600002 7302232 Q σ' 1395 [(4, .int 0), (0, .ref bS)] []) : zx p l e room_1 s m args below meth c g 8 500 100000 Q σ 148 [(4, .int 0), (3, .ref (b + 431)), (2, .ref (b + 405)), (1, .ref (b + 0)), (0, .ref bS)] [] := by
  have hK := fz_lay hF
  refine z_eqs (σ' := (ap b σ [] [] [])) rfl ?_
  refine z_aload_n B dL_law_148 rfl 3 rfl ?_
  refine z_aload_n B dL_law_149 rfl 4 rfl ?_
  refine z_iload B dL_law_150 0 rfl ?_
  refine z_iconst (v := 1) B dL_law_152 (by decide) ?_
  refine z_iadd B dL_law_153 ?_
  refine z_seti (y := 1) (by decide) ?_
  refine z_sld (j := 1) (x := 5) B hX hbl hbA (by decide) (show ¬ ((1 : Int32) < 0 ∨ 6 ≤ (1 : Int32).toNatClampNeg) by decide) h_x1 dL_law_154 ?_
  refine z_aload_n B dL_law_155 rfl 4 rfl ?_
  refine z_iload B dL_law_156 0 rfl ?_
  refine z_iconst (v := 2) B dL_law_158 (by decide) ?_
  refine z_iadd B dL_law_159 ?_
  refine z_seti (y := 2) (by decide) ?_
  refine z_sld (j := 2) (x := x2) B hX hbl hbA (by decide) (show ¬ ((2 : Int32) < 0 ∨ 6 ≤ (2 : Int32).toNatClampNeg) by decide) h_x2 dL_law_160 ?_
  refine z_aload_n B dL_law_161 rfl 4 rfl ?_
  refine z_iload B dL_law_162 0 rfl ?_
  refine z_iconst (v := 3) B dL_law_164 (by decide) ?_
  refine z_iadd B dL_law_165 ?_
  refine z_seti (y := 3) (by decide) ?_
  refine z_sld (j := 3) (x := x3) B hX hbl hbA (by decide) (show ¬ ((3 : Int32) < 0 ∨ 6 ≤ (3 : Int32).toNatClampNeg) by decide) h_x3 dL_law_166 ?_
  refine z_aload_n B dL_law_167 rfl 4 rfl ?_
  refine z_iload B dL_law_168 0 rfl ?_
  refine z_iconst (v := 4) B dL_law_170 (by decide) ?_
  refine z_iadd B dL_law_171 ?_
  refine z_seti (y := 4) (by decide) ?_
  refine z_sld (j := 4) (x := x4) B hX hbl hbA (by decide) (show ¬ ((4 : Int32) < 0 ∨ 6 ≤ (4 : Int32).toNatClampNeg) by decide) h_x4 dL_law_172 ?_
  refine z_aload_n B dL_law_173 rfl 4 rfl ?_
  refine z_iload B dL_law_174 0 rfl ?_
  refine z_iconst (v := 5) B dL_law_176 (by decide) ?_
  refine z_iadd B dL_law_177 ?_
  refine z_seti (y := 5) (by decide) ?_
  refine z_sld (j := 5) (x := x5) B hX hbl hbA (by decide) (show ¬ ((5 : Int32) < 0 ∨ 6 ≤ (5 : Int32).toNatClampNeg) by decide) h_x5 dL_law_178 ?_
  refine z_aload_n B dL_law_179 rfl 1 rfl ?_
  refine z_cSWi (As := [.ref (b + 0), .int 5, .int x2, .int x3, .int x4, .int x5, .ref (b + 431)]) (rest := []) B cw_L_74 dL_law_180 (ci_L_set_349 l hlt (σ := (ap b σ [] [] [])) (b := b) (lyA hK) x2 x3 x4 x5 q1_x2 q2_x2 q1_x3 q2_x3 q1_x4 q2_x4 q1_x5 q2_x5 (rR_at 0 0 (fz_R hF 0 0 rfl rfl)) (rR_at 1 5 (fz_R hF 1 5 rfl rfl))) rfl (by decide) rfl (Nat.le_of_ble_eq_true rfl) (by decide) (fun r u hu => ?_)
  obtain ⟨hu1, z, hu⟩ := hu
  refine z_eqs (σ' := (ap b (wx_Z σ z) [] [] [])) (hu.trans az_ap) ?_
  show zx p l e _ s m _ below meth c g 8 _ _ _ _ 183 [(4, .int 0), (3, .ref (b + 431)), (2, .ref (b + 405)), (1, .ref (b + 0)), (0, .ref bS)] _
  refine z_seti (y := 2) hu1 ?_
  refine z_istore (lv' := [(5, .int 2), (4, .int 0), (3, .ref (b + 431)), (2, .ref (b + 405)), (1, .ref (b + 0)), (0, .ref bS)]) B dL_law_183 (by decide) rfl ?_
  refine z_aload_n B dL_law_185 rfl 3 rfl ?_
  refine z_aload_n B dL_law_186 rfl 5 rfl ?_
  refine z_iload B dL_law_187 1 rfl ?_
  refine z_iconst (v := 1) B dL_law_189 (by decide) ?_
  refine z_iadd B dL_law_190 ?_
  refine z_seti (y := 1) (by decide) ?_
  refine z_sld (j := 1) (x := 5) B hX hbl hbA (by decide) (show ¬ ((1 : Int32) < 0 ∨ 6 ≤ (1 : Int32).toNatClampNeg) by decide) h_x1 dL_law_191 ?_
  refine z_aload_n B dL_law_192 rfl 5 rfl ?_
  refine z_iload B dL_law_193 1 rfl ?_
  refine z_iconst (v := 2) B dL_law_195 (by decide) ?_
  refine z_iadd B dL_law_196 ?_
  refine z_seti (y := 2) (by decide) ?_
  refine z_sld (j := 2) (x := x2) B hX hbl hbA (by decide) (show ¬ ((2 : Int32) < 0 ∨ 6 ≤ (2 : Int32).toNatClampNeg) by decide) h_x2 dL_law_197 ?_
  refine z_aload_n B dL_law_198 rfl 5 rfl ?_
  refine z_iload B dL_law_199 1 rfl ?_
  refine z_iconst (v := 3) B dL_law_201 (by decide) ?_
  refine z_iadd B dL_law_202 ?_
  refine z_seti (y := 3) (by decide) ?_
  refine z_sld (j := 3) (x := x3) B hX hbl hbA (by decide) (show ¬ ((3 : Int32) < 0 ∨ 6 ≤ (3 : Int32).toNatClampNeg) by decide) h_x3 dL_law_203 ?_
  refine z_aload_n B dL_law_204 rfl 5 rfl ?_
  refine z_iload B dL_law_205 1 rfl ?_
  refine z_iconst (v := 4) B dL_law_207 (by decide) ?_
  refine z_iadd B dL_law_208 ?_
  refine z_seti (y := 4) (by decide) ?_
  refine z_sld (j := 4) (x := x4) B hX hbl hbA (by decide) (show ¬ ((4 : Int32) < 0 ∨ 6 ≤ (4 : Int32).toNatClampNeg) by decide) h_x4 dL_law_209 ?_
  refine z_aload_n B dL_law_210 rfl 5 rfl ?_
  refine z_iload B dL_law_211 1 rfl ?_
  refine z_iconst (v := 5) B dL_law_213 (by decide) ?_
  refine z_iadd B dL_law_214 ?_
  refine z_seti (y := 5) (by decide) ?_
  refine z_sld (j := 5) (x := x5) B hX hbl hbA (by decide) (show ¬ ((5 : Int32) < 0 ∨ 6 ≤ (5 : Int32).toNatClampNeg) by decide) h_x5 dL_law_215 ?_
  refine z_cVi (As := [.int 5, .int x2, .int x3, .int x4, .int x5]) (rest := []) B cw_L_79 cx_10 dL_law_216 (ci_X9_set_350 l (σ := (ap b (wx_Z σ z) [] [] [])) (b := b) (lyA (lyZ hK)) x2 x3 x4 x5 q1_x2 q2_x2 q1_x3 q2_x3 q1_x4 q2_x4 q1_x5 q2_x5) (lKA (lKZ (hk_K hK 405 rfl rfl))) rfl (by decide) rfl (Nat.le_of_ble_eq_true rfl) (by decide) (fun r u hu => ?_)
  refine z_eqs (σ' := (ap b (wx_Z σ z) [(405, 0, 2)] [] [])) (hu.2.trans ap_ap) ?_
  show zx p l e _ s m _ below meth c g 8 _ _ _ _ 219 [(5, .int 2), (4, .int 0), (3, .ref (b + 431)), (2, .ref (b + 405)), (1, .ref (b + 0)), (0, .ref bS)] _
  refine z_seti (y := 0) hu.1 ?_
  refine z_istore (lv' := [(6, .int 0), (5, .int 2), (4, .int 0), (3, .ref (b + 431)), (2, .ref (b + 405)), (1, .ref (b + 0)), (0, .ref bS)]) B dL_law_219 (by decide) rfl ?_
  refine z_aload_n B dL_law_221 rfl 4 rfl ?_
  refine z_cVi (As := []) (rest := []) B cw_L_80 cx_10 dL_law_222 (ci_X9_thrown_73 l (σ := (ap b (wx_Z σ z) [(405, 0, 2)] [] [])) (b := b) (lyA (lyZ hK)) (rI_at 405 0 rfl)) (lKA (lKZ (hk_K hK 405 rfl rfl))) rfl (by decide) rfl (Nat.le_of_ble_eq_true rfl) (by decide) (fun r u hu => ?_)
  refine z_eqs (σ' := (ap b (wx_Z σ z) [(405, 0, 2)] [] [])) hu.2 ?_
  show zx p l e _ s m _ below meth c g 8 _ _ _ _ 225 [(6, .int 0), (5, .int 2), (4, .int 0), (3, .ref (b + 431)), (2, .ref (b + 405)), (1, .ref (b + 0)), (0, .ref bS)] _
  refine z_seti (y := 2) hu.1 ?_
  refine z_iload B dL_law_225 1 rfl ?_
  refine z_icmp_eq (tgt := 232) B dL_law_227 (by decide) (fun _ => ?_) (fun h => absurd (by decide) h)
  refine z_iload B dL_law_232 1 rfl ?_
  refine z_if_ne (tgt := 249) B dL_law_234 (by decide) (fun _ => ?_) (fun h => absurd h (by decide))
  refine z_goto (tgt := 1395) B dL_law_249 (by decide) ?_
  exact z_widen (Nat.le_of_ble_eq_true rfl) (Nat.le_of_ble_eq_true rfl) (z_sub _ [2, 6] rfl (kk _))
set_option maxRecDepth 100000 in
set_option maxHeartbeats 4000000 in
theorem lf_0_124 {p : Program} {l : Launch} {e : Env} {s : State} {m : MethodId} {args : Array Value} {below : List Frame} {meth : Method} {c : Code} {g : gx_T} {Q : State → Prop} {σ : sx_T} {b t bS : Nat} {xs : Nat → Int32} (hlt : l.stackTraces = false) (B : zx_B p s m args meth c code RL 8 g) (hX : va_X bS 6 xs s s.heap) (hbl : bS < s.heap.size) (hbA : ¬ gx_b g ≤ bS) (hF : fz_P b t σ) (h_x1 : xs 1 = 5) {x2 : Int32} (h_x2 : xs 2 = x2) (q1_x2 : (0 : Int) ≤ x2.toInt) (q2_x2 : x2.toInt ≤ (19 : Int)) {x3 : Int32} (h_x3 : xs 3 = x3) (q1_x3 : (0 : Int) ≤ x3.toInt) (q2_x3 : x3.toInt ≤ (17 : Int)) {x4 : Int32} (h_x4 : xs 4 = x4) (q1_x4 : (100 : Int) ≤ x4.toInt) (q2_x4 : x4.toInt ≤ (2147483647 : Int)) {x5 : Int32} (h_x5 : xs 5 = x5) (q1_x5 : (-2147483648 : Int) ≤ x5.toInt) (q2_x5 : x5.toInt ≤ (2147483647 : Int)) (kk : ∀ σ', zx p l e room_1 s m args below meth c g 8 600002 7302232 Q σ' 1395 [(4, .int 0), (0, .ref bS)] []) : zx p l e room_1 s m args below meth c g 8 500 100000 Q σ 148 [(4, .int 0), (3, .ref (b + 431)), (2, .ref (b + 405)), (1, .ref (b + 0)), (0, .ref bS)] [] := by
  have hK := fz_lay hF
  refine z_eqs (σ' := (ap b σ [] [] [])) rfl ?_
  refine z_aload_n B dL_law_148 rfl 3 rfl ?_
  refine z_aload_n B dL_law_149 rfl 4 rfl ?_
  refine z_iload B dL_law_150 0 rfl ?_
  refine z_iconst (v := 1) B dL_law_152 (by decide) ?_
  refine z_iadd B dL_law_153 ?_
  refine z_seti (y := 1) (by decide) ?_
  refine z_sld (j := 1) (x := 5) B hX hbl hbA (by decide) (show ¬ ((1 : Int32) < 0 ∨ 6 ≤ (1 : Int32).toNatClampNeg) by decide) h_x1 dL_law_154 ?_
  refine z_aload_n B dL_law_155 rfl 4 rfl ?_
  refine z_iload B dL_law_156 0 rfl ?_
  refine z_iconst (v := 2) B dL_law_158 (by decide) ?_
  refine z_iadd B dL_law_159 ?_
  refine z_seti (y := 2) (by decide) ?_
  refine z_sld (j := 2) (x := x2) B hX hbl hbA (by decide) (show ¬ ((2 : Int32) < 0 ∨ 6 ≤ (2 : Int32).toNatClampNeg) by decide) h_x2 dL_law_160 ?_
  refine z_aload_n B dL_law_161 rfl 4 rfl ?_
  refine z_iload B dL_law_162 0 rfl ?_
  refine z_iconst (v := 3) B dL_law_164 (by decide) ?_
  refine z_iadd B dL_law_165 ?_
  refine z_seti (y := 3) (by decide) ?_
  refine z_sld (j := 3) (x := x3) B hX hbl hbA (by decide) (show ¬ ((3 : Int32) < 0 ∨ 6 ≤ (3 : Int32).toNatClampNeg) by decide) h_x3 dL_law_166 ?_
  refine z_aload_n B dL_law_167 rfl 4 rfl ?_
  refine z_iload B dL_law_168 0 rfl ?_
  refine z_iconst (v := 4) B dL_law_170 (by decide) ?_
  refine z_iadd B dL_law_171 ?_
  refine z_seti (y := 4) (by decide) ?_
  refine z_sld (j := 4) (x := x4) B hX hbl hbA (by decide) (show ¬ ((4 : Int32) < 0 ∨ 6 ≤ (4 : Int32).toNatClampNeg) by decide) h_x4 dL_law_172 ?_
  refine z_aload_n B dL_law_173 rfl 4 rfl ?_
  refine z_iload B dL_law_174 0 rfl ?_
  refine z_iconst (v := 5) B dL_law_176 (by decide) ?_
  refine z_iadd B dL_law_177 ?_
  refine z_seti (y := 5) (by decide) ?_
  refine z_sld (j := 5) (x := x5) B hX hbl hbA (by decide) (show ¬ ((5 : Int32) < 0 ∨ 6 ≤ (5 : Int32).toNatClampNeg) by decide) h_x5 dL_law_178 ?_
  refine z_aload_n B dL_law_179 rfl 1 rfl ?_
  refine z_cSWi (As := [.ref (b + 0), .int 5, .int x2, .int x3, .int x4, .int x5, .ref (b + 431)]) (rest := []) B cw_L_74 dL_law_180 (ci_L_set_352 l hlt (σ := (ap b σ [] [] [])) (b := b) (lyA hK) x2 x3 x4 x5 q1_x2 q2_x2 q1_x3 q2_x3 q1_x4 q2_x4 (rR_at 0 0 (fz_R hF 0 0 rfl rfl)) (rR_at 1 5 (fz_R hF 1 5 rfl rfl))) rfl (by decide) rfl (Nat.le_of_ble_eq_true rfl) (by decide) (fun r u hu => ?_)
  obtain ⟨hu1, z, hu⟩ := hu
  refine z_eqs (σ' := (ap b (wx_Z σ z) [] [] [])) (hu.trans az_ap) ?_
  show zx p l e _ s m _ below meth c g 8 _ _ _ _ 183 [(4, .int 0), (3, .ref (b + 431)), (2, .ref (b + 405)), (1, .ref (b + 0)), (0, .ref bS)] _
  refine z_seti (y := 2) hu1 ?_
  refine z_istore (lv' := [(5, .int 2), (4, .int 0), (3, .ref (b + 431)), (2, .ref (b + 405)), (1, .ref (b + 0)), (0, .ref bS)]) B dL_law_183 (by decide) rfl ?_
  refine z_aload_n B dL_law_185 rfl 3 rfl ?_
  refine z_aload_n B dL_law_186 rfl 5 rfl ?_
  refine z_iload B dL_law_187 1 rfl ?_
  refine z_iconst (v := 1) B dL_law_189 (by decide) ?_
  refine z_iadd B dL_law_190 ?_
  refine z_seti (y := 1) (by decide) ?_
  refine z_sld (j := 1) (x := 5) B hX hbl hbA (by decide) (show ¬ ((1 : Int32) < 0 ∨ 6 ≤ (1 : Int32).toNatClampNeg) by decide) h_x1 dL_law_191 ?_
  refine z_aload_n B dL_law_192 rfl 5 rfl ?_
  refine z_iload B dL_law_193 1 rfl ?_
  refine z_iconst (v := 2) B dL_law_195 (by decide) ?_
  refine z_iadd B dL_law_196 ?_
  refine z_seti (y := 2) (by decide) ?_
  refine z_sld (j := 2) (x := x2) B hX hbl hbA (by decide) (show ¬ ((2 : Int32) < 0 ∨ 6 ≤ (2 : Int32).toNatClampNeg) by decide) h_x2 dL_law_197 ?_
  refine z_aload_n B dL_law_198 rfl 5 rfl ?_
  refine z_iload B dL_law_199 1 rfl ?_
  refine z_iconst (v := 3) B dL_law_201 (by decide) ?_
  refine z_iadd B dL_law_202 ?_
  refine z_seti (y := 3) (by decide) ?_
  refine z_sld (j := 3) (x := x3) B hX hbl hbA (by decide) (show ¬ ((3 : Int32) < 0 ∨ 6 ≤ (3 : Int32).toNatClampNeg) by decide) h_x3 dL_law_203 ?_
  refine z_aload_n B dL_law_204 rfl 5 rfl ?_
  refine z_iload B dL_law_205 1 rfl ?_
  refine z_iconst (v := 4) B dL_law_207 (by decide) ?_
  refine z_iadd B dL_law_208 ?_
  refine z_seti (y := 4) (by decide) ?_
  refine z_sld (j := 4) (x := x4) B hX hbl hbA (by decide) (show ¬ ((4 : Int32) < 0 ∨ 6 ≤ (4 : Int32).toNatClampNeg) by decide) h_x4 dL_law_209 ?_
  refine z_aload_n B dL_law_210 rfl 5 rfl ?_
  refine z_iload B dL_law_211 1 rfl ?_
  refine z_iconst (v := 5) B dL_law_213 (by decide) ?_
  refine z_iadd B dL_law_214 ?_
  refine z_seti (y := 5) (by decide) ?_
  refine z_sld (j := 5) (x := x5) B hX hbl hbA (by decide) (show ¬ ((5 : Int32) < 0 ∨ 6 ≤ (5 : Int32).toNatClampNeg) by decide) h_x5 dL_law_215 ?_
  refine z_cVi (As := [.int 5, .int x2, .int x3, .int x4, .int x5]) (rest := []) B cw_L_79 cx_10 dL_law_216 (ci_X9_set_353 l (σ := (ap b (wx_Z σ z) [] [] [])) (b := b) (lyA (lyZ hK)) x2 x3 x4 x5 q1_x2 q2_x2 q1_x3 q2_x3 q1_x4 q2_x4) (lKA (lKZ (hk_K hK 405 rfl rfl))) rfl (by decide) rfl (Nat.le_of_ble_eq_true rfl) (by decide) (fun r u hu => ?_)
  refine z_eqs (σ' := (ap b (wx_Z σ z) [(405, 0, 2)] [] [])) (hu.2.trans ap_ap) ?_
  show zx p l e _ s m _ below meth c g 8 _ _ _ _ 219 [(5, .int 2), (4, .int 0), (3, .ref (b + 431)), (2, .ref (b + 405)), (1, .ref (b + 0)), (0, .ref bS)] _
  refine z_seti (y := 0) hu.1 ?_
  refine z_istore (lv' := [(6, .int 0), (5, .int 2), (4, .int 0), (3, .ref (b + 431)), (2, .ref (b + 405)), (1, .ref (b + 0)), (0, .ref bS)]) B dL_law_219 (by decide) rfl ?_
  refine z_aload_n B dL_law_221 rfl 4 rfl ?_
  refine z_cVi (As := []) (rest := []) B cw_L_80 cx_10 dL_law_222 (ci_X9_thrown_73 l (σ := (ap b (wx_Z σ z) [(405, 0, 2)] [] [])) (b := b) (lyA (lyZ hK)) (rI_at 405 0 rfl)) (lKA (lKZ (hk_K hK 405 rfl rfl))) rfl (by decide) rfl (Nat.le_of_ble_eq_true rfl) (by decide) (fun r u hu => ?_)
  refine z_eqs (σ' := (ap b (wx_Z σ z) [(405, 0, 2)] [] [])) hu.2 ?_
  show zx p l e _ s m _ below meth c g 8 _ _ _ _ 225 [(6, .int 0), (5, .int 2), (4, .int 0), (3, .ref (b + 431)), (2, .ref (b + 405)), (1, .ref (b + 0)), (0, .ref bS)] _
  refine z_seti (y := 2) hu.1 ?_
  refine z_iload B dL_law_225 1 rfl ?_
  refine z_icmp_eq (tgt := 232) B dL_law_227 (by decide) (fun _ => ?_) (fun h => absurd (by decide) h)
  refine z_iload B dL_law_232 1 rfl ?_
  refine z_if_ne (tgt := 249) B dL_law_234 (by decide) (fun _ => ?_) (fun h => absurd h (by decide))
  refine z_goto (tgt := 1395) B dL_law_249 (by decide) ?_
  exact z_widen (Nat.le_of_ble_eq_true rfl) (Nat.le_of_ble_eq_true rfl) (z_sub _ [2, 6] rfl (kk _))
set_option maxRecDepth 100000 in
set_option maxHeartbeats 4000000 in
theorem lf_0_125 {p : Program} {l : Launch} {e : Env} {s : State} {m : MethodId} {args : Array Value} {below : List Frame} {meth : Method} {c : Code} {g : gx_T} {Q : State → Prop} {σ : sx_T} {b t bS : Nat} {xs : Nat → Int32} (hlt : l.stackTraces = false) (B : zx_B p s m args meth c code RL 8 g) (hX : va_X bS 6 xs s s.heap) (hbl : bS < s.heap.size) (hbA : ¬ gx_b g ≤ bS) (hF : fz_P b t σ) (h_x1 : xs 1 = 5) {x2 : Int32} (h_x2 : xs 2 = x2) (q1_x2 : (0 : Int) ≤ x2.toInt) (q2_x2 : x2.toInt ≤ (19 : Int)) {x3 : Int32} (h_x3 : xs 3 = x3) (q1_x3 : (18 : Int) ≤ x3.toInt) (q2_x3 : x3.toInt ≤ (2147483647 : Int)) {x4 : Int32} (h_x4 : xs 4 = x4) (q1_x4 : (-2147483648 : Int) ≤ x4.toInt) (q2_x4 : x4.toInt ≤ (2147483647 : Int)) {x5 : Int32} (h_x5 : xs 5 = x5) (q1_x5 : (-2147483648 : Int) ≤ x5.toInt) (q2_x5 : x5.toInt ≤ (2147483647 : Int)) (kk : ∀ σ', zx p l e room_1 s m args below meth c g 8 600002 7302232 Q σ' 1395 [(4, .int 0), (0, .ref bS)] []) : zx p l e room_1 s m args below meth c g 8 500 100000 Q σ 148 [(4, .int 0), (3, .ref (b + 431)), (2, .ref (b + 405)), (1, .ref (b + 0)), (0, .ref bS)] [] := by
  have hK := fz_lay hF
  refine z_eqs (σ' := (ap b σ [] [] [])) rfl ?_
  refine z_aload_n B dL_law_148 rfl 3 rfl ?_
  refine z_aload_n B dL_law_149 rfl 4 rfl ?_
  refine z_iload B dL_law_150 0 rfl ?_
  refine z_iconst (v := 1) B dL_law_152 (by decide) ?_
  refine z_iadd B dL_law_153 ?_
  refine z_seti (y := 1) (by decide) ?_
  refine z_sld (j := 1) (x := 5) B hX hbl hbA (by decide) (show ¬ ((1 : Int32) < 0 ∨ 6 ≤ (1 : Int32).toNatClampNeg) by decide) h_x1 dL_law_154 ?_
  refine z_aload_n B dL_law_155 rfl 4 rfl ?_
  refine z_iload B dL_law_156 0 rfl ?_
  refine z_iconst (v := 2) B dL_law_158 (by decide) ?_
  refine z_iadd B dL_law_159 ?_
  refine z_seti (y := 2) (by decide) ?_
  refine z_sld (j := 2) (x := x2) B hX hbl hbA (by decide) (show ¬ ((2 : Int32) < 0 ∨ 6 ≤ (2 : Int32).toNatClampNeg) by decide) h_x2 dL_law_160 ?_
  refine z_aload_n B dL_law_161 rfl 4 rfl ?_
  refine z_iload B dL_law_162 0 rfl ?_
  refine z_iconst (v := 3) B dL_law_164 (by decide) ?_
  refine z_iadd B dL_law_165 ?_
  refine z_seti (y := 3) (by decide) ?_
  refine z_sld (j := 3) (x := x3) B hX hbl hbA (by decide) (show ¬ ((3 : Int32) < 0 ∨ 6 ≤ (3 : Int32).toNatClampNeg) by decide) h_x3 dL_law_166 ?_
  refine z_aload_n B dL_law_167 rfl 4 rfl ?_
  refine z_iload B dL_law_168 0 rfl ?_
  refine z_iconst (v := 4) B dL_law_170 (by decide) ?_
  refine z_iadd B dL_law_171 ?_
  refine z_seti (y := 4) (by decide) ?_
  refine z_sld (j := 4) (x := x4) B hX hbl hbA (by decide) (show ¬ ((4 : Int32) < 0 ∨ 6 ≤ (4 : Int32).toNatClampNeg) by decide) h_x4 dL_law_172 ?_
  refine z_aload_n B dL_law_173 rfl 4 rfl ?_
  refine z_iload B dL_law_174 0 rfl ?_
  refine z_iconst (v := 5) B dL_law_176 (by decide) ?_
  refine z_iadd B dL_law_177 ?_
  refine z_seti (y := 5) (by decide) ?_
  refine z_sld (j := 5) (x := x5) B hX hbl hbA (by decide) (show ¬ ((5 : Int32) < 0 ∨ 6 ≤ (5 : Int32).toNatClampNeg) by decide) h_x5 dL_law_178 ?_
  refine z_aload_n B dL_law_179 rfl 1 rfl ?_
  refine z_cSWi (As := [.ref (b + 0), .int 5, .int x2, .int x3, .int x4, .int x5, .ref (b + 431)]) (rest := []) B cw_L_74 dL_law_180 (ci_L_set_355 l hlt (σ := (ap b σ [] [] [])) (b := b) (lyA hK) x2 x3 x4 x5 q1_x2 q2_x2 q1_x3 q2_x3 (rR_at 0 0 (fz_R hF 0 0 rfl rfl)) (rR_at 1 5 (fz_R hF 1 5 rfl rfl))) rfl (by decide) rfl (Nat.le_of_ble_eq_true rfl) (by decide) (fun r u hu => ?_)
  obtain ⟨hu1, z, hu⟩ := hu
  refine z_eqs (σ' := (ap b (wx_Z σ z) [] [] [])) (hu.trans az_ap) ?_
  show zx p l e _ s m _ below meth c g 8 _ _ _ _ 183 [(4, .int 0), (3, .ref (b + 431)), (2, .ref (b + 405)), (1, .ref (b + 0)), (0, .ref bS)] _
  refine z_seti (y := 2) hu1 ?_
  refine z_istore (lv' := [(5, .int 2), (4, .int 0), (3, .ref (b + 431)), (2, .ref (b + 405)), (1, .ref (b + 0)), (0, .ref bS)]) B dL_law_183 (by decide) rfl ?_
  refine z_aload_n B dL_law_185 rfl 3 rfl ?_
  refine z_aload_n B dL_law_186 rfl 5 rfl ?_
  refine z_iload B dL_law_187 1 rfl ?_
  refine z_iconst (v := 1) B dL_law_189 (by decide) ?_
  refine z_iadd B dL_law_190 ?_
  refine z_seti (y := 1) (by decide) ?_
  refine z_sld (j := 1) (x := 5) B hX hbl hbA (by decide) (show ¬ ((1 : Int32) < 0 ∨ 6 ≤ (1 : Int32).toNatClampNeg) by decide) h_x1 dL_law_191 ?_
  refine z_aload_n B dL_law_192 rfl 5 rfl ?_
  refine z_iload B dL_law_193 1 rfl ?_
  refine z_iconst (v := 2) B dL_law_195 (by decide) ?_
  refine z_iadd B dL_law_196 ?_
  refine z_seti (y := 2) (by decide) ?_
  refine z_sld (j := 2) (x := x2) B hX hbl hbA (by decide) (show ¬ ((2 : Int32) < 0 ∨ 6 ≤ (2 : Int32).toNatClampNeg) by decide) h_x2 dL_law_197 ?_
  refine z_aload_n B dL_law_198 rfl 5 rfl ?_
  refine z_iload B dL_law_199 1 rfl ?_
  refine z_iconst (v := 3) B dL_law_201 (by decide) ?_
  refine z_iadd B dL_law_202 ?_
  refine z_seti (y := 3) (by decide) ?_
  refine z_sld (j := 3) (x := x3) B hX hbl hbA (by decide) (show ¬ ((3 : Int32) < 0 ∨ 6 ≤ (3 : Int32).toNatClampNeg) by decide) h_x3 dL_law_203 ?_
  refine z_aload_n B dL_law_204 rfl 5 rfl ?_
  refine z_iload B dL_law_205 1 rfl ?_
  refine z_iconst (v := 4) B dL_law_207 (by decide) ?_
  refine z_iadd B dL_law_208 ?_
  refine z_seti (y := 4) (by decide) ?_
  refine z_sld (j := 4) (x := x4) B hX hbl hbA (by decide) (show ¬ ((4 : Int32) < 0 ∨ 6 ≤ (4 : Int32).toNatClampNeg) by decide) h_x4 dL_law_209 ?_
  refine z_aload_n B dL_law_210 rfl 5 rfl ?_
  refine z_iload B dL_law_211 1 rfl ?_
  refine z_iconst (v := 5) B dL_law_213 (by decide) ?_
  refine z_iadd B dL_law_214 ?_
  refine z_seti (y := 5) (by decide) ?_
  refine z_sld (j := 5) (x := x5) B hX hbl hbA (by decide) (show ¬ ((5 : Int32) < 0 ∨ 6 ≤ (5 : Int32).toNatClampNeg) by decide) h_x5 dL_law_215 ?_
  refine z_cVi (As := [.int 5, .int x2, .int x3, .int x4, .int x5]) (rest := []) B cw_L_79 cx_10 dL_law_216 (ci_X9_set_356 l (σ := (ap b (wx_Z σ z) [] [] [])) (b := b) (lyA (lyZ hK)) x2 x3 x4 x5 q1_x2 q2_x2 q1_x3 q2_x3) (lKA (lKZ (hk_K hK 405 rfl rfl))) rfl (by decide) rfl (Nat.le_of_ble_eq_true rfl) (by decide) (fun r u hu => ?_)
  refine z_eqs (σ' := (ap b (wx_Z σ z) [(405, 0, 2)] [] [])) (hu.2.trans ap_ap) ?_
  show zx p l e _ s m _ below meth c g 8 _ _ _ _ 219 [(5, .int 2), (4, .int 0), (3, .ref (b + 431)), (2, .ref (b + 405)), (1, .ref (b + 0)), (0, .ref bS)] _
  refine z_seti (y := 0) hu.1 ?_
  refine z_istore (lv' := [(6, .int 0), (5, .int 2), (4, .int 0), (3, .ref (b + 431)), (2, .ref (b + 405)), (1, .ref (b + 0)), (0, .ref bS)]) B dL_law_219 (by decide) rfl ?_
  refine z_aload_n B dL_law_221 rfl 4 rfl ?_
  refine z_cVi (As := []) (rest := []) B cw_L_80 cx_10 dL_law_222 (ci_X9_thrown_73 l (σ := (ap b (wx_Z σ z) [(405, 0, 2)] [] [])) (b := b) (lyA (lyZ hK)) (rI_at 405 0 rfl)) (lKA (lKZ (hk_K hK 405 rfl rfl))) rfl (by decide) rfl (Nat.le_of_ble_eq_true rfl) (by decide) (fun r u hu => ?_)
  refine z_eqs (σ' := (ap b (wx_Z σ z) [(405, 0, 2)] [] [])) hu.2 ?_
  show zx p l e _ s m _ below meth c g 8 _ _ _ _ 225 [(6, .int 0), (5, .int 2), (4, .int 0), (3, .ref (b + 431)), (2, .ref (b + 405)), (1, .ref (b + 0)), (0, .ref bS)] _
  refine z_seti (y := 2) hu.1 ?_
  refine z_iload B dL_law_225 1 rfl ?_
  refine z_icmp_eq (tgt := 232) B dL_law_227 (by decide) (fun _ => ?_) (fun h => absurd (by decide) h)
  refine z_iload B dL_law_232 1 rfl ?_
  refine z_if_ne (tgt := 249) B dL_law_234 (by decide) (fun _ => ?_) (fun h => absurd h (by decide))
  refine z_goto (tgt := 1395) B dL_law_249 (by decide) ?_
  exact z_widen (Nat.le_of_ble_eq_true rfl) (Nat.le_of_ble_eq_true rfl) (z_sub _ [2, 6] rfl (kk _))
set_option maxRecDepth 100000 in
set_option maxHeartbeats 4000000 in
theorem lf_0_126 {p : Program} {l : Launch} {e : Env} {s : State} {m : MethodId} {args : Array Value} {below : List Frame} {meth : Method} {c : Code} {g : gx_T} {Q : State → Prop} {σ : sx_T} {b t bS : Nat} {xs : Nat → Int32} (hlt : l.stackTraces = false) (B : zx_B p s m args meth c code RL 8 g) (hX : va_X bS 6 xs s s.heap) (hbl : bS < s.heap.size) (hbA : ¬ gx_b g ≤ bS) (hF : fz_P b t σ) (h_x1 : xs 1 = 5) {x2 : Int32} (h_x2 : xs 2 = x2) (q1_x2 : (20 : Int) ≤ x2.toInt) (q2_x2 : x2.toInt ≤ (2147483647 : Int)) {x3 : Int32} (h_x3 : xs 3 = x3) (q1_x3 : (-2147483648 : Int) ≤ x3.toInt) (q2_x3 : x3.toInt ≤ (-1 : Int)) {x4 : Int32} (h_x4 : xs 4 = x4) (q1_x4 : (-2147483648 : Int) ≤ x4.toInt) (q2_x4 : x4.toInt ≤ (2147483647 : Int)) {x5 : Int32} (h_x5 : xs 5 = x5) (q1_x5 : (-2147483648 : Int) ≤ x5.toInt) (q2_x5 : x5.toInt ≤ (2147483647 : Int)) (kk : ∀ σ', zx p l e room_1 s m args below meth c g 8 600002 7302232 Q σ' 1395 [(4, .int 0), (0, .ref bS)] []) : zx p l e room_1 s m args below meth c g 8 500 100000 Q σ 148 [(4, .int 0), (3, .ref (b + 431)), (2, .ref (b + 405)), (1, .ref (b + 0)), (0, .ref bS)] [] := by
  have hK := fz_lay hF
  refine z_eqs (σ' := (ap b σ [] [] [])) rfl ?_
  refine z_aload_n B dL_law_148 rfl 3 rfl ?_
  refine z_aload_n B dL_law_149 rfl 4 rfl ?_
  refine z_iload B dL_law_150 0 rfl ?_
  refine z_iconst (v := 1) B dL_law_152 (by decide) ?_
  refine z_iadd B dL_law_153 ?_
  refine z_seti (y := 1) (by decide) ?_
  refine z_sld (j := 1) (x := 5) B hX hbl hbA (by decide) (show ¬ ((1 : Int32) < 0 ∨ 6 ≤ (1 : Int32).toNatClampNeg) by decide) h_x1 dL_law_154 ?_
  refine z_aload_n B dL_law_155 rfl 4 rfl ?_
  refine z_iload B dL_law_156 0 rfl ?_
  refine z_iconst (v := 2) B dL_law_158 (by decide) ?_
  refine z_iadd B dL_law_159 ?_
  refine z_seti (y := 2) (by decide) ?_
  refine z_sld (j := 2) (x := x2) B hX hbl hbA (by decide) (show ¬ ((2 : Int32) < 0 ∨ 6 ≤ (2 : Int32).toNatClampNeg) by decide) h_x2 dL_law_160 ?_
  refine z_aload_n B dL_law_161 rfl 4 rfl ?_
  refine z_iload B dL_law_162 0 rfl ?_
  refine z_iconst (v := 3) B dL_law_164 (by decide) ?_
  refine z_iadd B dL_law_165 ?_
  refine z_seti (y := 3) (by decide) ?_
  refine z_sld (j := 3) (x := x3) B hX hbl hbA (by decide) (show ¬ ((3 : Int32) < 0 ∨ 6 ≤ (3 : Int32).toNatClampNeg) by decide) h_x3 dL_law_166 ?_
  refine z_aload_n B dL_law_167 rfl 4 rfl ?_
  refine z_iload B dL_law_168 0 rfl ?_
  refine z_iconst (v := 4) B dL_law_170 (by decide) ?_
  refine z_iadd B dL_law_171 ?_
  refine z_seti (y := 4) (by decide) ?_
  refine z_sld (j := 4) (x := x4) B hX hbl hbA (by decide) (show ¬ ((4 : Int32) < 0 ∨ 6 ≤ (4 : Int32).toNatClampNeg) by decide) h_x4 dL_law_172 ?_
  refine z_aload_n B dL_law_173 rfl 4 rfl ?_
  refine z_iload B dL_law_174 0 rfl ?_
  refine z_iconst (v := 5) B dL_law_176 (by decide) ?_
  refine z_iadd B dL_law_177 ?_
  refine z_seti (y := 5) (by decide) ?_
  refine z_sld (j := 5) (x := x5) B hX hbl hbA (by decide) (show ¬ ((5 : Int32) < 0 ∨ 6 ≤ (5 : Int32).toNatClampNeg) by decide) h_x5 dL_law_178 ?_
  refine z_aload_n B dL_law_179 rfl 1 rfl ?_
  refine z_cSWi (As := [.ref (b + 0), .int 5, .int x2, .int x3, .int x4, .int x5, .ref (b + 431)]) (rest := []) B cw_L_74 dL_law_180 (ci_L_set_358 l hlt (σ := (ap b σ [] [] [])) (b := b) (lyA hK) x2 x3 x4 x5 q1_x2 q2_x2 (rR_at 0 0 (fz_R hF 0 0 rfl rfl)) (rR_at 1 5 (fz_R hF 1 5 rfl rfl))) rfl (by decide) rfl (Nat.le_of_ble_eq_true rfl) (by decide) (fun r u hu => ?_)
  obtain ⟨hu1, z, hu⟩ := hu
  refine z_eqs (σ' := (ap b (wx_Z σ z) [] [] [])) (hu.trans az_ap) ?_
  show zx p l e _ s m _ below meth c g 8 _ _ _ _ 183 [(4, .int 0), (3, .ref (b + 431)), (2, .ref (b + 405)), (1, .ref (b + 0)), (0, .ref bS)] _
  refine z_seti (y := 1) hu1 ?_
  refine z_istore (lv' := [(5, .int 1), (4, .int 0), (3, .ref (b + 431)), (2, .ref (b + 405)), (1, .ref (b + 0)), (0, .ref bS)]) B dL_law_183 (by decide) rfl ?_
  refine z_aload_n B dL_law_185 rfl 3 rfl ?_
  refine z_aload_n B dL_law_186 rfl 5 rfl ?_
  refine z_iload B dL_law_187 1 rfl ?_
  refine z_iconst (v := 1) B dL_law_189 (by decide) ?_
  refine z_iadd B dL_law_190 ?_
  refine z_seti (y := 1) (by decide) ?_
  refine z_sld (j := 1) (x := 5) B hX hbl hbA (by decide) (show ¬ ((1 : Int32) < 0 ∨ 6 ≤ (1 : Int32).toNatClampNeg) by decide) h_x1 dL_law_191 ?_
  refine z_aload_n B dL_law_192 rfl 5 rfl ?_
  refine z_iload B dL_law_193 1 rfl ?_
  refine z_iconst (v := 2) B dL_law_195 (by decide) ?_
  refine z_iadd B dL_law_196 ?_
  refine z_seti (y := 2) (by decide) ?_
  refine z_sld (j := 2) (x := x2) B hX hbl hbA (by decide) (show ¬ ((2 : Int32) < 0 ∨ 6 ≤ (2 : Int32).toNatClampNeg) by decide) h_x2 dL_law_197 ?_
  refine z_aload_n B dL_law_198 rfl 5 rfl ?_
  refine z_iload B dL_law_199 1 rfl ?_
  refine z_iconst (v := 3) B dL_law_201 (by decide) ?_
  refine z_iadd B dL_law_202 ?_
  refine z_seti (y := 3) (by decide) ?_
  refine z_sld (j := 3) (x := x3) B hX hbl hbA (by decide) (show ¬ ((3 : Int32) < 0 ∨ 6 ≤ (3 : Int32).toNatClampNeg) by decide) h_x3 dL_law_203 ?_
  refine z_aload_n B dL_law_204 rfl 5 rfl ?_
  refine z_iload B dL_law_205 1 rfl ?_
  refine z_iconst (v := 4) B dL_law_207 (by decide) ?_
  refine z_iadd B dL_law_208 ?_
  refine z_seti (y := 4) (by decide) ?_
  refine z_sld (j := 4) (x := x4) B hX hbl hbA (by decide) (show ¬ ((4 : Int32) < 0 ∨ 6 ≤ (4 : Int32).toNatClampNeg) by decide) h_x4 dL_law_209 ?_
  refine z_aload_n B dL_law_210 rfl 5 rfl ?_
  refine z_iload B dL_law_211 1 rfl ?_
  refine z_iconst (v := 5) B dL_law_213 (by decide) ?_
  refine z_iadd B dL_law_214 ?_
  refine z_seti (y := 5) (by decide) ?_
  refine z_sld (j := 5) (x := x5) B hX hbl hbA (by decide) (show ¬ ((5 : Int32) < 0 ∨ 6 ≤ (5 : Int32).toNatClampNeg) by decide) h_x5 dL_law_215 ?_
  refine z_cVi (As := [.int 5, .int x2, .int x3, .int x4, .int x5]) (rest := []) B cw_L_79 cx_10 dL_law_216 (ci_X9_set_360 l (σ := (ap b (wx_Z σ z) [] [] [])) (b := b) (lyA (lyZ hK)) x2 x3 x4 x5 q1_x2 q2_x2 q1_x3 q2_x3) (lKA (lKZ (hk_K hK 405 rfl rfl))) rfl (by decide) rfl (Nat.le_of_ble_eq_true rfl) (by decide) (fun r u hu => ?_)
  refine z_eqs (σ' := (ap b (wx_Z σ z) [(405, 0, 1)] [] [])) (hu.2.trans ap_ap) ?_
  show zx p l e _ s m _ below meth c g 8 _ _ _ _ 219 [(5, .int 1), (4, .int 0), (3, .ref (b + 431)), (2, .ref (b + 405)), (1, .ref (b + 0)), (0, .ref bS)] _
  refine z_seti (y := 0) hu.1 ?_
  refine z_istore (lv' := [(6, .int 0), (5, .int 1), (4, .int 0), (3, .ref (b + 431)), (2, .ref (b + 405)), (1, .ref (b + 0)), (0, .ref bS)]) B dL_law_219 (by decide) rfl ?_
  refine z_aload_n B dL_law_221 rfl 4 rfl ?_
  refine z_cVi (As := []) (rest := []) B cw_L_80 cx_10 dL_law_222 (ci_X9_thrown_31 l (σ := (ap b (wx_Z σ z) [(405, 0, 1)] [] [])) (b := b) (lyA (lyZ hK)) (rI_at 405 0 rfl)) (lKA (lKZ (hk_K hK 405 rfl rfl))) rfl (by decide) rfl (Nat.le_of_ble_eq_true rfl) (by decide) (fun r u hu => ?_)
  refine z_eqs (σ' := (ap b (wx_Z σ z) [(405, 0, 1)] [] [])) hu.2 ?_
  show zx p l e _ s m _ below meth c g 8 _ _ _ _ 225 [(6, .int 0), (5, .int 1), (4, .int 0), (3, .ref (b + 431)), (2, .ref (b + 405)), (1, .ref (b + 0)), (0, .ref bS)] _
  refine z_seti (y := 1) hu.1 ?_
  refine z_iload B dL_law_225 1 rfl ?_
  refine z_icmp_eq (tgt := 232) B dL_law_227 (by decide) (fun _ => ?_) (fun h => absurd (by decide) h)
  refine z_iload B dL_law_232 1 rfl ?_
  refine z_if_ne (tgt := 249) B dL_law_234 (by decide) (fun _ => ?_) (fun h => absurd h (by decide))
  refine z_goto (tgt := 1395) B dL_law_249 (by decide) ?_
  exact z_widen (Nat.le_of_ble_eq_true rfl) (Nat.le_of_ble_eq_true rfl) (z_sub _ [2, 6] rfl (kk _))
set_option maxRecDepth 100000 in
set_option maxHeartbeats 4000000 in
theorem lf_0_127 {p : Program} {l : Launch} {e : Env} {s : State} {m : MethodId} {args : Array Value} {below : List Frame} {meth : Method} {c : Code} {g : gx_T} {Q : State → Prop} {σ : sx_T} {b t bS : Nat} {xs : Nat → Int32} (hlt : l.stackTraces = false) (B : zx_B p s m args meth c code RL 8 g) (hX : va_X bS 6 xs s s.heap) (hbl : bS < s.heap.size) (hbA : ¬ gx_b g ≤ bS) (hF : fz_P b t σ) (h_x1 : xs 1 = 5) {x2 : Int32} (h_x2 : xs 2 = x2) (q1_x2 : (20 : Int) ≤ x2.toInt) (q2_x2 : x2.toInt ≤ (2147483647 : Int)) {x3 : Int32} (h_x3 : xs 3 = x3) (q1_x3 : (0 : Int) ≤ x3.toInt) (q2_x3 : x3.toInt ≤ (17 : Int)) {x4 : Int32} (h_x4 : xs 4 = x4) (q1_x4 : (-2147483648 : Int) ≤ x4.toInt) (q2_x4 : x4.toInt ≤ (-1 : Int)) {x5 : Int32} (h_x5 : xs 5 = x5) (q1_x5 : (-2147483648 : Int) ≤ x5.toInt) (q2_x5 : x5.toInt ≤ (2147483647 : Int)) (kk : ∀ σ', zx p l e room_1 s m args below meth c g 8 600002 7302232 Q σ' 1395 [(4, .int 0), (0, .ref bS)] []) : zx p l e room_1 s m args below meth c g 8 500 100000 Q σ 148 [(4, .int 0), (3, .ref (b + 431)), (2, .ref (b + 405)), (1, .ref (b + 0)), (0, .ref bS)] [] := by
  have hK := fz_lay hF
  refine z_eqs (σ' := (ap b σ [] [] [])) rfl ?_
  refine z_aload_n B dL_law_148 rfl 3 rfl ?_
  refine z_aload_n B dL_law_149 rfl 4 rfl ?_
  refine z_iload B dL_law_150 0 rfl ?_
  refine z_iconst (v := 1) B dL_law_152 (by decide) ?_
  refine z_iadd B dL_law_153 ?_
  refine z_seti (y := 1) (by decide) ?_
  refine z_sld (j := 1) (x := 5) B hX hbl hbA (by decide) (show ¬ ((1 : Int32) < 0 ∨ 6 ≤ (1 : Int32).toNatClampNeg) by decide) h_x1 dL_law_154 ?_
  refine z_aload_n B dL_law_155 rfl 4 rfl ?_
  refine z_iload B dL_law_156 0 rfl ?_
  refine z_iconst (v := 2) B dL_law_158 (by decide) ?_
  refine z_iadd B dL_law_159 ?_
  refine z_seti (y := 2) (by decide) ?_
  refine z_sld (j := 2) (x := x2) B hX hbl hbA (by decide) (show ¬ ((2 : Int32) < 0 ∨ 6 ≤ (2 : Int32).toNatClampNeg) by decide) h_x2 dL_law_160 ?_
  refine z_aload_n B dL_law_161 rfl 4 rfl ?_
  refine z_iload B dL_law_162 0 rfl ?_
  refine z_iconst (v := 3) B dL_law_164 (by decide) ?_
  refine z_iadd B dL_law_165 ?_
  refine z_seti (y := 3) (by decide) ?_
  refine z_sld (j := 3) (x := x3) B hX hbl hbA (by decide) (show ¬ ((3 : Int32) < 0 ∨ 6 ≤ (3 : Int32).toNatClampNeg) by decide) h_x3 dL_law_166 ?_
  refine z_aload_n B dL_law_167 rfl 4 rfl ?_
  refine z_iload B dL_law_168 0 rfl ?_
  refine z_iconst (v := 4) B dL_law_170 (by decide) ?_
  refine z_iadd B dL_law_171 ?_
  refine z_seti (y := 4) (by decide) ?_
  refine z_sld (j := 4) (x := x4) B hX hbl hbA (by decide) (show ¬ ((4 : Int32) < 0 ∨ 6 ≤ (4 : Int32).toNatClampNeg) by decide) h_x4 dL_law_172 ?_
  refine z_aload_n B dL_law_173 rfl 4 rfl ?_
  refine z_iload B dL_law_174 0 rfl ?_
  refine z_iconst (v := 5) B dL_law_176 (by decide) ?_
  refine z_iadd B dL_law_177 ?_
  refine z_seti (y := 5) (by decide) ?_
  refine z_sld (j := 5) (x := x5) B hX hbl hbA (by decide) (show ¬ ((5 : Int32) < 0 ∨ 6 ≤ (5 : Int32).toNatClampNeg) by decide) h_x5 dL_law_178 ?_
  refine z_aload_n B dL_law_179 rfl 1 rfl ?_
  refine z_cSWi (As := [.ref (b + 0), .int 5, .int x2, .int x3, .int x4, .int x5, .ref (b + 431)]) (rest := []) B cw_L_74 dL_law_180 (ci_L_set_358 l hlt (σ := (ap b σ [] [] [])) (b := b) (lyA hK) x2 x3 x4 x5 q1_x2 q2_x2 (rR_at 0 0 (fz_R hF 0 0 rfl rfl)) (rR_at 1 5 (fz_R hF 1 5 rfl rfl))) rfl (by decide) rfl (Nat.le_of_ble_eq_true rfl) (by decide) (fun r u hu => ?_)
  obtain ⟨hu1, z, hu⟩ := hu
  refine z_eqs (σ' := (ap b (wx_Z σ z) [] [] [])) (hu.trans az_ap) ?_
  show zx p l e _ s m _ below meth c g 8 _ _ _ _ 183 [(4, .int 0), (3, .ref (b + 431)), (2, .ref (b + 405)), (1, .ref (b + 0)), (0, .ref bS)] _
  refine z_seti (y := 1) hu1 ?_
  refine z_istore (lv' := [(5, .int 1), (4, .int 0), (3, .ref (b + 431)), (2, .ref (b + 405)), (1, .ref (b + 0)), (0, .ref bS)]) B dL_law_183 (by decide) rfl ?_
  refine z_aload_n B dL_law_185 rfl 3 rfl ?_
  refine z_aload_n B dL_law_186 rfl 5 rfl ?_
  refine z_iload B dL_law_187 1 rfl ?_
  refine z_iconst (v := 1) B dL_law_189 (by decide) ?_
  refine z_iadd B dL_law_190 ?_
  refine z_seti (y := 1) (by decide) ?_
  refine z_sld (j := 1) (x := 5) B hX hbl hbA (by decide) (show ¬ ((1 : Int32) < 0 ∨ 6 ≤ (1 : Int32).toNatClampNeg) by decide) h_x1 dL_law_191 ?_
  refine z_aload_n B dL_law_192 rfl 5 rfl ?_
  refine z_iload B dL_law_193 1 rfl ?_
  refine z_iconst (v := 2) B dL_law_195 (by decide) ?_
  refine z_iadd B dL_law_196 ?_
  refine z_seti (y := 2) (by decide) ?_
  refine z_sld (j := 2) (x := x2) B hX hbl hbA (by decide) (show ¬ ((2 : Int32) < 0 ∨ 6 ≤ (2 : Int32).toNatClampNeg) by decide) h_x2 dL_law_197 ?_
  refine z_aload_n B dL_law_198 rfl 5 rfl ?_
  refine z_iload B dL_law_199 1 rfl ?_
  refine z_iconst (v := 3) B dL_law_201 (by decide) ?_
  refine z_iadd B dL_law_202 ?_
  refine z_seti (y := 3) (by decide) ?_
  refine z_sld (j := 3) (x := x3) B hX hbl hbA (by decide) (show ¬ ((3 : Int32) < 0 ∨ 6 ≤ (3 : Int32).toNatClampNeg) by decide) h_x3 dL_law_203 ?_
  refine z_aload_n B dL_law_204 rfl 5 rfl ?_
  refine z_iload B dL_law_205 1 rfl ?_
  refine z_iconst (v := 4) B dL_law_207 (by decide) ?_
  refine z_iadd B dL_law_208 ?_
  refine z_seti (y := 4) (by decide) ?_
  refine z_sld (j := 4) (x := x4) B hX hbl hbA (by decide) (show ¬ ((4 : Int32) < 0 ∨ 6 ≤ (4 : Int32).toNatClampNeg) by decide) h_x4 dL_law_209 ?_
  refine z_aload_n B dL_law_210 rfl 5 rfl ?_
  refine z_iload B dL_law_211 1 rfl ?_
  refine z_iconst (v := 5) B dL_law_213 (by decide) ?_
  refine z_iadd B dL_law_214 ?_
  refine z_seti (y := 5) (by decide) ?_
  refine z_sld (j := 5) (x := x5) B hX hbl hbA (by decide) (show ¬ ((5 : Int32) < 0 ∨ 6 ≤ (5 : Int32).toNatClampNeg) by decide) h_x5 dL_law_215 ?_
  refine z_cVi (As := [.int 5, .int x2, .int x3, .int x4, .int x5]) (rest := []) B cw_L_79 cx_10 dL_law_216 (ci_X9_set_361 l (σ := (ap b (wx_Z σ z) [] [] [])) (b := b) (lyA (lyZ hK)) x2 x3 x4 x5 q1_x2 q2_x2 q1_x3 q2_x3 q1_x4 q2_x4) (lKA (lKZ (hk_K hK 405 rfl rfl))) rfl (by decide) rfl (Nat.le_of_ble_eq_true rfl) (by decide) (fun r u hu => ?_)
  refine z_eqs (σ' := (ap b (wx_Z σ z) [(405, 0, 1)] [] [])) (hu.2.trans ap_ap) ?_
  show zx p l e _ s m _ below meth c g 8 _ _ _ _ 219 [(5, .int 1), (4, .int 0), (3, .ref (b + 431)), (2, .ref (b + 405)), (1, .ref (b + 0)), (0, .ref bS)] _
  refine z_seti (y := 0) hu.1 ?_
  refine z_istore (lv' := [(6, .int 0), (5, .int 1), (4, .int 0), (3, .ref (b + 431)), (2, .ref (b + 405)), (1, .ref (b + 0)), (0, .ref bS)]) B dL_law_219 (by decide) rfl ?_
  refine z_aload_n B dL_law_221 rfl 4 rfl ?_
  refine z_cVi (As := []) (rest := []) B cw_L_80 cx_10 dL_law_222 (ci_X9_thrown_31 l (σ := (ap b (wx_Z σ z) [(405, 0, 1)] [] [])) (b := b) (lyA (lyZ hK)) (rI_at 405 0 rfl)) (lKA (lKZ (hk_K hK 405 rfl rfl))) rfl (by decide) rfl (Nat.le_of_ble_eq_true rfl) (by decide) (fun r u hu => ?_)
  refine z_eqs (σ' := (ap b (wx_Z σ z) [(405, 0, 1)] [] [])) hu.2 ?_
  show zx p l e _ s m _ below meth c g 8 _ _ _ _ 225 [(6, .int 0), (5, .int 1), (4, .int 0), (3, .ref (b + 431)), (2, .ref (b + 405)), (1, .ref (b + 0)), (0, .ref bS)] _
  refine z_seti (y := 1) hu.1 ?_
  refine z_iload B dL_law_225 1 rfl ?_
  refine z_icmp_eq (tgt := 232) B dL_law_227 (by decide) (fun _ => ?_) (fun h => absurd (by decide) h)
  refine z_iload B dL_law_232 1 rfl ?_
  refine z_if_ne (tgt := 249) B dL_law_234 (by decide) (fun _ => ?_) (fun h => absurd h (by decide))
  refine z_goto (tgt := 1395) B dL_law_249 (by decide) ?_
  exact z_widen (Nat.le_of_ble_eq_true rfl) (Nat.le_of_ble_eq_true rfl) (z_sub _ [2, 6] rfl (kk _))
set_option maxRecDepth 100000 in
set_option maxHeartbeats 4000000 in
theorem lf_0_128 {p : Program} {l : Launch} {e : Env} {s : State} {m : MethodId} {args : Array Value} {below : List Frame} {meth : Method} {c : Code} {g : gx_T} {Q : State → Prop} {σ : sx_T} {b t bS : Nat} {xs : Nat → Int32} (hlt : l.stackTraces = false) (B : zx_B p s m args meth c code RL 8 g) (hX : va_X bS 6 xs s s.heap) (hbl : bS < s.heap.size) (hbA : ¬ gx_b g ≤ bS) (hF : fz_P b t σ) (h_x1 : xs 1 = 5) {x2 : Int32} (h_x2 : xs 2 = x2) (q1_x2 : (20 : Int) ≤ x2.toInt) (q2_x2 : x2.toInt ≤ (2147483647 : Int)) {x3 : Int32} (h_x3 : xs 3 = x3) (q1_x3 : (0 : Int) ≤ x3.toInt) (q2_x3 : x3.toInt ≤ (17 : Int)) {x4 : Int32} (h_x4 : xs 4 = x4) (q1_x4 : (0 : Int) ≤ x4.toInt) (q2_x4 : x4.toInt ≤ (99 : Int)) {x5 : Int32} (h_x5 : xs 5 = x5) (q1_x5 : (-2147483648 : Int) ≤ x5.toInt) (q2_x5 : x5.toInt ≤ (-1 : Int)) (kk : ∀ σ', zx p l e room_1 s m args below meth c g 8 600002 7302232 Q σ' 1395 [(4, .int 0), (0, .ref bS)] []) : zx p l e room_1 s m args below meth c g 8 500 100000 Q σ 148 [(4, .int 0), (3, .ref (b + 431)), (2, .ref (b + 405)), (1, .ref (b + 0)), (0, .ref bS)] [] := by
  have hK := fz_lay hF
  refine z_eqs (σ' := (ap b σ [] [] [])) rfl ?_
  refine z_aload_n B dL_law_148 rfl 3 rfl ?_
  refine z_aload_n B dL_law_149 rfl 4 rfl ?_
  refine z_iload B dL_law_150 0 rfl ?_
  refine z_iconst (v := 1) B dL_law_152 (by decide) ?_
  refine z_iadd B dL_law_153 ?_
  refine z_seti (y := 1) (by decide) ?_
  refine z_sld (j := 1) (x := 5) B hX hbl hbA (by decide) (show ¬ ((1 : Int32) < 0 ∨ 6 ≤ (1 : Int32).toNatClampNeg) by decide) h_x1 dL_law_154 ?_
  refine z_aload_n B dL_law_155 rfl 4 rfl ?_
  refine z_iload B dL_law_156 0 rfl ?_
  refine z_iconst (v := 2) B dL_law_158 (by decide) ?_
  refine z_iadd B dL_law_159 ?_
  refine z_seti (y := 2) (by decide) ?_
  refine z_sld (j := 2) (x := x2) B hX hbl hbA (by decide) (show ¬ ((2 : Int32) < 0 ∨ 6 ≤ (2 : Int32).toNatClampNeg) by decide) h_x2 dL_law_160 ?_
  refine z_aload_n B dL_law_161 rfl 4 rfl ?_
  refine z_iload B dL_law_162 0 rfl ?_
  refine z_iconst (v := 3) B dL_law_164 (by decide) ?_
  refine z_iadd B dL_law_165 ?_
  refine z_seti (y := 3) (by decide) ?_
  refine z_sld (j := 3) (x := x3) B hX hbl hbA (by decide) (show ¬ ((3 : Int32) < 0 ∨ 6 ≤ (3 : Int32).toNatClampNeg) by decide) h_x3 dL_law_166 ?_
  refine z_aload_n B dL_law_167 rfl 4 rfl ?_
  refine z_iload B dL_law_168 0 rfl ?_
  refine z_iconst (v := 4) B dL_law_170 (by decide) ?_
  refine z_iadd B dL_law_171 ?_
  refine z_seti (y := 4) (by decide) ?_
  refine z_sld (j := 4) (x := x4) B hX hbl hbA (by decide) (show ¬ ((4 : Int32) < 0 ∨ 6 ≤ (4 : Int32).toNatClampNeg) by decide) h_x4 dL_law_172 ?_
  refine z_aload_n B dL_law_173 rfl 4 rfl ?_
  refine z_iload B dL_law_174 0 rfl ?_
  refine z_iconst (v := 5) B dL_law_176 (by decide) ?_
  refine z_iadd B dL_law_177 ?_
  refine z_seti (y := 5) (by decide) ?_
  refine z_sld (j := 5) (x := x5) B hX hbl hbA (by decide) (show ¬ ((5 : Int32) < 0 ∨ 6 ≤ (5 : Int32).toNatClampNeg) by decide) h_x5 dL_law_178 ?_
  refine z_aload_n B dL_law_179 rfl 1 rfl ?_
  refine z_cSWi (As := [.ref (b + 0), .int 5, .int x2, .int x3, .int x4, .int x5, .ref (b + 431)]) (rest := []) B cw_L_74 dL_law_180 (ci_L_set_358 l hlt (σ := (ap b σ [] [] [])) (b := b) (lyA hK) x2 x3 x4 x5 q1_x2 q2_x2 (rR_at 0 0 (fz_R hF 0 0 rfl rfl)) (rR_at 1 5 (fz_R hF 1 5 rfl rfl))) rfl (by decide) rfl (Nat.le_of_ble_eq_true rfl) (by decide) (fun r u hu => ?_)
  obtain ⟨hu1, z, hu⟩ := hu
  refine z_eqs (σ' := (ap b (wx_Z σ z) [] [] [])) (hu.trans az_ap) ?_
  show zx p l e _ s m _ below meth c g 8 _ _ _ _ 183 [(4, .int 0), (3, .ref (b + 431)), (2, .ref (b + 405)), (1, .ref (b + 0)), (0, .ref bS)] _
  refine z_seti (y := 1) hu1 ?_
  refine z_istore (lv' := [(5, .int 1), (4, .int 0), (3, .ref (b + 431)), (2, .ref (b + 405)), (1, .ref (b + 0)), (0, .ref bS)]) B dL_law_183 (by decide) rfl ?_
  refine z_aload_n B dL_law_185 rfl 3 rfl ?_
  refine z_aload_n B dL_law_186 rfl 5 rfl ?_
  refine z_iload B dL_law_187 1 rfl ?_
  refine z_iconst (v := 1) B dL_law_189 (by decide) ?_
  refine z_iadd B dL_law_190 ?_
  refine z_seti (y := 1) (by decide) ?_
  refine z_sld (j := 1) (x := 5) B hX hbl hbA (by decide) (show ¬ ((1 : Int32) < 0 ∨ 6 ≤ (1 : Int32).toNatClampNeg) by decide) h_x1 dL_law_191 ?_
  refine z_aload_n B dL_law_192 rfl 5 rfl ?_
  refine z_iload B dL_law_193 1 rfl ?_
  refine z_iconst (v := 2) B dL_law_195 (by decide) ?_
  refine z_iadd B dL_law_196 ?_
  refine z_seti (y := 2) (by decide) ?_
  refine z_sld (j := 2) (x := x2) B hX hbl hbA (by decide) (show ¬ ((2 : Int32) < 0 ∨ 6 ≤ (2 : Int32).toNatClampNeg) by decide) h_x2 dL_law_197 ?_
  refine z_aload_n B dL_law_198 rfl 5 rfl ?_
  refine z_iload B dL_law_199 1 rfl ?_
  refine z_iconst (v := 3) B dL_law_201 (by decide) ?_
  refine z_iadd B dL_law_202 ?_
  refine z_seti (y := 3) (by decide) ?_
  refine z_sld (j := 3) (x := x3) B hX hbl hbA (by decide) (show ¬ ((3 : Int32) < 0 ∨ 6 ≤ (3 : Int32).toNatClampNeg) by decide) h_x3 dL_law_203 ?_
  refine z_aload_n B dL_law_204 rfl 5 rfl ?_
  refine z_iload B dL_law_205 1 rfl ?_
  refine z_iconst (v := 4) B dL_law_207 (by decide) ?_
  refine z_iadd B dL_law_208 ?_
  refine z_seti (y := 4) (by decide) ?_
  refine z_sld (j := 4) (x := x4) B hX hbl hbA (by decide) (show ¬ ((4 : Int32) < 0 ∨ 6 ≤ (4 : Int32).toNatClampNeg) by decide) h_x4 dL_law_209 ?_
  refine z_aload_n B dL_law_210 rfl 5 rfl ?_
  refine z_iload B dL_law_211 1 rfl ?_
  refine z_iconst (v := 5) B dL_law_213 (by decide) ?_
  refine z_iadd B dL_law_214 ?_
  refine z_seti (y := 5) (by decide) ?_
  refine z_sld (j := 5) (x := x5) B hX hbl hbA (by decide) (show ¬ ((5 : Int32) < 0 ∨ 6 ≤ (5 : Int32).toNatClampNeg) by decide) h_x5 dL_law_215 ?_
  refine z_cVi (As := [.int 5, .int x2, .int x3, .int x4, .int x5]) (rest := []) B cw_L_79 cx_10 dL_law_216 (ci_X9_set_362 l (σ := (ap b (wx_Z σ z) [] [] [])) (b := b) (lyA (lyZ hK)) x2 x3 x4 x5 q1_x2 q2_x2 q1_x3 q2_x3 q1_x4 q2_x4 q1_x5 q2_x5) (lKA (lKZ (hk_K hK 405 rfl rfl))) rfl (by decide) rfl (Nat.le_of_ble_eq_true rfl) (by decide) (fun r u hu => ?_)
  refine z_eqs (σ' := (ap b (wx_Z σ z) [(405, 0, 1)] [] [])) (hu.2.trans ap_ap) ?_
  show zx p l e _ s m _ below meth c g 8 _ _ _ _ 219 [(5, .int 1), (4, .int 0), (3, .ref (b + 431)), (2, .ref (b + 405)), (1, .ref (b + 0)), (0, .ref bS)] _
  refine z_seti (y := 0) hu.1 ?_
  refine z_istore (lv' := [(6, .int 0), (5, .int 1), (4, .int 0), (3, .ref (b + 431)), (2, .ref (b + 405)), (1, .ref (b + 0)), (0, .ref bS)]) B dL_law_219 (by decide) rfl ?_
  refine z_aload_n B dL_law_221 rfl 4 rfl ?_
  refine z_cVi (As := []) (rest := []) B cw_L_80 cx_10 dL_law_222 (ci_X9_thrown_31 l (σ := (ap b (wx_Z σ z) [(405, 0, 1)] [] [])) (b := b) (lyA (lyZ hK)) (rI_at 405 0 rfl)) (lKA (lKZ (hk_K hK 405 rfl rfl))) rfl (by decide) rfl (Nat.le_of_ble_eq_true rfl) (by decide) (fun r u hu => ?_)
  refine z_eqs (σ' := (ap b (wx_Z σ z) [(405, 0, 1)] [] [])) hu.2 ?_
  show zx p l e _ s m _ below meth c g 8 _ _ _ _ 225 [(6, .int 0), (5, .int 1), (4, .int 0), (3, .ref (b + 431)), (2, .ref (b + 405)), (1, .ref (b + 0)), (0, .ref bS)] _
  refine z_seti (y := 1) hu.1 ?_
  refine z_iload B dL_law_225 1 rfl ?_
  refine z_icmp_eq (tgt := 232) B dL_law_227 (by decide) (fun _ => ?_) (fun h => absurd (by decide) h)
  refine z_iload B dL_law_232 1 rfl ?_
  refine z_if_ne (tgt := 249) B dL_law_234 (by decide) (fun _ => ?_) (fun h => absurd h (by decide))
  refine z_goto (tgt := 1395) B dL_law_249 (by decide) ?_
  exact z_widen (Nat.le_of_ble_eq_true rfl) (Nat.le_of_ble_eq_true rfl) (z_sub _ [2, 6] rfl (kk _))
set_option maxRecDepth 100000 in
set_option maxHeartbeats 4000000 in
theorem lf_0_129 {p : Program} {l : Launch} {e : Env} {s : State} {m : MethodId} {args : Array Value} {below : List Frame} {meth : Method} {c : Code} {g : gx_T} {Q : State → Prop} {σ : sx_T} {b t bS : Nat} {xs : Nat → Int32} (hlt : l.stackTraces = false) (B : zx_B p s m args meth c code RL 8 g) (hX : va_X bS 6 xs s s.heap) (hbl : bS < s.heap.size) (hbA : ¬ gx_b g ≤ bS) (hF : fz_P b t σ) (h_x1 : xs 1 = 5) {x2 : Int32} (h_x2 : xs 2 = x2) (q1_x2 : (20 : Int) ≤ x2.toInt) (q2_x2 : x2.toInt ≤ (2147483647 : Int)) {x3 : Int32} (h_x3 : xs 3 = x3) (q1_x3 : (0 : Int) ≤ x3.toInt) (q2_x3 : x3.toInt ≤ (17 : Int)) {x4 : Int32} (h_x4 : xs 4 = x4) (q1_x4 : (0 : Int) ≤ x4.toInt) (q2_x4 : x4.toInt ≤ (99 : Int)) {x5 : Int32} (h_x5 : xs 5 = x5) (q1_x5 : (0 : Int) ≤ x5.toInt) (q2_x5 : x5.toInt ≤ (99 : Int)) (kk : ∀ σ', zx p l e room_1 s m args below meth c g 8 600002 7302232 Q σ' 1395 [(4, .int 0), (0, .ref bS)] []) : zx p l e room_1 s m args below meth c g 8 500 100000 Q σ 148 [(4, .int 0), (3, .ref (b + 431)), (2, .ref (b + 405)), (1, .ref (b + 0)), (0, .ref bS)] [] := by
  have hK := fz_lay hF
  refine z_eqs (σ' := (ap b σ [] [] [])) rfl ?_
  refine z_aload_n B dL_law_148 rfl 3 rfl ?_
  refine z_aload_n B dL_law_149 rfl 4 rfl ?_
  refine z_iload B dL_law_150 0 rfl ?_
  refine z_iconst (v := 1) B dL_law_152 (by decide) ?_
  refine z_iadd B dL_law_153 ?_
  refine z_seti (y := 1) (by decide) ?_
  refine z_sld (j := 1) (x := 5) B hX hbl hbA (by decide) (show ¬ ((1 : Int32) < 0 ∨ 6 ≤ (1 : Int32).toNatClampNeg) by decide) h_x1 dL_law_154 ?_
  refine z_aload_n B dL_law_155 rfl 4 rfl ?_
  refine z_iload B dL_law_156 0 rfl ?_
  refine z_iconst (v := 2) B dL_law_158 (by decide) ?_
  refine z_iadd B dL_law_159 ?_
  refine z_seti (y := 2) (by decide) ?_
  refine z_sld (j := 2) (x := x2) B hX hbl hbA (by decide) (show ¬ ((2 : Int32) < 0 ∨ 6 ≤ (2 : Int32).toNatClampNeg) by decide) h_x2 dL_law_160 ?_
  refine z_aload_n B dL_law_161 rfl 4 rfl ?_
  refine z_iload B dL_law_162 0 rfl ?_
  refine z_iconst (v := 3) B dL_law_164 (by decide) ?_
  refine z_iadd B dL_law_165 ?_
  refine z_seti (y := 3) (by decide) ?_
  refine z_sld (j := 3) (x := x3) B hX hbl hbA (by decide) (show ¬ ((3 : Int32) < 0 ∨ 6 ≤ (3 : Int32).toNatClampNeg) by decide) h_x3 dL_law_166 ?_
  refine z_aload_n B dL_law_167 rfl 4 rfl ?_
  refine z_iload B dL_law_168 0 rfl ?_
  refine z_iconst (v := 4) B dL_law_170 (by decide) ?_
  refine z_iadd B dL_law_171 ?_
  refine z_seti (y := 4) (by decide) ?_
  refine z_sld (j := 4) (x := x4) B hX hbl hbA (by decide) (show ¬ ((4 : Int32) < 0 ∨ 6 ≤ (4 : Int32).toNatClampNeg) by decide) h_x4 dL_law_172 ?_
  refine z_aload_n B dL_law_173 rfl 4 rfl ?_
  refine z_iload B dL_law_174 0 rfl ?_
  refine z_iconst (v := 5) B dL_law_176 (by decide) ?_
  refine z_iadd B dL_law_177 ?_
  refine z_seti (y := 5) (by decide) ?_
  refine z_sld (j := 5) (x := x5) B hX hbl hbA (by decide) (show ¬ ((5 : Int32) < 0 ∨ 6 ≤ (5 : Int32).toNatClampNeg) by decide) h_x5 dL_law_178 ?_
  refine z_aload_n B dL_law_179 rfl 1 rfl ?_
  refine z_cSWi (As := [.ref (b + 0), .int 5, .int x2, .int x3, .int x4, .int x5, .ref (b + 431)]) (rest := []) B cw_L_74 dL_law_180 (ci_L_set_358 l hlt (σ := (ap b σ [] [] [])) (b := b) (lyA hK) x2 x3 x4 x5 q1_x2 q2_x2 (rR_at 0 0 (fz_R hF 0 0 rfl rfl)) (rR_at 1 5 (fz_R hF 1 5 rfl rfl))) rfl (by decide) rfl (Nat.le_of_ble_eq_true rfl) (by decide) (fun r u hu => ?_)
  obtain ⟨hu1, z, hu⟩ := hu
  refine z_eqs (σ' := (ap b (wx_Z σ z) [] [] [])) (hu.trans az_ap) ?_
  show zx p l e _ s m _ below meth c g 8 _ _ _ _ 183 [(4, .int 0), (3, .ref (b + 431)), (2, .ref (b + 405)), (1, .ref (b + 0)), (0, .ref bS)] _
  refine z_seti (y := 1) hu1 ?_
  refine z_istore (lv' := [(5, .int 1), (4, .int 0), (3, .ref (b + 431)), (2, .ref (b + 405)), (1, .ref (b + 0)), (0, .ref bS)]) B dL_law_183 (by decide) rfl ?_
  refine z_aload_n B dL_law_185 rfl 3 rfl ?_
  refine z_aload_n B dL_law_186 rfl 5 rfl ?_
  refine z_iload B dL_law_187 1 rfl ?_
  refine z_iconst (v := 1) B dL_law_189 (by decide) ?_
  refine z_iadd B dL_law_190 ?_
  refine z_seti (y := 1) (by decide) ?_
  refine z_sld (j := 1) (x := 5) B hX hbl hbA (by decide) (show ¬ ((1 : Int32) < 0 ∨ 6 ≤ (1 : Int32).toNatClampNeg) by decide) h_x1 dL_law_191 ?_
  refine z_aload_n B dL_law_192 rfl 5 rfl ?_
  refine z_iload B dL_law_193 1 rfl ?_
  refine z_iconst (v := 2) B dL_law_195 (by decide) ?_
  refine z_iadd B dL_law_196 ?_
  refine z_seti (y := 2) (by decide) ?_
  refine z_sld (j := 2) (x := x2) B hX hbl hbA (by decide) (show ¬ ((2 : Int32) < 0 ∨ 6 ≤ (2 : Int32).toNatClampNeg) by decide) h_x2 dL_law_197 ?_
  refine z_aload_n B dL_law_198 rfl 5 rfl ?_
  refine z_iload B dL_law_199 1 rfl ?_
  refine z_iconst (v := 3) B dL_law_201 (by decide) ?_
  refine z_iadd B dL_law_202 ?_
  refine z_seti (y := 3) (by decide) ?_
  refine z_sld (j := 3) (x := x3) B hX hbl hbA (by decide) (show ¬ ((3 : Int32) < 0 ∨ 6 ≤ (3 : Int32).toNatClampNeg) by decide) h_x3 dL_law_203 ?_
  refine z_aload_n B dL_law_204 rfl 5 rfl ?_
  refine z_iload B dL_law_205 1 rfl ?_
  refine z_iconst (v := 4) B dL_law_207 (by decide) ?_
  refine z_iadd B dL_law_208 ?_
  refine z_seti (y := 4) (by decide) ?_
  refine z_sld (j := 4) (x := x4) B hX hbl hbA (by decide) (show ¬ ((4 : Int32) < 0 ∨ 6 ≤ (4 : Int32).toNatClampNeg) by decide) h_x4 dL_law_209 ?_
  refine z_aload_n B dL_law_210 rfl 5 rfl ?_
  refine z_iload B dL_law_211 1 rfl ?_
  refine z_iconst (v := 5) B dL_law_213 (by decide) ?_
  refine z_iadd B dL_law_214 ?_
  refine z_seti (y := 5) (by decide) ?_
  refine z_sld (j := 5) (x := x5) B hX hbl hbA (by decide) (show ¬ ((5 : Int32) < 0 ∨ 6 ≤ (5 : Int32).toNatClampNeg) by decide) h_x5 dL_law_215 ?_
  refine z_cVi (As := [.int 5, .int x2, .int x3, .int x4, .int x5]) (rest := []) B cw_L_79 cx_10 dL_law_216 (ci_X9_set_363 l (σ := (ap b (wx_Z σ z) [] [] [])) (b := b) (lyA (lyZ hK)) x2 x3 x4 x5 q1_x2 q2_x2 q1_x3 q2_x3 q1_x4 q2_x4 q1_x5 q2_x5) (lKA (lKZ (hk_K hK 405 rfl rfl))) rfl (by decide) rfl (Nat.le_of_ble_eq_true rfl) (by decide) (fun r u hu => ?_)
  refine z_eqs (σ' := (ap b (wx_Z σ z) [(405, 0, 1)] [] [])) (hu.2.trans ap_ap) ?_
  show zx p l e _ s m _ below meth c g 8 _ _ _ _ 219 [(5, .int 1), (4, .int 0), (3, .ref (b + 431)), (2, .ref (b + 405)), (1, .ref (b + 0)), (0, .ref bS)] _
  refine z_seti (y := 0) hu.1 ?_
  refine z_istore (lv' := [(6, .int 0), (5, .int 1), (4, .int 0), (3, .ref (b + 431)), (2, .ref (b + 405)), (1, .ref (b + 0)), (0, .ref bS)]) B dL_law_219 (by decide) rfl ?_
  refine z_aload_n B dL_law_221 rfl 4 rfl ?_
  refine z_cVi (As := []) (rest := []) B cw_L_80 cx_10 dL_law_222 (ci_X9_thrown_31 l (σ := (ap b (wx_Z σ z) [(405, 0, 1)] [] [])) (b := b) (lyA (lyZ hK)) (rI_at 405 0 rfl)) (lKA (lKZ (hk_K hK 405 rfl rfl))) rfl (by decide) rfl (Nat.le_of_ble_eq_true rfl) (by decide) (fun r u hu => ?_)
  refine z_eqs (σ' := (ap b (wx_Z σ z) [(405, 0, 1)] [] [])) hu.2 ?_
  show zx p l e _ s m _ below meth c g 8 _ _ _ _ 225 [(6, .int 0), (5, .int 1), (4, .int 0), (3, .ref (b + 431)), (2, .ref (b + 405)), (1, .ref (b + 0)), (0, .ref bS)] _
  refine z_seti (y := 1) hu.1 ?_
  refine z_iload B dL_law_225 1 rfl ?_
  refine z_icmp_eq (tgt := 232) B dL_law_227 (by decide) (fun _ => ?_) (fun h => absurd (by decide) h)
  refine z_iload B dL_law_232 1 rfl ?_
  refine z_if_ne (tgt := 249) B dL_law_234 (by decide) (fun _ => ?_) (fun h => absurd h (by decide))
  refine z_goto (tgt := 1395) B dL_law_249 (by decide) ?_
  exact z_widen (Nat.le_of_ble_eq_true rfl) (Nat.le_of_ble_eq_true rfl) (z_sub _ [2, 6] rfl (kk _))
set_option maxRecDepth 100000 in
set_option maxHeartbeats 4000000 in
theorem lf_0_130 {p : Program} {l : Launch} {e : Env} {s : State} {m : MethodId} {args : Array Value} {below : List Frame} {meth : Method} {c : Code} {g : gx_T} {Q : State → Prop} {σ : sx_T} {b t bS : Nat} {xs : Nat → Int32} (hlt : l.stackTraces = false) (B : zx_B p s m args meth c code RL 8 g) (hX : va_X bS 6 xs s s.heap) (hbl : bS < s.heap.size) (hbA : ¬ gx_b g ≤ bS) (hF : fz_P b t σ) (h_x1 : xs 1 = 5) {x2 : Int32} (h_x2 : xs 2 = x2) (q1_x2 : (20 : Int) ≤ x2.toInt) (q2_x2 : x2.toInt ≤ (2147483647 : Int)) {x3 : Int32} (h_x3 : xs 3 = x3) (q1_x3 : (0 : Int) ≤ x3.toInt) (q2_x3 : x3.toInt ≤ (17 : Int)) {x4 : Int32} (h_x4 : xs 4 = x4) (q1_x4 : (0 : Int) ≤ x4.toInt) (q2_x4 : x4.toInt ≤ (99 : Int)) {x5 : Int32} (h_x5 : xs 5 = x5) (q1_x5 : (100 : Int) ≤ x5.toInt) (q2_x5 : x5.toInt ≤ (2147483647 : Int)) (kk : ∀ σ', zx p l e room_1 s m args below meth c g 8 600002 7302232 Q σ' 1395 [(4, .int 0), (0, .ref bS)] []) : zx p l e room_1 s m args below meth c g 8 500 100000 Q σ 148 [(4, .int 0), (3, .ref (b + 431)), (2, .ref (b + 405)), (1, .ref (b + 0)), (0, .ref bS)] [] := by
  have hK := fz_lay hF
  refine z_eqs (σ' := (ap b σ [] [] [])) rfl ?_
  refine z_aload_n B dL_law_148 rfl 3 rfl ?_
  refine z_aload_n B dL_law_149 rfl 4 rfl ?_
  refine z_iload B dL_law_150 0 rfl ?_
  refine z_iconst (v := 1) B dL_law_152 (by decide) ?_
  refine z_iadd B dL_law_153 ?_
  refine z_seti (y := 1) (by decide) ?_
  refine z_sld (j := 1) (x := 5) B hX hbl hbA (by decide) (show ¬ ((1 : Int32) < 0 ∨ 6 ≤ (1 : Int32).toNatClampNeg) by decide) h_x1 dL_law_154 ?_
  refine z_aload_n B dL_law_155 rfl 4 rfl ?_
  refine z_iload B dL_law_156 0 rfl ?_
  refine z_iconst (v := 2) B dL_law_158 (by decide) ?_
  refine z_iadd B dL_law_159 ?_
  refine z_seti (y := 2) (by decide) ?_
  refine z_sld (j := 2) (x := x2) B hX hbl hbA (by decide) (show ¬ ((2 : Int32) < 0 ∨ 6 ≤ (2 : Int32).toNatClampNeg) by decide) h_x2 dL_law_160 ?_
  refine z_aload_n B dL_law_161 rfl 4 rfl ?_
  refine z_iload B dL_law_162 0 rfl ?_
  refine z_iconst (v := 3) B dL_law_164 (by decide) ?_
  refine z_iadd B dL_law_165 ?_
  refine z_seti (y := 3) (by decide) ?_
  refine z_sld (j := 3) (x := x3) B hX hbl hbA (by decide) (show ¬ ((3 : Int32) < 0 ∨ 6 ≤ (3 : Int32).toNatClampNeg) by decide) h_x3 dL_law_166 ?_
  refine z_aload_n B dL_law_167 rfl 4 rfl ?_
  refine z_iload B dL_law_168 0 rfl ?_
  refine z_iconst (v := 4) B dL_law_170 (by decide) ?_
  refine z_iadd B dL_law_171 ?_
  refine z_seti (y := 4) (by decide) ?_
  refine z_sld (j := 4) (x := x4) B hX hbl hbA (by decide) (show ¬ ((4 : Int32) < 0 ∨ 6 ≤ (4 : Int32).toNatClampNeg) by decide) h_x4 dL_law_172 ?_
  refine z_aload_n B dL_law_173 rfl 4 rfl ?_
  refine z_iload B dL_law_174 0 rfl ?_
  refine z_iconst (v := 5) B dL_law_176 (by decide) ?_
  refine z_iadd B dL_law_177 ?_
  refine z_seti (y := 5) (by decide) ?_
  refine z_sld (j := 5) (x := x5) B hX hbl hbA (by decide) (show ¬ ((5 : Int32) < 0 ∨ 6 ≤ (5 : Int32).toNatClampNeg) by decide) h_x5 dL_law_178 ?_
  refine z_aload_n B dL_law_179 rfl 1 rfl ?_
  refine z_cSWi (As := [.ref (b + 0), .int 5, .int x2, .int x3, .int x4, .int x5, .ref (b + 431)]) (rest := []) B cw_L_74 dL_law_180 (ci_L_set_358 l hlt (σ := (ap b σ [] [] [])) (b := b) (lyA hK) x2 x3 x4 x5 q1_x2 q2_x2 (rR_at 0 0 (fz_R hF 0 0 rfl rfl)) (rR_at 1 5 (fz_R hF 1 5 rfl rfl))) rfl (by decide) rfl (Nat.le_of_ble_eq_true rfl) (by decide) (fun r u hu => ?_)
  obtain ⟨hu1, z, hu⟩ := hu
  refine z_eqs (σ' := (ap b (wx_Z σ z) [] [] [])) (hu.trans az_ap) ?_
  show zx p l e _ s m _ below meth c g 8 _ _ _ _ 183 [(4, .int 0), (3, .ref (b + 431)), (2, .ref (b + 405)), (1, .ref (b + 0)), (0, .ref bS)] _
  refine z_seti (y := 1) hu1 ?_
  refine z_istore (lv' := [(5, .int 1), (4, .int 0), (3, .ref (b + 431)), (2, .ref (b + 405)), (1, .ref (b + 0)), (0, .ref bS)]) B dL_law_183 (by decide) rfl ?_
  refine z_aload_n B dL_law_185 rfl 3 rfl ?_
  refine z_aload_n B dL_law_186 rfl 5 rfl ?_
  refine z_iload B dL_law_187 1 rfl ?_
  refine z_iconst (v := 1) B dL_law_189 (by decide) ?_
  refine z_iadd B dL_law_190 ?_
  refine z_seti (y := 1) (by decide) ?_
  refine z_sld (j := 1) (x := 5) B hX hbl hbA (by decide) (show ¬ ((1 : Int32) < 0 ∨ 6 ≤ (1 : Int32).toNatClampNeg) by decide) h_x1 dL_law_191 ?_
  refine z_aload_n B dL_law_192 rfl 5 rfl ?_
  refine z_iload B dL_law_193 1 rfl ?_
  refine z_iconst (v := 2) B dL_law_195 (by decide) ?_
  refine z_iadd B dL_law_196 ?_
  refine z_seti (y := 2) (by decide) ?_
  refine z_sld (j := 2) (x := x2) B hX hbl hbA (by decide) (show ¬ ((2 : Int32) < 0 ∨ 6 ≤ (2 : Int32).toNatClampNeg) by decide) h_x2 dL_law_197 ?_
  refine z_aload_n B dL_law_198 rfl 5 rfl ?_
  refine z_iload B dL_law_199 1 rfl ?_
  refine z_iconst (v := 3) B dL_law_201 (by decide) ?_
  refine z_iadd B dL_law_202 ?_
  refine z_seti (y := 3) (by decide) ?_
  refine z_sld (j := 3) (x := x3) B hX hbl hbA (by decide) (show ¬ ((3 : Int32) < 0 ∨ 6 ≤ (3 : Int32).toNatClampNeg) by decide) h_x3 dL_law_203 ?_
  refine z_aload_n B dL_law_204 rfl 5 rfl ?_
  refine z_iload B dL_law_205 1 rfl ?_
  refine z_iconst (v := 4) B dL_law_207 (by decide) ?_
  refine z_iadd B dL_law_208 ?_
  refine z_seti (y := 4) (by decide) ?_
  refine z_sld (j := 4) (x := x4) B hX hbl hbA (by decide) (show ¬ ((4 : Int32) < 0 ∨ 6 ≤ (4 : Int32).toNatClampNeg) by decide) h_x4 dL_law_209 ?_
  refine z_aload_n B dL_law_210 rfl 5 rfl ?_
  refine z_iload B dL_law_211 1 rfl ?_
  refine z_iconst (v := 5) B dL_law_213 (by decide) ?_
  refine z_iadd B dL_law_214 ?_
  refine z_seti (y := 5) (by decide) ?_
  refine z_sld (j := 5) (x := x5) B hX hbl hbA (by decide) (show ¬ ((5 : Int32) < 0 ∨ 6 ≤ (5 : Int32).toNatClampNeg) by decide) h_x5 dL_law_215 ?_
  refine z_cVi (As := [.int 5, .int x2, .int x3, .int x4, .int x5]) (rest := []) B cw_L_79 cx_10 dL_law_216 (ci_X9_set_364 l (σ := (ap b (wx_Z σ z) [] [] [])) (b := b) (lyA (lyZ hK)) x2 x3 x4 x5 q1_x2 q2_x2 q1_x3 q2_x3 q1_x4 q2_x4 q1_x5 q2_x5) (lKA (lKZ (hk_K hK 405 rfl rfl))) rfl (by decide) rfl (Nat.le_of_ble_eq_true rfl) (by decide) (fun r u hu => ?_)
  refine z_eqs (σ' := (ap b (wx_Z σ z) [(405, 0, 1)] [] [])) (hu.2.trans ap_ap) ?_
  show zx p l e _ s m _ below meth c g 8 _ _ _ _ 219 [(5, .int 1), (4, .int 0), (3, .ref (b + 431)), (2, .ref (b + 405)), (1, .ref (b + 0)), (0, .ref bS)] _
  refine z_seti (y := 0) hu.1 ?_
  refine z_istore (lv' := [(6, .int 0), (5, .int 1), (4, .int 0), (3, .ref (b + 431)), (2, .ref (b + 405)), (1, .ref (b + 0)), (0, .ref bS)]) B dL_law_219 (by decide) rfl ?_
  refine z_aload_n B dL_law_221 rfl 4 rfl ?_
  refine z_cVi (As := []) (rest := []) B cw_L_80 cx_10 dL_law_222 (ci_X9_thrown_31 l (σ := (ap b (wx_Z σ z) [(405, 0, 1)] [] [])) (b := b) (lyA (lyZ hK)) (rI_at 405 0 rfl)) (lKA (lKZ (hk_K hK 405 rfl rfl))) rfl (by decide) rfl (Nat.le_of_ble_eq_true rfl) (by decide) (fun r u hu => ?_)
  refine z_eqs (σ' := (ap b (wx_Z σ z) [(405, 0, 1)] [] [])) hu.2 ?_
  show zx p l e _ s m _ below meth c g 8 _ _ _ _ 225 [(6, .int 0), (5, .int 1), (4, .int 0), (3, .ref (b + 431)), (2, .ref (b + 405)), (1, .ref (b + 0)), (0, .ref bS)] _
  refine z_seti (y := 1) hu.1 ?_
  refine z_iload B dL_law_225 1 rfl ?_
  refine z_icmp_eq (tgt := 232) B dL_law_227 (by decide) (fun _ => ?_) (fun h => absurd (by decide) h)
  refine z_iload B dL_law_232 1 rfl ?_
  refine z_if_ne (tgt := 249) B dL_law_234 (by decide) (fun _ => ?_) (fun h => absurd h (by decide))
  refine z_goto (tgt := 1395) B dL_law_249 (by decide) ?_
  exact z_widen (Nat.le_of_ble_eq_true rfl) (Nat.le_of_ble_eq_true rfl) (z_sub _ [2, 6] rfl (kk _))
set_option maxRecDepth 100000 in
set_option maxHeartbeats 4000000 in
theorem lf_0_131 {p : Program} {l : Launch} {e : Env} {s : State} {m : MethodId} {args : Array Value} {below : List Frame} {meth : Method} {c : Code} {g : gx_T} {Q : State → Prop} {σ : sx_T} {b t bS : Nat} {xs : Nat → Int32} (hlt : l.stackTraces = false) (B : zx_B p s m args meth c code RL 8 g) (hX : va_X bS 6 xs s s.heap) (hbl : bS < s.heap.size) (hbA : ¬ gx_b g ≤ bS) (hF : fz_P b t σ) (h_x1 : xs 1 = 5) {x2 : Int32} (h_x2 : xs 2 = x2) (q1_x2 : (20 : Int) ≤ x2.toInt) (q2_x2 : x2.toInt ≤ (2147483647 : Int)) {x3 : Int32} (h_x3 : xs 3 = x3) (q1_x3 : (0 : Int) ≤ x3.toInt) (q2_x3 : x3.toInt ≤ (17 : Int)) {x4 : Int32} (h_x4 : xs 4 = x4) (q1_x4 : (100 : Int) ≤ x4.toInt) (q2_x4 : x4.toInt ≤ (2147483647 : Int)) {x5 : Int32} (h_x5 : xs 5 = x5) (q1_x5 : (-2147483648 : Int) ≤ x5.toInt) (q2_x5 : x5.toInt ≤ (2147483647 : Int)) (kk : ∀ σ', zx p l e room_1 s m args below meth c g 8 600002 7302232 Q σ' 1395 [(4, .int 0), (0, .ref bS)] []) : zx p l e room_1 s m args below meth c g 8 500 100000 Q σ 148 [(4, .int 0), (3, .ref (b + 431)), (2, .ref (b + 405)), (1, .ref (b + 0)), (0, .ref bS)] [] := by
  have hK := fz_lay hF
  refine z_eqs (σ' := (ap b σ [] [] [])) rfl ?_
  refine z_aload_n B dL_law_148 rfl 3 rfl ?_
  refine z_aload_n B dL_law_149 rfl 4 rfl ?_
  refine z_iload B dL_law_150 0 rfl ?_
  refine z_iconst (v := 1) B dL_law_152 (by decide) ?_
  refine z_iadd B dL_law_153 ?_
  refine z_seti (y := 1) (by decide) ?_
  refine z_sld (j := 1) (x := 5) B hX hbl hbA (by decide) (show ¬ ((1 : Int32) < 0 ∨ 6 ≤ (1 : Int32).toNatClampNeg) by decide) h_x1 dL_law_154 ?_
  refine z_aload_n B dL_law_155 rfl 4 rfl ?_
  refine z_iload B dL_law_156 0 rfl ?_
  refine z_iconst (v := 2) B dL_law_158 (by decide) ?_
  refine z_iadd B dL_law_159 ?_
  refine z_seti (y := 2) (by decide) ?_
  refine z_sld (j := 2) (x := x2) B hX hbl hbA (by decide) (show ¬ ((2 : Int32) < 0 ∨ 6 ≤ (2 : Int32).toNatClampNeg) by decide) h_x2 dL_law_160 ?_
  refine z_aload_n B dL_law_161 rfl 4 rfl ?_
  refine z_iload B dL_law_162 0 rfl ?_
  refine z_iconst (v := 3) B dL_law_164 (by decide) ?_
  refine z_iadd B dL_law_165 ?_
  refine z_seti (y := 3) (by decide) ?_
  refine z_sld (j := 3) (x := x3) B hX hbl hbA (by decide) (show ¬ ((3 : Int32) < 0 ∨ 6 ≤ (3 : Int32).toNatClampNeg) by decide) h_x3 dL_law_166 ?_
  refine z_aload_n B dL_law_167 rfl 4 rfl ?_
  refine z_iload B dL_law_168 0 rfl ?_
  refine z_iconst (v := 4) B dL_law_170 (by decide) ?_
  refine z_iadd B dL_law_171 ?_
  refine z_seti (y := 4) (by decide) ?_
  refine z_sld (j := 4) (x := x4) B hX hbl hbA (by decide) (show ¬ ((4 : Int32) < 0 ∨ 6 ≤ (4 : Int32).toNatClampNeg) by decide) h_x4 dL_law_172 ?_
  refine z_aload_n B dL_law_173 rfl 4 rfl ?_
  refine z_iload B dL_law_174 0 rfl ?_
  refine z_iconst (v := 5) B dL_law_176 (by decide) ?_
  refine z_iadd B dL_law_177 ?_
  refine z_seti (y := 5) (by decide) ?_
  refine z_sld (j := 5) (x := x5) B hX hbl hbA (by decide) (show ¬ ((5 : Int32) < 0 ∨ 6 ≤ (5 : Int32).toNatClampNeg) by decide) h_x5 dL_law_178 ?_
  refine z_aload_n B dL_law_179 rfl 1 rfl ?_
  refine z_cSWi (As := [.ref (b + 0), .int 5, .int x2, .int x3, .int x4, .int x5, .ref (b + 431)]) (rest := []) B cw_L_74 dL_law_180 (ci_L_set_358 l hlt (σ := (ap b σ [] [] [])) (b := b) (lyA hK) x2 x3 x4 x5 q1_x2 q2_x2 (rR_at 0 0 (fz_R hF 0 0 rfl rfl)) (rR_at 1 5 (fz_R hF 1 5 rfl rfl))) rfl (by decide) rfl (Nat.le_of_ble_eq_true rfl) (by decide) (fun r u hu => ?_)
  obtain ⟨hu1, z, hu⟩ := hu
  refine z_eqs (σ' := (ap b (wx_Z σ z) [] [] [])) (hu.trans az_ap) ?_
  show zx p l e _ s m _ below meth c g 8 _ _ _ _ 183 [(4, .int 0), (3, .ref (b + 431)), (2, .ref (b + 405)), (1, .ref (b + 0)), (0, .ref bS)] _
  refine z_seti (y := 1) hu1 ?_
  refine z_istore (lv' := [(5, .int 1), (4, .int 0), (3, .ref (b + 431)), (2, .ref (b + 405)), (1, .ref (b + 0)), (0, .ref bS)]) B dL_law_183 (by decide) rfl ?_
  refine z_aload_n B dL_law_185 rfl 3 rfl ?_
  refine z_aload_n B dL_law_186 rfl 5 rfl ?_
  refine z_iload B dL_law_187 1 rfl ?_
  refine z_iconst (v := 1) B dL_law_189 (by decide) ?_
  refine z_iadd B dL_law_190 ?_
  refine z_seti (y := 1) (by decide) ?_
  refine z_sld (j := 1) (x := 5) B hX hbl hbA (by decide) (show ¬ ((1 : Int32) < 0 ∨ 6 ≤ (1 : Int32).toNatClampNeg) by decide) h_x1 dL_law_191 ?_
  refine z_aload_n B dL_law_192 rfl 5 rfl ?_
  refine z_iload B dL_law_193 1 rfl ?_
  refine z_iconst (v := 2) B dL_law_195 (by decide) ?_
  refine z_iadd B dL_law_196 ?_
  refine z_seti (y := 2) (by decide) ?_
  refine z_sld (j := 2) (x := x2) B hX hbl hbA (by decide) (show ¬ ((2 : Int32) < 0 ∨ 6 ≤ (2 : Int32).toNatClampNeg) by decide) h_x2 dL_law_197 ?_
  refine z_aload_n B dL_law_198 rfl 5 rfl ?_
  refine z_iload B dL_law_199 1 rfl ?_
  refine z_iconst (v := 3) B dL_law_201 (by decide) ?_
  refine z_iadd B dL_law_202 ?_
  refine z_seti (y := 3) (by decide) ?_
  refine z_sld (j := 3) (x := x3) B hX hbl hbA (by decide) (show ¬ ((3 : Int32) < 0 ∨ 6 ≤ (3 : Int32).toNatClampNeg) by decide) h_x3 dL_law_203 ?_
  refine z_aload_n B dL_law_204 rfl 5 rfl ?_
  refine z_iload B dL_law_205 1 rfl ?_
  refine z_iconst (v := 4) B dL_law_207 (by decide) ?_
  refine z_iadd B dL_law_208 ?_
  refine z_seti (y := 4) (by decide) ?_
  refine z_sld (j := 4) (x := x4) B hX hbl hbA (by decide) (show ¬ ((4 : Int32) < 0 ∨ 6 ≤ (4 : Int32).toNatClampNeg) by decide) h_x4 dL_law_209 ?_
  refine z_aload_n B dL_law_210 rfl 5 rfl ?_
  refine z_iload B dL_law_211 1 rfl ?_
  refine z_iconst (v := 5) B dL_law_213 (by decide) ?_
  refine z_iadd B dL_law_214 ?_
  refine z_seti (y := 5) (by decide) ?_
  refine z_sld (j := 5) (x := x5) B hX hbl hbA (by decide) (show ¬ ((5 : Int32) < 0 ∨ 6 ≤ (5 : Int32).toNatClampNeg) by decide) h_x5 dL_law_215 ?_
  refine z_cVi (As := [.int 5, .int x2, .int x3, .int x4, .int x5]) (rest := []) B cw_L_79 cx_10 dL_law_216 (ci_X9_set_365 l (σ := (ap b (wx_Z σ z) [] [] [])) (b := b) (lyA (lyZ hK)) x2 x3 x4 x5 q1_x2 q2_x2 q1_x3 q2_x3 q1_x4 q2_x4) (lKA (lKZ (hk_K hK 405 rfl rfl))) rfl (by decide) rfl (Nat.le_of_ble_eq_true rfl) (by decide) (fun r u hu => ?_)
  refine z_eqs (σ' := (ap b (wx_Z σ z) [(405, 0, 1)] [] [])) (hu.2.trans ap_ap) ?_
  show zx p l e _ s m _ below meth c g 8 _ _ _ _ 219 [(5, .int 1), (4, .int 0), (3, .ref (b + 431)), (2, .ref (b + 405)), (1, .ref (b + 0)), (0, .ref bS)] _
  refine z_seti (y := 0) hu.1 ?_
  refine z_istore (lv' := [(6, .int 0), (5, .int 1), (4, .int 0), (3, .ref (b + 431)), (2, .ref (b + 405)), (1, .ref (b + 0)), (0, .ref bS)]) B dL_law_219 (by decide) rfl ?_
  refine z_aload_n B dL_law_221 rfl 4 rfl ?_
  refine z_cVi (As := []) (rest := []) B cw_L_80 cx_10 dL_law_222 (ci_X9_thrown_31 l (σ := (ap b (wx_Z σ z) [(405, 0, 1)] [] [])) (b := b) (lyA (lyZ hK)) (rI_at 405 0 rfl)) (lKA (lKZ (hk_K hK 405 rfl rfl))) rfl (by decide) rfl (Nat.le_of_ble_eq_true rfl) (by decide) (fun r u hu => ?_)
  refine z_eqs (σ' := (ap b (wx_Z σ z) [(405, 0, 1)] [] [])) hu.2 ?_
  show zx p l e _ s m _ below meth c g 8 _ _ _ _ 225 [(6, .int 0), (5, .int 1), (4, .int 0), (3, .ref (b + 431)), (2, .ref (b + 405)), (1, .ref (b + 0)), (0, .ref bS)] _
  refine z_seti (y := 1) hu.1 ?_
  refine z_iload B dL_law_225 1 rfl ?_
  refine z_icmp_eq (tgt := 232) B dL_law_227 (by decide) (fun _ => ?_) (fun h => absurd (by decide) h)
  refine z_iload B dL_law_232 1 rfl ?_
  refine z_if_ne (tgt := 249) B dL_law_234 (by decide) (fun _ => ?_) (fun h => absurd h (by decide))
  refine z_goto (tgt := 1395) B dL_law_249 (by decide) ?_
  exact z_widen (Nat.le_of_ble_eq_true rfl) (Nat.le_of_ble_eq_true rfl) (z_sub _ [2, 6] rfl (kk _))
set_option maxRecDepth 100000 in
set_option maxHeartbeats 4000000 in
theorem lf_0_132 {p : Program} {l : Launch} {e : Env} {s : State} {m : MethodId} {args : Array Value} {below : List Frame} {meth : Method} {c : Code} {g : gx_T} {Q : State → Prop} {σ : sx_T} {b t bS : Nat} {xs : Nat → Int32} (hlt : l.stackTraces = false) (B : zx_B p s m args meth c code RL 8 g) (hX : va_X bS 6 xs s s.heap) (hbl : bS < s.heap.size) (hbA : ¬ gx_b g ≤ bS) (hF : fz_P b t σ) (h_x1 : xs 1 = 5) {x2 : Int32} (h_x2 : xs 2 = x2) (q1_x2 : (20 : Int) ≤ x2.toInt) (q2_x2 : x2.toInt ≤ (2147483647 : Int)) {x3 : Int32} (h_x3 : xs 3 = x3) (q1_x3 : (18 : Int) ≤ x3.toInt) (q2_x3 : x3.toInt ≤ (2147483647 : Int)) {x4 : Int32} (h_x4 : xs 4 = x4) (q1_x4 : (-2147483648 : Int) ≤ x4.toInt) (q2_x4 : x4.toInt ≤ (2147483647 : Int)) {x5 : Int32} (h_x5 : xs 5 = x5) (q1_x5 : (-2147483648 : Int) ≤ x5.toInt) (q2_x5 : x5.toInt ≤ (2147483647 : Int)) (kk : ∀ σ', zx p l e room_1 s m args below meth c g 8 600002 7302232 Q σ' 1395 [(4, .int 0), (0, .ref bS)] []) : zx p l e room_1 s m args below meth c g 8 500 100000 Q σ 148 [(4, .int 0), (3, .ref (b + 431)), (2, .ref (b + 405)), (1, .ref (b + 0)), (0, .ref bS)] [] := by
  have hK := fz_lay hF
  refine z_eqs (σ' := (ap b σ [] [] [])) rfl ?_
  refine z_aload_n B dL_law_148 rfl 3 rfl ?_
  refine z_aload_n B dL_law_149 rfl 4 rfl ?_
  refine z_iload B dL_law_150 0 rfl ?_
  refine z_iconst (v := 1) B dL_law_152 (by decide) ?_
  refine z_iadd B dL_law_153 ?_
  refine z_seti (y := 1) (by decide) ?_
  refine z_sld (j := 1) (x := 5) B hX hbl hbA (by decide) (show ¬ ((1 : Int32) < 0 ∨ 6 ≤ (1 : Int32).toNatClampNeg) by decide) h_x1 dL_law_154 ?_
  refine z_aload_n B dL_law_155 rfl 4 rfl ?_
  refine z_iload B dL_law_156 0 rfl ?_
  refine z_iconst (v := 2) B dL_law_158 (by decide) ?_
  refine z_iadd B dL_law_159 ?_
  refine z_seti (y := 2) (by decide) ?_
  refine z_sld (j := 2) (x := x2) B hX hbl hbA (by decide) (show ¬ ((2 : Int32) < 0 ∨ 6 ≤ (2 : Int32).toNatClampNeg) by decide) h_x2 dL_law_160 ?_
  refine z_aload_n B dL_law_161 rfl 4 rfl ?_
  refine z_iload B dL_law_162 0 rfl ?_
  refine z_iconst (v := 3) B dL_law_164 (by decide) ?_
  refine z_iadd B dL_law_165 ?_
  refine z_seti (y := 3) (by decide) ?_
  refine z_sld (j := 3) (x := x3) B hX hbl hbA (by decide) (show ¬ ((3 : Int32) < 0 ∨ 6 ≤ (3 : Int32).toNatClampNeg) by decide) h_x3 dL_law_166 ?_
  refine z_aload_n B dL_law_167 rfl 4 rfl ?_
  refine z_iload B dL_law_168 0 rfl ?_
  refine z_iconst (v := 4) B dL_law_170 (by decide) ?_
  refine z_iadd B dL_law_171 ?_
  refine z_seti (y := 4) (by decide) ?_
  refine z_sld (j := 4) (x := x4) B hX hbl hbA (by decide) (show ¬ ((4 : Int32) < 0 ∨ 6 ≤ (4 : Int32).toNatClampNeg) by decide) h_x4 dL_law_172 ?_
  refine z_aload_n B dL_law_173 rfl 4 rfl ?_
  refine z_iload B dL_law_174 0 rfl ?_
  refine z_iconst (v := 5) B dL_law_176 (by decide) ?_
  refine z_iadd B dL_law_177 ?_
  refine z_seti (y := 5) (by decide) ?_
  refine z_sld (j := 5) (x := x5) B hX hbl hbA (by decide) (show ¬ ((5 : Int32) < 0 ∨ 6 ≤ (5 : Int32).toNatClampNeg) by decide) h_x5 dL_law_178 ?_
  refine z_aload_n B dL_law_179 rfl 1 rfl ?_
  refine z_cSWi (As := [.ref (b + 0), .int 5, .int x2, .int x3, .int x4, .int x5, .ref (b + 431)]) (rest := []) B cw_L_74 dL_law_180 (ci_L_set_358 l hlt (σ := (ap b σ [] [] [])) (b := b) (lyA hK) x2 x3 x4 x5 q1_x2 q2_x2 (rR_at 0 0 (fz_R hF 0 0 rfl rfl)) (rR_at 1 5 (fz_R hF 1 5 rfl rfl))) rfl (by decide) rfl (Nat.le_of_ble_eq_true rfl) (by decide) (fun r u hu => ?_)
  obtain ⟨hu1, z, hu⟩ := hu
  refine z_eqs (σ' := (ap b (wx_Z σ z) [] [] [])) (hu.trans az_ap) ?_
  show zx p l e _ s m _ below meth c g 8 _ _ _ _ 183 [(4, .int 0), (3, .ref (b + 431)), (2, .ref (b + 405)), (1, .ref (b + 0)), (0, .ref bS)] _
  refine z_seti (y := 1) hu1 ?_
  refine z_istore (lv' := [(5, .int 1), (4, .int 0), (3, .ref (b + 431)), (2, .ref (b + 405)), (1, .ref (b + 0)), (0, .ref bS)]) B dL_law_183 (by decide) rfl ?_
  refine z_aload_n B dL_law_185 rfl 3 rfl ?_
  refine z_aload_n B dL_law_186 rfl 5 rfl ?_
  refine z_iload B dL_law_187 1 rfl ?_
  refine z_iconst (v := 1) B dL_law_189 (by decide) ?_
  refine z_iadd B dL_law_190 ?_
  refine z_seti (y := 1) (by decide) ?_
  refine z_sld (j := 1) (x := 5) B hX hbl hbA (by decide) (show ¬ ((1 : Int32) < 0 ∨ 6 ≤ (1 : Int32).toNatClampNeg) by decide) h_x1 dL_law_191 ?_
  refine z_aload_n B dL_law_192 rfl 5 rfl ?_
  refine z_iload B dL_law_193 1 rfl ?_
  refine z_iconst (v := 2) B dL_law_195 (by decide) ?_
  refine z_iadd B dL_law_196 ?_
  refine z_seti (y := 2) (by decide) ?_
  refine z_sld (j := 2) (x := x2) B hX hbl hbA (by decide) (show ¬ ((2 : Int32) < 0 ∨ 6 ≤ (2 : Int32).toNatClampNeg) by decide) h_x2 dL_law_197 ?_
  refine z_aload_n B dL_law_198 rfl 5 rfl ?_
  refine z_iload B dL_law_199 1 rfl ?_
  refine z_iconst (v := 3) B dL_law_201 (by decide) ?_
  refine z_iadd B dL_law_202 ?_
  refine z_seti (y := 3) (by decide) ?_
  refine z_sld (j := 3) (x := x3) B hX hbl hbA (by decide) (show ¬ ((3 : Int32) < 0 ∨ 6 ≤ (3 : Int32).toNatClampNeg) by decide) h_x3 dL_law_203 ?_
  refine z_aload_n B dL_law_204 rfl 5 rfl ?_
  refine z_iload B dL_law_205 1 rfl ?_
  refine z_iconst (v := 4) B dL_law_207 (by decide) ?_
  refine z_iadd B dL_law_208 ?_
  refine z_seti (y := 4) (by decide) ?_
  refine z_sld (j := 4) (x := x4) B hX hbl hbA (by decide) (show ¬ ((4 : Int32) < 0 ∨ 6 ≤ (4 : Int32).toNatClampNeg) by decide) h_x4 dL_law_209 ?_
  refine z_aload_n B dL_law_210 rfl 5 rfl ?_
  refine z_iload B dL_law_211 1 rfl ?_
  refine z_iconst (v := 5) B dL_law_213 (by decide) ?_
  refine z_iadd B dL_law_214 ?_
  refine z_seti (y := 5) (by decide) ?_
  refine z_sld (j := 5) (x := x5) B hX hbl hbA (by decide) (show ¬ ((5 : Int32) < 0 ∨ 6 ≤ (5 : Int32).toNatClampNeg) by decide) h_x5 dL_law_215 ?_
  refine z_cVi (As := [.int 5, .int x2, .int x3, .int x4, .int x5]) (rest := []) B cw_L_79 cx_10 dL_law_216 (ci_X9_set_366 l (σ := (ap b (wx_Z σ z) [] [] [])) (b := b) (lyA (lyZ hK)) x2 x3 x4 x5 q1_x2 q2_x2 q1_x3 q2_x3) (lKA (lKZ (hk_K hK 405 rfl rfl))) rfl (by decide) rfl (Nat.le_of_ble_eq_true rfl) (by decide) (fun r u hu => ?_)
  refine z_eqs (σ' := (ap b (wx_Z σ z) [(405, 0, 1)] [] [])) (hu.2.trans ap_ap) ?_
  show zx p l e _ s m _ below meth c g 8 _ _ _ _ 219 [(5, .int 1), (4, .int 0), (3, .ref (b + 431)), (2, .ref (b + 405)), (1, .ref (b + 0)), (0, .ref bS)] _
  refine z_seti (y := 0) hu.1 ?_
  refine z_istore (lv' := [(6, .int 0), (5, .int 1), (4, .int 0), (3, .ref (b + 431)), (2, .ref (b + 405)), (1, .ref (b + 0)), (0, .ref bS)]) B dL_law_219 (by decide) rfl ?_
  refine z_aload_n B dL_law_221 rfl 4 rfl ?_
  refine z_cVi (As := []) (rest := []) B cw_L_80 cx_10 dL_law_222 (ci_X9_thrown_31 l (σ := (ap b (wx_Z σ z) [(405, 0, 1)] [] [])) (b := b) (lyA (lyZ hK)) (rI_at 405 0 rfl)) (lKA (lKZ (hk_K hK 405 rfl rfl))) rfl (by decide) rfl (Nat.le_of_ble_eq_true rfl) (by decide) (fun r u hu => ?_)
  refine z_eqs (σ' := (ap b (wx_Z σ z) [(405, 0, 1)] [] [])) hu.2 ?_
  show zx p l e _ s m _ below meth c g 8 _ _ _ _ 225 [(6, .int 0), (5, .int 1), (4, .int 0), (3, .ref (b + 431)), (2, .ref (b + 405)), (1, .ref (b + 0)), (0, .ref bS)] _
  refine z_seti (y := 1) hu.1 ?_
  refine z_iload B dL_law_225 1 rfl ?_
  refine z_icmp_eq (tgt := 232) B dL_law_227 (by decide) (fun _ => ?_) (fun h => absurd (by decide) h)
  refine z_iload B dL_law_232 1 rfl ?_
  refine z_if_ne (tgt := 249) B dL_law_234 (by decide) (fun _ => ?_) (fun h => absurd h (by decide))
  refine z_goto (tgt := 1395) B dL_law_249 (by decide) ?_
  exact z_widen (Nat.le_of_ble_eq_true rfl) (Nat.le_of_ble_eq_true rfl) (z_sub _ [2, 6] rfl (kk _))
set_option maxRecDepth 100000 in
set_option maxHeartbeats 4000000 in
theorem lf_0_133 {p : Program} {l : Launch} {e : Env} {s : State} {m : MethodId} {args : Array Value} {below : List Frame} {meth : Method} {c : Code} {g : gx_T} {Q : State → Prop} {σ : sx_T} {b t bS : Nat} {xs : Nat → Int32} (hlt : l.stackTraces = false) (B : zx_B p s m args meth c code RL 8 g) (hX : va_X bS 6 xs s s.heap) (hbl : bS < s.heap.size) (hbA : ¬ gx_b g ≤ bS) (hF : fz_P b t σ) {x1 : Int32} (h_x1 : xs 1 = x1) (q1_x1 : (6 : Int) ≤ x1.toInt) (q2_x1 : x1.toInt ≤ (2147483647 : Int)) {x2 : Int32} (h_x2 : xs 2 = x2) (q1_x2 : (-2147483648 : Int) ≤ x2.toInt) (q2_x2 : x2.toInt ≤ (2147483647 : Int)) {x3 : Int32} (h_x3 : xs 3 = x3) (q1_x3 : (-2147483648 : Int) ≤ x3.toInt) (q2_x3 : x3.toInt ≤ (-1 : Int)) {x4 : Int32} (h_x4 : xs 4 = x4) (q1_x4 : (-2147483648 : Int) ≤ x4.toInt) (q2_x4 : x4.toInt ≤ (2147483647 : Int)) {x5 : Int32} (h_x5 : xs 5 = x5) (q1_x5 : (-2147483648 : Int) ≤ x5.toInt) (q2_x5 : x5.toInt ≤ (2147483647 : Int)) (kk : ∀ σ', zx p l e room_1 s m args below meth c g 8 600002 7302232 Q σ' 1395 [(4, .int 0), (0, .ref bS)] []) : zx p l e room_1 s m args below meth c g 8 500 100000 Q σ 148 [(4, .int 0), (3, .ref (b + 431)), (2, .ref (b + 405)), (1, .ref (b + 0)), (0, .ref bS)] [] := by
  have hK := fz_lay hF
  refine z_eqs (σ' := (ap b σ [] [] [])) rfl ?_
  refine z_aload_n B dL_law_148 rfl 3 rfl ?_
  refine z_aload_n B dL_law_149 rfl 4 rfl ?_
  refine z_iload B dL_law_150 0 rfl ?_
  refine z_iconst (v := 1) B dL_law_152 (by decide) ?_
  refine z_iadd B dL_law_153 ?_
  refine z_seti (y := 1) (by decide) ?_
  refine z_sld (j := 1) (x := x1) B hX hbl hbA (by decide) (show ¬ ((1 : Int32) < 0 ∨ 6 ≤ (1 : Int32).toNatClampNeg) by decide) h_x1 dL_law_154 ?_
  refine z_aload_n B dL_law_155 rfl 4 rfl ?_
  refine z_iload B dL_law_156 0 rfl ?_
  refine z_iconst (v := 2) B dL_law_158 (by decide) ?_
  refine z_iadd B dL_law_159 ?_
  refine z_seti (y := 2) (by decide) ?_
  refine z_sld (j := 2) (x := x2) B hX hbl hbA (by decide) (show ¬ ((2 : Int32) < 0 ∨ 6 ≤ (2 : Int32).toNatClampNeg) by decide) h_x2 dL_law_160 ?_
  refine z_aload_n B dL_law_161 rfl 4 rfl ?_
  refine z_iload B dL_law_162 0 rfl ?_
  refine z_iconst (v := 3) B dL_law_164 (by decide) ?_
  refine z_iadd B dL_law_165 ?_
  refine z_seti (y := 3) (by decide) ?_
  refine z_sld (j := 3) (x := x3) B hX hbl hbA (by decide) (show ¬ ((3 : Int32) < 0 ∨ 6 ≤ (3 : Int32).toNatClampNeg) by decide) h_x3 dL_law_166 ?_
  refine z_aload_n B dL_law_167 rfl 4 rfl ?_
  refine z_iload B dL_law_168 0 rfl ?_
  refine z_iconst (v := 4) B dL_law_170 (by decide) ?_
  refine z_iadd B dL_law_171 ?_
  refine z_seti (y := 4) (by decide) ?_
  refine z_sld (j := 4) (x := x4) B hX hbl hbA (by decide) (show ¬ ((4 : Int32) < 0 ∨ 6 ≤ (4 : Int32).toNatClampNeg) by decide) h_x4 dL_law_172 ?_
  refine z_aload_n B dL_law_173 rfl 4 rfl ?_
  refine z_iload B dL_law_174 0 rfl ?_
  refine z_iconst (v := 5) B dL_law_176 (by decide) ?_
  refine z_iadd B dL_law_177 ?_
  refine z_seti (y := 5) (by decide) ?_
  refine z_sld (j := 5) (x := x5) B hX hbl hbA (by decide) (show ¬ ((5 : Int32) < 0 ∨ 6 ≤ (5 : Int32).toNatClampNeg) by decide) h_x5 dL_law_178 ?_
  refine z_aload_n B dL_law_179 rfl 1 rfl ?_
  refine z_cSWi (As := [.ref (b + 0), .int x1, .int x2, .int x3, .int x4, .int x5, .ref (b + 431)]) (rest := []) B cw_L_74 dL_law_180 (ci_L_set_369 l hlt (σ := (ap b σ [] [] [])) (b := b) (lyA hK) x1 x2 x3 x4 x5 q1_x1 q2_x1 (rR_at 0 0 (fz_R hF 0 0 rfl rfl))) rfl (by decide) rfl (Nat.le_of_ble_eq_true rfl) (by decide) (fun r u hu => ?_)
  obtain ⟨hu1, z, hu⟩ := hu
  refine z_eqs (σ' := (ap b (wx_Z σ z) [] [] [])) (hu.trans az_ap) ?_
  show zx p l e _ s m _ below meth c g 8 _ _ _ _ 183 [(4, .int 0), (3, .ref (b + 431)), (2, .ref (b + 405)), (1, .ref (b + 0)), (0, .ref bS)] _
  refine z_seti (y := 1) hu1 ?_
  refine z_istore (lv' := [(5, .int 1), (4, .int 0), (3, .ref (b + 431)), (2, .ref (b + 405)), (1, .ref (b + 0)), (0, .ref bS)]) B dL_law_183 (by decide) rfl ?_
  refine z_aload_n B dL_law_185 rfl 3 rfl ?_
  refine z_aload_n B dL_law_186 rfl 5 rfl ?_
  refine z_iload B dL_law_187 1 rfl ?_
  refine z_iconst (v := 1) B dL_law_189 (by decide) ?_
  refine z_iadd B dL_law_190 ?_
  refine z_seti (y := 1) (by decide) ?_
  refine z_sld (j := 1) (x := x1) B hX hbl hbA (by decide) (show ¬ ((1 : Int32) < 0 ∨ 6 ≤ (1 : Int32).toNatClampNeg) by decide) h_x1 dL_law_191 ?_
  refine z_aload_n B dL_law_192 rfl 5 rfl ?_
  refine z_iload B dL_law_193 1 rfl ?_
  refine z_iconst (v := 2) B dL_law_195 (by decide) ?_
  refine z_iadd B dL_law_196 ?_
  refine z_seti (y := 2) (by decide) ?_
  refine z_sld (j := 2) (x := x2) B hX hbl hbA (by decide) (show ¬ ((2 : Int32) < 0 ∨ 6 ≤ (2 : Int32).toNatClampNeg) by decide) h_x2 dL_law_197 ?_
  refine z_aload_n B dL_law_198 rfl 5 rfl ?_
  refine z_iload B dL_law_199 1 rfl ?_
  refine z_iconst (v := 3) B dL_law_201 (by decide) ?_
  refine z_iadd B dL_law_202 ?_
  refine z_seti (y := 3) (by decide) ?_
  refine z_sld (j := 3) (x := x3) B hX hbl hbA (by decide) (show ¬ ((3 : Int32) < 0 ∨ 6 ≤ (3 : Int32).toNatClampNeg) by decide) h_x3 dL_law_203 ?_
  refine z_aload_n B dL_law_204 rfl 5 rfl ?_
  refine z_iload B dL_law_205 1 rfl ?_
  refine z_iconst (v := 4) B dL_law_207 (by decide) ?_
  refine z_iadd B dL_law_208 ?_
  refine z_seti (y := 4) (by decide) ?_
  refine z_sld (j := 4) (x := x4) B hX hbl hbA (by decide) (show ¬ ((4 : Int32) < 0 ∨ 6 ≤ (4 : Int32).toNatClampNeg) by decide) h_x4 dL_law_209 ?_
  refine z_aload_n B dL_law_210 rfl 5 rfl ?_
  refine z_iload B dL_law_211 1 rfl ?_
  refine z_iconst (v := 5) B dL_law_213 (by decide) ?_
  refine z_iadd B dL_law_214 ?_
  refine z_seti (y := 5) (by decide) ?_
  refine z_sld (j := 5) (x := x5) B hX hbl hbA (by decide) (show ¬ ((5 : Int32) < 0 ∨ 6 ≤ (5 : Int32).toNatClampNeg) by decide) h_x5 dL_law_215 ?_
  refine z_cVi (As := [.int x1, .int x2, .int x3, .int x4, .int x5]) (rest := []) B cw_L_79 cx_10 dL_law_216 (ci_X9_set_372 l (σ := (ap b (wx_Z σ z) [] [] [])) (b := b) (lyA (lyZ hK)) x1 x2 x3 x4 x5 q1_x1 q2_x1 q1_x3 q2_x3) (lKA (lKZ (hk_K hK 405 rfl rfl))) rfl (by decide) rfl (Nat.le_of_ble_eq_true rfl) (by decide) (fun r u hu => ?_)
  refine z_eqs (σ' := (ap b (wx_Z σ z) [(405, 0, 1)] [] [])) (hu.2.trans ap_ap) ?_
  show zx p l e _ s m _ below meth c g 8 _ _ _ _ 219 [(5, .int 1), (4, .int 0), (3, .ref (b + 431)), (2, .ref (b + 405)), (1, .ref (b + 0)), (0, .ref bS)] _
  refine z_seti (y := 0) hu.1 ?_
  refine z_istore (lv' := [(6, .int 0), (5, .int 1), (4, .int 0), (3, .ref (b + 431)), (2, .ref (b + 405)), (1, .ref (b + 0)), (0, .ref bS)]) B dL_law_219 (by decide) rfl ?_
  refine z_aload_n B dL_law_221 rfl 4 rfl ?_
  refine z_cVi (As := []) (rest := []) B cw_L_80 cx_10 dL_law_222 (ci_X9_thrown_31 l (σ := (ap b (wx_Z σ z) [(405, 0, 1)] [] [])) (b := b) (lyA (lyZ hK)) (rI_at 405 0 rfl)) (lKA (lKZ (hk_K hK 405 rfl rfl))) rfl (by decide) rfl (Nat.le_of_ble_eq_true rfl) (by decide) (fun r u hu => ?_)
  refine z_eqs (σ' := (ap b (wx_Z σ z) [(405, 0, 1)] [] [])) hu.2 ?_
  show zx p l e _ s m _ below meth c g 8 _ _ _ _ 225 [(6, .int 0), (5, .int 1), (4, .int 0), (3, .ref (b + 431)), (2, .ref (b + 405)), (1, .ref (b + 0)), (0, .ref bS)] _
  refine z_seti (y := 1) hu.1 ?_
  refine z_iload B dL_law_225 1 rfl ?_
  refine z_icmp_eq (tgt := 232) B dL_law_227 (by decide) (fun _ => ?_) (fun h => absurd (by decide) h)
  refine z_iload B dL_law_232 1 rfl ?_
  refine z_if_ne (tgt := 249) B dL_law_234 (by decide) (fun _ => ?_) (fun h => absurd h (by decide))
  refine z_goto (tgt := 1395) B dL_law_249 (by decide) ?_
  exact z_widen (Nat.le_of_ble_eq_true rfl) (Nat.le_of_ble_eq_true rfl) (z_sub _ [2, 6] rfl (kk _))
