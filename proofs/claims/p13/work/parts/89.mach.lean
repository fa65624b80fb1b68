/-! the law's cases: each keeps what stands, and answers as it should -/
def AJ (x : Int32) (q L : Nat) : Prop := ((x + 1).toNatClampNeg = q + 1 ∧ vp_in (x + 1) L) ∧ ((x + 2).toNatClampNeg = q + 2 ∧ vp_in (x + 2) L) ∧ ((x + 3).toNatClampNeg = q + 3 ∧ vp_in (x + 3) L) ∧ ((x + 4).toNatClampNeg = q + 4 ∧ vp_in (x + 4) L) ∧ ((x + 5).toNatClampNeg = q + 5 ∧ vp_in (x + 5) L)
theorem wq_j {g : gx_T} {b : Nat} {d : Int32} {u v : sx_T} (h : JD g b d u) (hw : WQ b u v) : JD g b d v ∧ PC b v = PC b u ∧ PS b v = PS b u := by
  rcases hw with ⟨y, rfl⟩ | ⟨z, hz, rfl⟩
  · exact jd_o h
  · exact ⟨jd_z h hz, rfl, rfl⟩
theorem jd_up {g : gx_T} {b : Nat} {d : Int32} {σ u : sx_T} (h : JD g b d σ) (hU : UP (cS b) 0 σ u) (hG : GG g σ u) : JD g b d u ∧ ((sx_Z u - sx_Z σ : Nat) : Int) ≤ PC b u - PC b σ ∧ ((sx_S u - sx_S σ : Nat) : Int) ≤ PS b u - PS b σ := by
  have q := jd_c (e := 0) h hU.1 hU.2.1 hG (by rw [Int32.add_zero]; exact hU.2.2)
  rw [Int32.add_zero] at q
  exact q
theorem jd_mu {g : gx_T} {b : Nat} {d : Int32} {σ u : sx_T} (h : JD g b d σ) (hU : MU (b + 405) σ u) (hG : GG g σ u) : JD g b d u ∧ PC b u = PC b σ ∧ PS b u = PS b σ ∧ sx_Z u = sx_Z σ ∧ sx_S u = sx_S σ :=
  jd_m (e := 0) h hU.1 hU.2.1 hG.2.2.2 (by rw [Int32.add_zero]; exact hU.2.2) (by rw [Int32.zero_add])
/-- ticks of both, and what they answer -/
def TXk (b : Nat) (u : sx_T) (r : Sum Int32 String) (r3 : Int32 × sx_T) : Prop := ((∃ E, r = .inr E) ∧ sx_I r3.2 (b + 405) 0 = 1) ∨ ∃ y, r = .inl y ∧ y = sx_I u (b + 0) 8 ∧ sx_I r3.2 (b + 405) 0 = 0 ∧ r3.1 = sx_I r3.2 (b + 405) 1
theorem tick_c {n0 b : Nat} (hn : 1000001 ≤ n0) {σ : sx_T} {x : Int32} (h : GI (cS b) 0 σ) : ∃ r u d, f_X8_tick n0 σ (b + 0) x = some (r, u) ∧ GI (cS b) 0 u ∧ GR (cS b) σ u ∧ sx_I u (b + 0) 8 = sx_I σ (b + 0) 8 + d ∧ ∀ v, MG (b + 405) v → Ok (f_X9_tick n0 v (b + 405) x) (fun r3 => (MG (b + 405) r3.2 ∧ FA (MC (b + 405)) v r3.2 ∧ sx_I r3.2 (b + 405) 1 = sx_I v (b + 405) 1 + d) ∧ TXk b u r r3) := by
  obtain ⟨⟨r, u⟩, hr, hU⟩ := ok_tick (x := x) hn h
  rcases hU with ⟨h1, h2⟩ | ⟨h1, h2, h3, h4⟩
  · have e : u = σ := congrArg Prod.snd h2
    have er : r = .inr "java/lang/IllegalArgumentException" := congrArg Prod.fst h2
    refine ⟨r, u, 0, hr, by rw [e]; exact h, by rw [e]; exact gr_r, by rw [e, Int32.add_zero], fun v hv => ok_m (ok_tickM hn hv) (fun r3 hr3 => ?_)⟩
    rcases hr3 with ⟨-, q, q0⟩ | ⟨q1, q2, -⟩
    · exact ⟨⟨q.1, q.2.1, by rw [Int32.add_zero]; exact q.2.2⟩, Or.inl ⟨⟨_, er⟩, q0⟩⟩
    · omega
  · have h3 : TK (cS b) σ u x := h3
    have h4 : r = .inl (sx_I u (b + 0) 8) := h4
    refine ⟨r, u, x, hr, h3.1, h3.2.1, h3.2.2, fun v hv => ok_m (ok_tickM hn hv) (fun r3 hr3 => ?_)⟩
    rcases hr3 with ⟨q, -⟩ | ⟨-, -, q, q0, q1⟩
    · omega
    · exact ⟨q, Or.inr ⟨_, h4, rfl, q0, q1⟩⟩
theorem tb_eq {x c : Int32} {n : Int} (hc : c.toInt = n) (h1 : n ≤ x.toInt) (h2 : x.toInt ≤ n) : x = c := Int32.toInt_inj.mp (by omega)
set_option maxRecDepth 100000 in
set_option maxHeartbeats 4000000 in
theorem cs_0 {n0 : Nat} {p : Program} {l : Launch} {e : Env} {s : State} {m : MethodId} {args : Array Value} {below : List Frame} {meth : Method} {c : Code} {g : gx_T} {Q : State → Prop} {σ : sx_T} {b bS L q cells slots : Nat} {xs : Nat → Int32} {x : Int32} {C S : Int} (hn : 1000001 ≤ n0) (hlt : l.stackTraces = false) (B : zx_B p s m args meth c code RL 8 g) (hX : va_X bS L xs s s.heap) (hbl : bS < s.heap.size) (hbA : ¬ gx_b g ≤ bS) (hA : AJ x q L) (hJ : JD g b 0 σ) (hc : (cells : Int) ≤ C + PC b σ) (hs : (slots : Int) ≤ S + PS b σ) (hC : C ≤ 2000) (hS : S ≤ 200000) (kk : ∀ (σ' : sx_T) (cells' slots' : Nat), JD g b 0 σ' → (cells' : Int) ≤ C + 1 + PC b σ' → (slots' : Int) ≤ S + 6 + PS b σ' → zx p l e room_1 s m args below meth c g 8 cells' slots' Q σ' 955 [(4, .int x), (3, .ref (b + 431)), (2, .ref (b + 405)), (1, .ref (b + 0)), (0, .ref bS)] []) : zx p l e room_1 s m args below meth c g 8 cells slots Q σ 148 [(4, .int x), (3, .ref (b + 431)), (2, .ref (b + 405)), (1, .ref (b + 0)), (0, .ref bS)] [] := by
  have hkL : sx_K σ (b + 0) = 10 := hJ.1.kL
  have hko := hJ.2.2.2.2.2.1
  have hno := hJ.2.2.2.2.2.2.1
  have hT := hJ.2.2.2.1
  have bσ := pb hJ
  obtain ⟨⟨a1, v1⟩, ⟨a2, v2⟩, ⟨a3, v3⟩, ⟨a4, v4⟩, ⟨a5, v5⟩⟩ := hA
  refine z_aload_n B dL_law_148 rfl 3 rfl ?_
  refine z_aload_n B dL_law_149 rfl 4 rfl ?_
  refine z_iload B dL_law_150 0 rfl ?_
  refine z_iconst (v := 1) B dL_law_152 (by decide) ?_
  refine z_iadd B dL_law_153 ?_
  refine z_sld (j := q + 1) (x := xs (q + 1)) B hX hbl hbA a1 v1 rfl dL_law_154 ?_
  refine z_aload_n B dL_law_155 rfl 4 rfl ?_
  refine z_iload B dL_law_156 0 rfl ?_
  refine z_iconst (v := 2) B dL_law_158 (by decide) ?_
  refine z_iadd B dL_law_159 ?_
  refine z_sld (j := q + 2) (x := xs (q + 2)) B hX hbl hbA a2 v2 rfl dL_law_160 ?_
  refine z_aload_n B dL_law_161 rfl 4 rfl ?_
  refine z_iload B dL_law_162 0 rfl ?_
  refine z_iconst (v := 3) B dL_law_164 (by decide) ?_
  refine z_iadd B dL_law_165 ?_
  refine z_sld (j := q + 3) (x := xs (q + 3)) B hX hbl hbA a3 v3 rfl dL_law_166 ?_
  refine z_aload_n B dL_law_167 rfl 4 rfl ?_
  refine z_iload B dL_law_168 0 rfl ?_
  refine z_iconst (v := 4) B dL_law_170 (by decide) ?_
  refine z_iadd B dL_law_171 ?_
  refine z_sld (j := q + 4) (x := xs (q + 4)) B hX hbl hbA a4 v4 rfl dL_law_172 ?_
  refine z_aload_n B dL_law_173 rfl 4 rfl ?_
  refine z_iload B dL_law_174 0 rfl ?_
  refine z_iconst (v := 5) B dL_law_176 (by decide) ?_
  refine z_iadd B dL_law_177 ?_
  refine z_sld (j := q + 5) (x := xs (q + 5)) B hX hbl hbA a5 v5 rfl dL_law_178 ?_
  refine z_aload_n B dL_law_179 rfl 1 rfl ?_
  have hcl : Ok (f_X8_set n0 σ (b + 0) (xs (q + 1)) (xs (q + 2)) (xs (q + 3)) (xs (q + 4)) (xs (q + 5))) (fun r => UP (cS b) 0 σ r.2) := ok_set (c := cS b) hn hJ.1
  obtain ⟨⟨r, u⟩, hr, hU⟩ := hcl
  have hU : UP (cS b) 0 σ u := hU
  obtain ⟨hG, hM⟩ := wr_set l hlt hr hT hkL hko hno
  obtain ⟨J1, z1, s1⟩ := jd_up hJ hU hG
  have bu := pb J1
  refine z_cSWi (As := [.ref (b + 0), .int (xs (q + 1)), .int (xs (q + 2)), .int (xs (q + 3)), .int (xs (q + 4)), .int (xs (q + 5)), .ref (b + 431)]) (rest := []) B cw_L_74 dL_law_180 hM rfl ⟨Nat.le_of_ble_eq_true rfl, Nat.le_of_ble_eq_true rfl⟩ rfl (Nat.le_of_ble_eq_true rfl) ⟨(by show _ ≤ 601024; omega), (by show _ ≤ 7293034; omega)⟩ (fun r2 u2 hu => ?_)
  obtain ⟨J2, p2, s2⟩ := wq_j J1 hu
  refine z_istore (lv' := [(5, .int r2), (4, .int x), (3, .ref (b + 431)), (2, .ref (b + 405)), (1, .ref (b + 0)), (0, .ref bS)]) B dL_law_183 (by decide) rfl ?_
  refine z_aload_n B dL_law_185 rfl 3 rfl ?_
  refine z_aload_n B dL_law_186 rfl 5 rfl ?_
  refine z_iload B dL_law_187 1 rfl ?_
  refine z_iconst (v := 1) B dL_law_189 (by decide) ?_
  refine z_iadd B dL_law_190 ?_
  refine z_sld (j := q + 1) (x := xs (q + 1)) B hX hbl hbA a1 v1 rfl dL_law_191 ?_
  refine z_aload_n B dL_law_192 rfl 5 rfl ?_
  refine z_iload B dL_law_193 1 rfl ?_
  refine z_iconst (v := 2) B dL_law_195 (by decide) ?_
  refine z_iadd B dL_law_196 ?_
  refine z_sld (j := q + 2) (x := xs (q + 2)) B hX hbl hbA a2 v2 rfl dL_law_197 ?_
  refine z_aload_n B dL_law_198 rfl 5 rfl ?_
  refine z_iload B dL_law_199 1 rfl ?_
  refine z_iconst (v := 3) B dL_law_201 (by decide) ?_
  refine z_iadd B dL_law_202 ?_
  refine z_sld (j := q + 3) (x := xs (q + 3)) B hX hbl hbA a3 v3 rfl dL_law_203 ?_
  refine z_aload_n B dL_law_204 rfl 5 rfl ?_
  refine z_iload B dL_law_205 1 rfl ?_
  refine z_iconst (v := 4) B dL_law_207 (by decide) ?_
  refine z_iadd B dL_law_208 ?_
  refine z_sld (j := q + 4) (x := xs (q + 4)) B hX hbl hbA a4 v4 rfl dL_law_209 ?_
  refine z_aload_n B dL_law_210 rfl 5 rfl ?_
  refine z_iload B dL_law_211 1 rfl ?_
  refine z_iconst (v := 5) B dL_law_213 (by decide) ?_
  refine z_iadd B dL_law_214 ?_
  refine z_sld (j := q + 5) (x := xs (q + 5)) B hX hbl hbA a5 v5 rfl dL_law_215 ?_
  have hmm := ok_setM (x1 := (xs (q + 1))) (x2 := (xs (q + 2))) (x3 := (xs (q + 3))) (x4 := (xs (q + 4))) (x5 := (xs (q + 5))) hn J2.2.1
  obtain ⟨⟨r3, u3⟩, hr3, hU3⟩ := hmm
  have hU3 : MU (b + 405) _ u3 := hU3
  have ct3 := ct_X9_set l hr3 J2.2.2.2.1 J2.2.2.1.1
  obtain ⟨J3, p3, s3, z3, y3⟩ := jd_mu J2 hU3 ct3.1.1
  have b3 := pb J3
  refine z_cVi (As := [.int (xs (q + 1)), .int (xs (q + 2)), .int (xs (q + 3)), .int (xs (q + 4)), .int (xs (q + 5))]) (rest := []) B cw_L_79 cx_10 dL_law_216 ct3.2 J2.2.2.1.1 rfl ⟨Nat.le_of_ble_eq_true rfl, Nat.le_of_ble_eq_true rfl⟩ rfl (Nat.le_of_ble_eq_true rfl) ⟨(by show _ ≤ 601024; omega), (by show _ ≤ 7293034; omega)⟩ (fun r4 u4 hu4 => ?_)
  obtain ⟨-, hu4⟩ := hu4
  subst hu4
  refine z_istore (lv' := [(6, .int r4), (5, .int r2), (4, .int x), (3, .ref (b + 431)), (2, .ref (b + 405)), (1, .ref (b + 0)), (0, .ref bS)]) B dL_law_219 (by decide) rfl ?_
  refine z_goto (tgt := 955) B dL_law_221 (by decide) ?_
  refine z_sub _ [2, 3, 4, 5, 6] rfl ?_
  exact kk _ _ _ J3 (by omega) (by omega)
set_option maxRecDepth 100000 in
set_option maxHeartbeats 4000000 in
theorem cs_1 {n0 : Nat} {p : Program} {l : Launch} {e : Env} {s : State} {m : MethodId} {args : Array Value} {below : List Frame} {meth : Method} {c : Code} {g : gx_T} {Q : State → Prop} {σ : sx_T} {b bS L q cells slots : Nat} {xs : Nat → Int32} {x : Int32} {C S : Int} (hn : 1000001 ≤ n0) (hlt : l.stackTraces = false) (B : zx_B p s m args meth c code RL 8 g) (hX : va_X bS L xs s s.heap) (hbl : bS < s.heap.size) (hbA : ¬ gx_b g ≤ bS) (hA : AJ x q L) (hJ : JD g b 0 σ) (hc : (cells : Int) ≤ C + PC b σ) (hs : (slots : Int) ≤ S + PS b σ) (hC : C ≤ 2000) (hS : S ≤ 200000) (kk : ∀ (σ' : sx_T) (cells' slots' : Nat), JD g b 0 σ' → (cells' : Int) ≤ C + 1 + PC b σ' → (slots' : Int) ≤ S + 6 + PS b σ' → zx p l e room_1 s m args below meth c g 8 cells' slots' Q σ' 955 [(4, .int x), (3, .ref (b + 431)), (2, .ref (b + 405)), (1, .ref (b + 0)), (0, .ref bS)] []) : zx p l e room_1 s m args below meth c g 8 cells slots Q σ 224 [(4, .int x), (3, .ref (b + 431)), (2, .ref (b + 405)), (1, .ref (b + 0)), (0, .ref bS)] [] := by
  have hkL : sx_K σ (b + 0) = 10 := hJ.1.kL
  have hko := hJ.2.2.2.2.2.1
  have hno := hJ.2.2.2.2.2.2.1
  have hT := hJ.2.2.2.1
  have bσ := pb hJ
  obtain ⟨⟨a1, v1⟩, ⟨a2, v2⟩, ⟨a3, v3⟩, ⟨a4, v4⟩, ⟨a5, v5⟩⟩ := hA
  refine z_aload_n B dL_law_224 rfl 3 rfl ?_
  refine z_aload_n B dL_law_225 rfl 4 rfl ?_
  refine z_iload B dL_law_226 0 rfl ?_
  refine z_iconst (v := 1) B dL_law_228 (by decide) ?_
  refine z_iadd B dL_law_229 ?_
  refine z_sld (j := q + 1) (x := xs (q + 1)) B hX hbl hbA a1 v1 rfl dL_law_230 ?_
  refine z_aload_n B dL_law_231 rfl 4 rfl ?_
  refine z_iload B dL_law_232 0 rfl ?_
  refine z_iconst (v := 2) B dL_law_234 (by decide) ?_
  refine z_iadd B dL_law_235 ?_
  refine z_sld (j := q + 2) (x := xs (q + 2)) B hX hbl hbA a2 v2 rfl dL_law_236 ?_
  refine z_aload_n B dL_law_237 rfl 4 rfl ?_
  refine z_iload B dL_law_238 0 rfl ?_
  refine z_iconst (v := 3) B dL_law_240 (by decide) ?_
  refine z_iadd B dL_law_241 ?_
  refine z_sld (j := q + 3) (x := xs (q + 3)) B hX hbl hbA a3 v3 rfl dL_law_242 ?_
  refine z_aload_n B dL_law_243 rfl 4 rfl ?_
  refine z_iload B dL_law_244 0 rfl ?_
  refine z_iconst (v := 4) B dL_law_246 (by decide) ?_
  refine z_iadd B dL_law_247 ?_
  refine z_sld (j := q + 4) (x := xs (q + 4)) B hX hbl hbA a4 v4 rfl dL_law_248 ?_
  refine z_aload_n B dL_law_249 rfl 4 rfl ?_
  refine z_iload B dL_law_250 0 rfl ?_
  refine z_iconst (v := 5) B dL_law_252 (by decide) ?_
  refine z_iadd B dL_law_253 ?_
  refine z_sld (j := q + 5) (x := xs (q + 5)) B hX hbl hbA a5 v5 rfl dL_law_254 ?_
  refine z_aload_n B dL_law_255 rfl 1 rfl ?_
  have hcl : Ok (f_X8_check n0 σ (b + 0) (xs (q + 1)) (xs (q + 2)) (xs (q + 3)) (xs (q + 4)) (xs (q + 5))) (fun r => UP (cS b) 0 σ r.2) := ok_check (c := cS b) hn hJ.1
  obtain ⟨⟨r, u⟩, hr, hU⟩ := hcl
  have hU : UP (cS b) 0 σ u := hU
  obtain ⟨hG, hM⟩ := wr_check l hlt hr hT hkL hko hno
  obtain ⟨J1, z1, s1⟩ := jd_up hJ hU hG
  have bu := pb J1
  refine z_cSWi (As := [.ref (b + 0), .int (xs (q + 1)), .int (xs (q + 2)), .int (xs (q + 3)), .int (xs (q + 4)), .int (xs (q + 5)), .ref (b + 431)]) (rest := []) B cw_L_80 dL_law_256 hM rfl ⟨Nat.le_of_ble_eq_true rfl, Nat.le_of_ble_eq_true rfl⟩ rfl (Nat.le_of_ble_eq_true rfl) ⟨(by show _ ≤ 601024; omega), (by show _ ≤ 7293034; omega)⟩ (fun r2 u2 hu => ?_)
  obtain ⟨J2, p2, s2⟩ := wq_j J1 hu
  refine z_istore (lv' := [(5, .int r2), (4, .int x), (3, .ref (b + 431)), (2, .ref (b + 405)), (1, .ref (b + 0)), (0, .ref bS)]) B dL_law_259 (by decide) rfl ?_
  refine z_aload_n B dL_law_261 rfl 3 rfl ?_
  refine z_aload_n B dL_law_262 rfl 5 rfl ?_
  refine z_iload B dL_law_263 1 rfl ?_
  refine z_iconst (v := 1) B dL_law_265 (by decide) ?_
  refine z_iadd B dL_law_266 ?_
  refine z_sld (j := q + 1) (x := xs (q + 1)) B hX hbl hbA a1 v1 rfl dL_law_267 ?_
  refine z_aload_n B dL_law_268 rfl 5 rfl ?_
  refine z_iload B dL_law_269 1 rfl ?_
  refine z_iconst (v := 2) B dL_law_271 (by decide) ?_
  refine z_iadd B dL_law_272 ?_
  refine z_sld (j := q + 2) (x := xs (q + 2)) B hX hbl hbA a2 v2 rfl dL_law_273 ?_
  refine z_aload_n B dL_law_274 rfl 5 rfl ?_
  refine z_iload B dL_law_275 1 rfl ?_
  refine z_iconst (v := 3) B dL_law_277 (by decide) ?_
  refine z_iadd B dL_law_278 ?_
  refine z_sld (j := q + 3) (x := xs (q + 3)) B hX hbl hbA a3 v3 rfl dL_law_279 ?_
  refine z_aload_n B dL_law_280 rfl 5 rfl ?_
  refine z_iload B dL_law_281 1 rfl ?_
  refine z_iconst (v := 4) B dL_law_283 (by decide) ?_
  refine z_iadd B dL_law_284 ?_
  refine z_sld (j := q + 4) (x := xs (q + 4)) B hX hbl hbA a4 v4 rfl dL_law_285 ?_
  refine z_aload_n B dL_law_286 rfl 5 rfl ?_
  refine z_iload B dL_law_287 1 rfl ?_
  refine z_iconst (v := 5) B dL_law_289 (by decide) ?_
  refine z_iadd B dL_law_290 ?_
  refine z_sld (j := q + 5) (x := xs (q + 5)) B hX hbl hbA a5 v5 rfl dL_law_291 ?_
  have hmm := ok_checkM (x1 := (xs (q + 1))) (x2 := (xs (q + 2))) (x3 := (xs (q + 3))) (x4 := (xs (q + 4))) (x5 := (xs (q + 5))) hn J2.2.1
  obtain ⟨⟨r3, u3⟩, hr3, hU3⟩ := hmm
  have hU3 : MU (b + 405) _ u3 := hU3
  have ct3 := ct_X9_check l hr3 J2.2.2.2.1 J2.2.2.1.1
  obtain ⟨J3, p3, s3, z3, y3⟩ := jd_mu J2 hU3 ct3.1.1
  have b3 := pb J3
  refine z_cVi (As := [.int (xs (q + 1)), .int (xs (q + 2)), .int (xs (q + 3)), .int (xs (q + 4)), .int (xs (q + 5))]) (rest := []) B cw_L_82 cx_10 dL_law_292 ct3.2 J2.2.2.1.1 rfl ⟨Nat.le_of_ble_eq_true rfl, Nat.le_of_ble_eq_true rfl⟩ rfl (Nat.le_of_ble_eq_true rfl) ⟨(by show _ ≤ 601024; omega), (by show _ ≤ 7293034; omega)⟩ (fun r4 u4 hu4 => ?_)
  obtain ⟨-, hu4⟩ := hu4
  subst hu4
  refine z_istore (lv' := [(6, .int r4), (5, .int r2), (4, .int x), (3, .ref (b + 431)), (2, .ref (b + 405)), (1, .ref (b + 0)), (0, .ref bS)]) B dL_law_295 (by decide) rfl ?_
  refine z_goto (tgt := 955) B dL_law_297 (by decide) ?_
  refine z_sub _ [2, 3, 4, 5, 6] rfl ?_
  exact kk _ _ _ J3 (by omega) (by omega)
set_option maxRecDepth 100000 in
set_option maxHeartbeats 4000000 in
theorem cs_2 {n0 : Nat} {p : Program} {l : Launch} {e : Env} {s : State} {m : MethodId} {args : Array Value} {below : List Frame} {meth : Method} {c : Code} {g : gx_T} {Q : State → Prop} {σ : sx_T} {b bS L q cells slots : Nat} {xs : Nat → Int32} {x : Int32} {C S : Int} (hn : 1000001 ≤ n0) (hlt : l.stackTraces = false) (B : zx_B p s m args meth c code RL 8 g) (hX : va_X bS L xs s s.heap) (hbl : bS < s.heap.size) (hbA : ¬ gx_b g ≤ bS) (hA : AJ x q L) (hJ : JD g b 0 σ) (hc : (cells : Int) ≤ C + PC b σ) (hs : (slots : Int) ≤ S + PS b σ) (hC : C ≤ 2000) (hS : S ≤ 200000) (kk : ∀ (σ' : sx_T) (cells' slots' : Nat), JD g b 0 σ' → (cells' : Int) ≤ C + 1 + PC b σ' → (slots' : Int) ≤ S + 6 + PS b σ' → zx p l e room_1 s m args below meth c g 8 cells' slots' Q σ' 955 [(4, .int x), (3, .ref (b + 431)), (2, .ref (b + 405)), (1, .ref (b + 0)), (0, .ref bS)] []) : zx p l e room_1 s m args below meth c g 8 cells slots Q σ 300 [(4, .int x), (3, .ref (b + 431)), (2, .ref (b + 405)), (1, .ref (b + 0)), (0, .ref bS)] [] := by
  have hkL : sx_K σ (b + 0) = 10 := hJ.1.kL
  have hko := hJ.2.2.2.2.2.1
  have hno := hJ.2.2.2.2.2.2.1
  have hT := hJ.2.2.2.1
  have bσ := pb hJ
  obtain ⟨⟨a1, v1⟩, ⟨a2, v2⟩, ⟨a3, v3⟩, ⟨a4, v4⟩, ⟨a5, v5⟩⟩ := hA
  refine z_aload_n B dL_law_300 rfl 3 rfl ?_
  refine z_aload_n B dL_law_301 rfl 4 rfl ?_
  refine z_iload B dL_law_302 0 rfl ?_
  refine z_iconst (v := 1) B dL_law_304 (by decide) ?_
  refine z_iadd B dL_law_305 ?_
  refine z_sld (j := q + 1) (x := xs (q + 1)) B hX hbl hbA a1 v1 rfl dL_law_306 ?_
  refine z_aload_n B dL_law_307 rfl 4 rfl ?_
  refine z_iload B dL_law_308 0 rfl ?_
  refine z_iconst (v := 2) B dL_law_310 (by decide) ?_
  refine z_iadd B dL_law_311 ?_
  refine z_sld (j := q + 2) (x := xs (q + 2)) B hX hbl hbA a2 v2 rfl dL_law_312 ?_
  refine z_aload_n B dL_law_313 rfl 1 rfl ?_
  have hcl : Ok (f_X8_start n0 σ (b + 0) (xs (q + 1)) (xs (q + 2))) (fun r => UP (cS b) 0 σ r.2) := ok_start (c := cS b) hn hJ.1
  obtain ⟨⟨r, u⟩, hr, hU⟩ := hcl
  have hU : UP (cS b) 0 σ u := hU
  obtain ⟨hG, hM⟩ := wr_start l hlt hr hT hkL hko hno
  obtain ⟨J1, z1, s1⟩ := jd_up hJ hU hG
  have bu := pb J1
  refine z_cSWi (As := [.ref (b + 0), .int (xs (q + 1)), .int (xs (q + 2)), .ref (b + 431)]) (rest := []) B cw_L_83 dL_law_314 hM rfl ⟨Nat.le_of_ble_eq_true rfl, Nat.le_of_ble_eq_true rfl⟩ rfl (Nat.le_of_ble_eq_true rfl) ⟨(by show _ ≤ 601024; omega), (by show _ ≤ 7293034; omega)⟩ (fun r2 u2 hu => ?_)
  obtain ⟨J2, p2, s2⟩ := wq_j J1 hu
  refine z_istore (lv' := [(5, .int r2), (4, .int x), (3, .ref (b + 431)), (2, .ref (b + 405)), (1, .ref (b + 0)), (0, .ref bS)]) B dL_law_317 (by decide) rfl ?_
  refine z_aload_n B dL_law_319 rfl 3 rfl ?_
  refine z_aload_n B dL_law_320 rfl 5 rfl ?_
  refine z_iload B dL_law_321 1 rfl ?_
  refine z_iconst (v := 1) B dL_law_323 (by decide) ?_
  refine z_iadd B dL_law_324 ?_
  refine z_sld (j := q + 1) (x := xs (q + 1)) B hX hbl hbA a1 v1 rfl dL_law_325 ?_
  refine z_aload_n B dL_law_326 rfl 5 rfl ?_
  refine z_iload B dL_law_327 1 rfl ?_
  refine z_iconst (v := 2) B dL_law_329 (by decide) ?_
  refine z_iadd B dL_law_330 ?_
  refine z_sld (j := q + 2) (x := xs (q + 2)) B hX hbl hbA a2 v2 rfl dL_law_331 ?_
  have hmm := ok_startM (x1 := (xs (q + 1))) (x2 := (xs (q + 2))) hn J2.2.1
  obtain ⟨⟨r3, u3⟩, hr3, hU3⟩ := hmm
  have hU3 : MU (b + 405) _ u3 := hU3
  have ct3 := ct_X9_start l hr3 J2.2.2.2.1 J2.2.2.1.1
  obtain ⟨J3, p3, s3, z3, y3⟩ := jd_mu J2 hU3 ct3.1.1
  have b3 := pb J3
  refine z_cVi (As := [.int (xs (q + 1)), .int (xs (q + 2))]) (rest := []) B cw_L_86 cx_10 dL_law_332 ct3.2 J2.2.2.1.1 rfl ⟨Nat.le_of_ble_eq_true rfl, Nat.le_of_ble_eq_true rfl⟩ rfl (Nat.le_of_ble_eq_true rfl) ⟨(by show _ ≤ 601024; omega), (by show _ ≤ 7293034; omega)⟩ (fun r4 u4 hu4 => ?_)
  obtain ⟨-, hu4⟩ := hu4
  subst hu4
  refine z_istore (lv' := [(6, .int r4), (5, .int r2), (4, .int x), (3, .ref (b + 431)), (2, .ref (b + 405)), (1, .ref (b + 0)), (0, .ref bS)]) B dL_law_335 (by decide) rfl ?_
  refine z_goto (tgt := 955) B dL_law_337 (by decide) ?_
  refine z_sub _ [2, 3, 4, 5, 6] rfl ?_
  exact kk _ _ _ J3 (by omega) (by omega)
set_option maxRecDepth 100000 in
set_option maxHeartbeats 4000000 in
theorem cs_3 {n0 : Nat} {p : Program} {l : Launch} {e : Env} {s : State} {m : MethodId} {args : Array Value} {below : List Frame} {meth : Method} {c : Code} {g : gx_T} {Q : State → Prop} {σ : sx_T} {b bS L q cells slots : Nat} {xs : Nat → Int32} {x : Int32} {C S : Int} (hn : 1000001 ≤ n0) (hlt : l.stackTraces = false) (B : zx_B p s m args meth c code RL 8 g) (hX : va_X bS L xs s s.heap) (hbl : bS < s.heap.size) (hbA : ¬ gx_b g ≤ bS) (hA : AJ x q L) (hJ : JD g b 0 σ) (hc : (cells : Int) ≤ C + PC b σ) (hs : (slots : Int) ≤ S + PS b σ) (hC : C ≤ 2000) (hS : S ≤ 200000) (kk : ∀ (σ' : sx_T) (cells' slots' : Nat), JD g b 0 σ' → (cells' : Int) ≤ C + 1 + PC b σ' → (slots' : Int) ≤ S + 6 + PS b σ' → zx p l e room_1 s m args below meth c g 8 cells' slots' Q σ' 955 [(4, .int x), (3, .ref (b + 431)), (2, .ref (b + 405)), (1, .ref (b + 0)), (0, .ref bS)] []) : zx p l e room_1 s m args below meth c g 8 cells slots Q σ 340 [(4, .int x), (3, .ref (b + 431)), (2, .ref (b + 405)), (1, .ref (b + 0)), (0, .ref bS)] [] := by
  have hkL : sx_K σ (b + 0) = 10 := hJ.1.kL
  have hko := hJ.2.2.2.2.2.1
  have hno := hJ.2.2.2.2.2.2.1
  have hT := hJ.2.2.2.1
  have bσ := pb hJ
  obtain ⟨⟨a1, v1⟩, ⟨a2, v2⟩, ⟨a3, v3⟩, ⟨a4, v4⟩, ⟨a5, v5⟩⟩ := hA
  refine z_aload_n B dL_law_340 rfl 3 rfl ?_
  refine z_aload_n B dL_law_341 rfl 4 rfl ?_
  refine z_iload B dL_law_342 0 rfl ?_
  refine z_iconst (v := 1) B dL_law_344 (by decide) ?_
  refine z_iadd B dL_law_345 ?_
  refine z_sld (j := q + 1) (x := xs (q + 1)) B hX hbl hbA a1 v1 rfl dL_law_346 ?_
  refine z_aload_n B dL_law_347 rfl 4 rfl ?_
  refine z_iload B dL_law_348 0 rfl ?_
  refine z_iconst (v := 2) B dL_law_350 (by decide) ?_
  refine z_iadd B dL_law_351 ?_
  refine z_sld (j := q + 2) (x := xs (q + 2)) B hX hbl hbA a2 v2 rfl dL_law_352 ?_
  refine z_aload_n B dL_law_353 rfl 4 rfl ?_
  refine z_iload B dL_law_354 0 rfl ?_
  refine z_iconst (v := 3) B dL_law_356 (by decide) ?_
  refine z_iadd B dL_law_357 ?_
  refine z_sld (j := q + 3) (x := xs (q + 3)) B hX hbl hbA a3 v3 rfl dL_law_358 ?_
  refine z_aload_n B dL_law_359 rfl 1 rfl ?_
  have hcl : Ok (f_X8_signal n0 σ (b + 0) (xs (q + 1)) (xs (q + 2)) (xs (q + 3))) (fun r => UP (cS b) 0 σ r.2) := ok_signal (c := cS b) hn hJ.1
  obtain ⟨⟨r, u⟩, hr, hU⟩ := hcl
  have hU : UP (cS b) 0 σ u := hU
  obtain ⟨hG, hM⟩ := wr_signal l hlt hr hT hkL hko hno
  obtain ⟨J1, z1, s1⟩ := jd_up hJ hU hG
  have bu := pb J1
  refine z_cSWi (As := [.ref (b + 0), .int (xs (q + 1)), .int (xs (q + 2)), .int (xs (q + 3)), .ref (b + 431)]) (rest := []) B cw_L_87 dL_law_360 hM rfl ⟨Nat.le_of_ble_eq_true rfl, Nat.le_of_ble_eq_true rfl⟩ rfl (Nat.le_of_ble_eq_true rfl) ⟨(by show _ ≤ 601024; omega), (by show _ ≤ 7293034; omega)⟩ (fun r2 u2 hu => ?_)
  obtain ⟨J2, p2, s2⟩ := wq_j J1 hu
  refine z_istore (lv' := [(5, .int r2), (4, .int x), (3, .ref (b + 431)), (2, .ref (b + 405)), (1, .ref (b + 0)), (0, .ref bS)]) B dL_law_363 (by decide) rfl ?_
  refine z_aload_n B dL_law_365 rfl 3 rfl ?_
  refine z_aload_n B dL_law_366 rfl 5 rfl ?_
  refine z_iload B dL_law_367 1 rfl ?_
  refine z_iconst (v := 1) B dL_law_369 (by decide) ?_
  refine z_iadd B dL_law_370 ?_
  refine z_sld (j := q + 1) (x := xs (q + 1)) B hX hbl hbA a1 v1 rfl dL_law_371 ?_
  refine z_aload_n B dL_law_372 rfl 5 rfl ?_
  refine z_iload B dL_law_373 1 rfl ?_
  refine z_iconst (v := 2) B dL_law_375 (by decide) ?_
  refine z_iadd B dL_law_376 ?_
  refine z_sld (j := q + 2) (x := xs (q + 2)) B hX hbl hbA a2 v2 rfl dL_law_377 ?_
  refine z_aload_n B dL_law_378 rfl 5 rfl ?_
  refine z_iload B dL_law_379 1 rfl ?_
  refine z_iconst (v := 3) B dL_law_381 (by decide) ?_
  refine z_iadd B dL_law_382 ?_
  refine z_sld (j := q + 3) (x := xs (q + 3)) B hX hbl hbA a3 v3 rfl dL_law_383 ?_
  have hmm := ok_signalM (x1 := (xs (q + 1))) (x2 := (xs (q + 2))) (x3 := (xs (q + 3))) hn J2.2.1
  obtain ⟨⟨r3, u3⟩, hr3, hU3⟩ := hmm
  have hU3 : MU (b + 405) _ u3 := hU3
  have ct3 := ct_X9_signal l hr3 J2.2.2.2.1 J2.2.2.1.1
  obtain ⟨J3, p3, s3, z3, y3⟩ := jd_mu J2 hU3 ct3.1.1
  have b3 := pb J3
  refine z_cVi (As := [.int (xs (q + 1)), .int (xs (q + 2)), .int (xs (q + 3))]) (rest := []) B cw_L_90 cx_10 dL_law_384 ct3.2 J2.2.2.1.1 rfl ⟨Nat.le_of_ble_eq_true rfl, Nat.le_of_ble_eq_true rfl⟩ rfl (Nat.le_of_ble_eq_true rfl) ⟨(by show _ ≤ 601024; omega), (by show _ ≤ 7293034; omega)⟩ (fun r4 u4 hu4 => ?_)
  obtain ⟨-, hu4⟩ := hu4
  subst hu4
  refine z_istore (lv' := [(6, .int r4), (5, .int r2), (4, .int x), (3, .ref (b + 431)), (2, .ref (b + 405)), (1, .ref (b + 0)), (0, .ref bS)]) B dL_law_387 (by decide) rfl ?_
  refine z_goto (tgt := 955) B dL_law_389 (by decide) ?_
  refine z_sub _ [2, 3, 4, 5, 6] rfl ?_
  exact kk _ _ _ J3 (by omega) (by omega)
set_option maxRecDepth 100000 in
set_option maxHeartbeats 4000000 in
theorem cs_4 {n0 : Nat} {p : Program} {l : Launch} {e : Env} {s : State} {m : MethodId} {args : Array Value} {below : List Frame} {meth : Method} {c : Code} {g : gx_T} {Q : State → Prop} {σ : sx_T} {b bS L q cells slots : Nat} {xs : Nat → Int32} {x : Int32} {C S : Int} (hn : 1000001 ≤ n0) (hlt : l.stackTraces = false) (B : zx_B p s m args meth c code RL 8 g) (hX : va_X bS L xs s s.heap) (hbl : bS < s.heap.size) (hbA : ¬ gx_b g ≤ bS) (hA : AJ x q L) (hJ : JD g b 0 σ) (hc : (cells : Int) ≤ C + PC b σ) (hs : (slots : Int) ≤ S + PS b σ) (hC : C ≤ 2000) (hS : S ≤ 200000) (kk : ∀ (σ' : sx_T) (cells' slots' : Nat), JD g b 0 σ' → (cells' : Int) ≤ C + 1 + PC b σ' → (slots' : Int) ≤ S + 6 + PS b σ' → zx p l e room_1 s m args below meth c g 8 cells' slots' Q σ' 955 [(4, .int x), (3, .ref (b + 431)), (2, .ref (b + 405)), (1, .ref (b + 0)), (0, .ref bS)] []) : zx p l e room_1 s m args below meth c g 8 cells slots Q σ 392 [(4, .int x), (3, .ref (b + 431)), (2, .ref (b + 405)), (1, .ref (b + 0)), (0, .ref bS)] [] := by
  have hkL : sx_K σ (b + 0) = 10 := hJ.1.kL
  have hko := hJ.2.2.2.2.2.1
  have hno := hJ.2.2.2.2.2.2.1
  have hT := hJ.2.2.2.1
  have bσ := pb hJ
  obtain ⟨⟨a1, v1⟩, ⟨a2, v2⟩, ⟨a3, v3⟩, ⟨a4, v4⟩, ⟨a5, v5⟩⟩ := hA
  refine z_aload_n B dL_law_392 rfl 3 rfl ?_
  refine z_aload_n B dL_law_393 rfl 4 rfl ?_
  refine z_iload B dL_law_394 0 rfl ?_
  refine z_iconst (v := 1) B dL_law_396 (by decide) ?_
  refine z_iadd B dL_law_397 ?_
  refine z_sld (j := q + 1) (x := xs (q + 1)) B hX hbl hbA a1 v1 rfl dL_law_398 ?_
  refine z_aload_n B dL_law_399 rfl 1 rfl ?_
  have hcl : Ok (f_X8_cancel n0 σ (b + 0) (xs (q + 1))) (fun r => UP (cS b) 0 σ r.2) := ok_cancel (c := cS b) hn hJ.1
  obtain ⟨⟨r, u⟩, hr, hU⟩ := hcl
  have hU : UP (cS b) 0 σ u := hU
  obtain ⟨hG, hM⟩ := wr_cancel l hlt hr hT hkL hko hno
  obtain ⟨J1, z1, s1⟩ := jd_up hJ hU hG
  have bu := pb J1
  refine z_cSWi (As := [.ref (b + 0), .int (xs (q + 1)), .ref (b + 431)]) (rest := []) B cw_L_91 dL_law_400 hM rfl ⟨Nat.le_of_ble_eq_true rfl, Nat.le_of_ble_eq_true rfl⟩ rfl (Nat.le_of_ble_eq_true rfl) ⟨(by show _ ≤ 601024; omega), (by show _ ≤ 7293034; omega)⟩ (fun r2 u2 hu => ?_)
  obtain ⟨J2, p2, s2⟩ := wq_j J1 hu
  refine z_istore (lv' := [(5, .int r2), (4, .int x), (3, .ref (b + 431)), (2, .ref (b + 405)), (1, .ref (b + 0)), (0, .ref bS)]) B dL_law_403 (by decide) rfl ?_
  refine z_aload_n B dL_law_405 rfl 3 rfl ?_
  refine z_aload_n B dL_law_406 rfl 5 rfl ?_
  refine z_iload B dL_law_407 1 rfl ?_
  refine z_iconst (v := 1) B dL_law_409 (by decide) ?_
  refine z_iadd B dL_law_410 ?_
  refine z_sld (j := q + 1) (x := xs (q + 1)) B hX hbl hbA a1 v1 rfl dL_law_411 ?_
  have hmm := ok_cancelM (x1 := (xs (q + 1))) hn J2.2.1
  obtain ⟨⟨r3, u3⟩, hr3, hU3⟩ := hmm
  have hU3 : MU (b + 405) _ u3 := hU3
  have ct3 := ct_X9_cancel l hr3 J2.2.2.2.1 J2.2.2.1.1
  obtain ⟨J3, p3, s3, z3, y3⟩ := jd_mu J2 hU3 ct3.1.1
  have b3 := pb J3
  refine z_cVi (As := [.int (xs (q + 1))]) (rest := []) B cw_L_94 cx_10 dL_law_412 ct3.2 J2.2.2.1.1 rfl ⟨Nat.le_of_ble_eq_true rfl, Nat.le_of_ble_eq_true rfl⟩ rfl (Nat.le_of_ble_eq_true rfl) ⟨(by show _ ≤ 601024; omega), (by show _ ≤ 7293034; omega)⟩ (fun r4 u4 hu4 => ?_)
  obtain ⟨-, hu4⟩ := hu4
  subst hu4
  refine z_istore (lv' := [(6, .int r4), (5, .int r2), (4, .int x), (3, .ref (b + 431)), (2, .ref (b + 405)), (1, .ref (b + 0)), (0, .ref bS)]) B dL_law_415 (by decide) rfl ?_
  refine z_goto (tgt := 955) B dL_law_417 (by decide) ?_
  refine z_sub _ [2, 3, 4, 5, 6] rfl ?_
  exact kk _ _ _ J3 (by omega) (by omega)
set_option maxRecDepth 100000 in
set_option maxHeartbeats 4000000 in
theorem cs_5 {n0 : Nat} {p : Program} {l : Launch} {e : Env} {s : State} {m : MethodId} {args : Array Value} {below : List Frame} {meth : Method} {c : Code} {g : gx_T} {Q : State → Prop} {σ : sx_T} {b bS L q cells slots : Nat} {xs : Nat → Int32} {x : Int32} {C S : Int} (hn : 1000001 ≤ n0) (hlt : l.stackTraces = false) (B : zx_B p s m args meth c code RL 8 g) (hX : va_X bS L xs s s.heap) (hbl : bS < s.heap.size) (hbA : ¬ gx_b g ≤ bS) (hA : AJ x q L) (hJ : JD g b 0 σ) (hc : (cells : Int) ≤ C + PC b σ) (hs : (slots : Int) ≤ S + PS b σ) (hC : C ≤ 2000) (hS : S ≤ 200000) (kk : ∀ (σ' : sx_T) (cells' slots' : Nat), JD g b 0 σ' → (cells' : Int) ≤ C + 1 + PC b σ' → (slots' : Int) ≤ S + 6 + PS b σ' → zx p l e room_1 s m args below meth c g 8 cells' slots' Q σ' 955 [(4, .int x), (3, .ref (b + 431)), (2, .ref (b + 405)), (1, .ref (b + 0)), (0, .ref bS)] []) : zx p l e room_1 s m args below meth c g 8 cells slots Q σ 420 [(4, .int x), (3, .ref (b + 431)), (2, .ref (b + 405)), (1, .ref (b + 0)), (0, .ref bS)] [] := by
  have hkL : sx_K σ (b + 0) = 10 := hJ.1.kL
  have hko := hJ.2.2.2.2.2.1
  have hno := hJ.2.2.2.2.2.2.1
  have hT := hJ.2.2.2.1
  have bσ := pb hJ
  obtain ⟨⟨a1, v1⟩, ⟨a2, v2⟩, ⟨a3, v3⟩, ⟨a4, v4⟩, ⟨a5, v5⟩⟩ := hA
  refine z_aload_n B dL_law_420 rfl 3 rfl ?_
  refine z_aload_n B dL_law_421 rfl 4 rfl ?_
  refine z_iload B dL_law_422 0 rfl ?_
  refine z_iconst (v := 1) B dL_law_424 (by decide) ?_
  refine z_iadd B dL_law_425 ?_
  refine z_sld (j := q + 1) (x := xs (q + 1)) B hX hbl hbA a1 v1 rfl dL_law_426 ?_
  refine z_aload_n B dL_law_427 rfl 4 rfl ?_
  refine z_iload B dL_law_428 0 rfl ?_
  refine z_iconst (v := 2) B dL_law_430 (by decide) ?_
  refine z_iadd B dL_law_431 ?_
  refine z_sld (j := q + 2) (x := xs (q + 2)) B hX hbl hbA a2 v2 rfl dL_law_432 ?_
  refine z_aload_n B dL_law_433 rfl 1 rfl ?_
  have hcl : Ok (f_X8_reset n0 σ (b + 0) (xs (q + 1)) (xs (q + 2))) (fun r => UP (cS b) 0 σ r.2) := ok_reset (c := cS b) hn hJ.1
  obtain ⟨⟨r, u⟩, hr, hU⟩ := hcl
  have hU : UP (cS b) 0 σ u := hU
  obtain ⟨hG, hM⟩ := wr_reset l hlt hr hT hkL hko hno
  obtain ⟨J1, z1, s1⟩ := jd_up hJ hU hG
  have bu := pb J1
  refine z_cSWi (As := [.ref (b + 0), .int (xs (q + 1)), .int (xs (q + 2)), .ref (b + 431)]) (rest := []) B cw_L_95 dL_law_434 hM rfl ⟨Nat.le_of_ble_eq_true rfl, Nat.le_of_ble_eq_true rfl⟩ rfl (Nat.le_of_ble_eq_true rfl) ⟨(by show _ ≤ 601024; omega), (by show _ ≤ 7293034; omega)⟩ (fun r2 u2 hu => ?_)
  obtain ⟨J2, p2, s2⟩ := wq_j J1 hu
  refine z_istore (lv' := [(5, .int r2), (4, .int x), (3, .ref (b + 431)), (2, .ref (b + 405)), (1, .ref (b + 0)), (0, .ref bS)]) B dL_law_437 (by decide) rfl ?_
  refine z_aload_n B dL_law_439 rfl 3 rfl ?_
  refine z_aload_n B dL_law_440 rfl 5 rfl ?_
  refine z_iload B dL_law_441 1 rfl ?_
  refine z_iconst (v := 1) B dL_law_443 (by decide) ?_
  refine z_iadd B dL_law_444 ?_
  refine z_sld (j := q + 1) (x := xs (q + 1)) B hX hbl hbA a1 v1 rfl dL_law_445 ?_
  refine z_aload_n B dL_law_446 rfl 5 rfl ?_
  refine z_iload B dL_law_447 1 rfl ?_
  refine z_iconst (v := 2) B dL_law_449 (by decide) ?_
  refine z_iadd B dL_law_450 ?_
  refine z_sld (j := q + 2) (x := xs (q + 2)) B hX hbl hbA a2 v2 rfl dL_law_451 ?_
  have hmm := ok_resetM (x1 := (xs (q + 1))) (x2 := (xs (q + 2))) hn J2.2.1
  obtain ⟨⟨r3, u3⟩, hr3, hU3⟩ := hmm
  have hU3 : MU (b + 405) _ u3 := hU3
  have ct3 := ct_X9_reset l hr3 J2.2.2.2.1 J2.2.2.1.1
  obtain ⟨J3, p3, s3, z3, y3⟩ := jd_mu J2 hU3 ct3.1.1
  have b3 := pb J3
  refine z_cVi (As := [.int (xs (q + 1)), .int (xs (q + 2))]) (rest := []) B cw_L_97 cx_10 dL_law_452 ct3.2 J2.2.2.1.1 rfl ⟨Nat.le_of_ble_eq_true rfl, Nat.le_of_ble_eq_true rfl⟩ rfl (Nat.le_of_ble_eq_true rfl) ⟨(by show _ ≤ 601024; omega), (by show _ ≤ 7293034; omega)⟩ (fun r4 u4 hu4 => ?_)
  obtain ⟨-, hu4⟩ := hu4
  subst hu4
  refine z_istore (lv' := [(6, .int r4), (5, .int r2), (4, .int x), (3, .ref (b + 431)), (2, .ref (b + 405)), (1, .ref (b + 0)), (0, .ref bS)]) B dL_law_455 (by decide) rfl ?_
  refine z_goto (tgt := 955) B dL_law_457 (by decide) ?_
  refine z_sub _ [2, 3, 4, 5, 6] rfl ?_
  exact kk _ _ _ J3 (by omega) (by omega)
set_option maxRecDepth 100000 in
set_option maxHeartbeats 4000000 in
theorem cs_6 {n0 : Nat} {p : Program} {l : Launch} {e : Env} {s : State} {m : MethodId} {args : Array Value} {below : List Frame} {meth : Method} {c : Code} {g : gx_T} {Q : State → Prop} {σ : sx_T} {b bS L q cells slots : Nat} {xs : Nat → Int32} {x : Int32} {C S : Int} (hn : 1000001 ≤ n0) (hlt : l.stackTraces = false) (B : zx_B p s m args meth c code RL 8 g) (hX : va_X bS L xs s s.heap) (hbl : bS < s.heap.size) (hbA : ¬ gx_b g ≤ bS) (hA : AJ x q L) (hJ : JD g b 0 σ) (hc : (cells : Int) ≤ C + PC b σ) (hs : (slots : Int) ≤ S + PS b σ) (hC : C ≤ 2000) (hS : S ≤ 200000) (kk : ∀ (σ' : sx_T) (cells' slots' : Nat), JD g b 0 σ' → (cells' : Int) ≤ C + 1 + PC b σ' → (slots' : Int) ≤ S + 6 + PS b σ' → zx p l e room_1 s m args below meth c g 8 cells' slots' Q σ' 955 [(4, .int x), (3, .ref (b + 431)), (2, .ref (b + 405)), (1, .ref (b + 0)), (0, .ref bS)] []) : zx p l e room_1 s m args below meth c g 8 cells slots Q σ 460 [(4, .int x), (3, .ref (b + 431)), (2, .ref (b + 405)), (1, .ref (b + 0)), (0, .ref bS)] [] := by
  have hkL : sx_K σ (b + 0) = 10 := hJ.1.kL
  have hko := hJ.2.2.2.2.2.1
  have hno := hJ.2.2.2.2.2.2.1
  have hT := hJ.2.2.2.1
  have bσ := pb hJ
  obtain ⟨⟨a1, v1⟩, ⟨a2, v2⟩, ⟨a3, v3⟩, ⟨a4, v4⟩, ⟨a5, v5⟩⟩ := hA
  refine z_aload_n B dL_law_460 rfl 3 rfl ?_
  have hcl : Ok (f_X8_crash n0 σ (b + 0) ) (fun r => UP (cS b) 0 σ r.2) := ok_crash (c := cS b) hn hJ.1
  obtain ⟨⟨r, u⟩, hr, hU⟩ := hcl
  have hU : UP (cS b) 0 σ u := hU
  have ct := ct_X8_crash l hr hT hkL
  obtain ⟨J1, z1, s1⟩ := jd_up hJ hU ct.1.1
  have bu := pb J1
  refine z_cVi (As := []) (rest := []) B cw_L_98 cx_9 dL_law_461 ct.2 hkL rfl ⟨Nat.le_of_ble_eq_true rfl, Nat.le_of_ble_eq_true rfl⟩ rfl (Nat.le_of_ble_eq_true rfl) ⟨(by show _ ≤ 601024; omega), (by show _ ≤ 7293034; omega)⟩ (fun r2 u2 hu => ?_)
  obtain ⟨e2, hu⟩ := hu
  subst hu
  have J2 := J1
  refine z_pop B dL_law_464 rfl ?_
  refine z_aload_n B dL_law_465 rfl 2 rfl ?_
  have hmm := ok_crashM hn J2.2.1
  obtain ⟨⟨r3, u3⟩, hr3, hU3⟩ := hmm
  have hU3 : MU (b + 405) _ u3 := hU3
  have ct3 := ct_X9_crash l hr3 J2.2.2.2.1 J2.2.2.1.1
  obtain ⟨J3, p3, s3, z3, y3⟩ := jd_mu J2 hU3 ct3.1.1
  have b3 := pb J3
  refine z_cVi (As := []) (rest := []) B cw_L_102 cx_10 dL_law_466 ct3.2 J2.2.2.1.1 rfl ⟨Nat.le_of_ble_eq_true rfl, Nat.le_of_ble_eq_true rfl⟩ rfl (Nat.le_of_ble_eq_true rfl) ⟨(by show _ ≤ 601024; omega), (by show _ ≤ 7293034; omega)⟩ (fun r4 u4 hu4 => ?_)
  obtain ⟨-, hu4⟩ := hu4
  subst hu4
  refine z_pop B dL_law_469 rfl ?_
  refine z_goto (tgt := 955) B dL_law_470 (by decide) ?_
  exact kk _ _ _ J3 (by omega) (by omega)
set_option maxRecDepth 100000 in
set_option maxHeartbeats 4000000 in
theorem cs_7 {n0 : Nat} {p : Program} {l : Launch} {e : Env} {s : State} {m : MethodId} {args : Array Value} {below : List Frame} {meth : Method} {c : Code} {g : gx_T} {Q : State → Prop} {σ : sx_T} {b bS L q cells slots : Nat} {xs : Nat → Int32} {x : Int32} {C S : Int} (hn : 1000001 ≤ n0) (hlt : l.stackTraces = false) (B : zx_B p s m args meth c code RL 8 g) (hX : va_X bS L xs s s.heap) (hbl : bS < s.heap.size) (hbA : ¬ gx_b g ≤ bS) (hA : AJ x q L) (hJ : JD g b 0 σ) (hc : (cells : Int) ≤ C + PC b σ) (hs : (slots : Int) ≤ S + PS b σ) (hC : C ≤ 2000) (hS : S ≤ 200000) (kk : ∀ (σ' : sx_T) (cells' slots' : Nat), JD g b 0 σ' → (cells' : Int) ≤ C + 1 + PC b σ' → (slots' : Int) ≤ S + 6 + PS b σ' → zx p l e room_1 s m args below meth c g 8 cells' slots' Q σ' 955 [(4, .int x), (3, .ref (b + 431)), (2, .ref (b + 405)), (1, .ref (b + 0)), (0, .ref bS)] []) : zx p l e room_1 s m args below meth c g 8 cells slots Q σ 473 [(4, .int x), (3, .ref (b + 431)), (2, .ref (b + 405)), (1, .ref (b + 0)), (0, .ref bS)] [] := by
  have hkL : sx_K σ (b + 0) = 10 := hJ.1.kL
  have hko := hJ.2.2.2.2.2.1
  have hno := hJ.2.2.2.2.2.2.1
  have hT := hJ.2.2.2.1
  have bσ := pb hJ
  obtain ⟨⟨a1, v1⟩, ⟨a2, v2⟩, ⟨a3, v3⟩, ⟨a4, v4⟩, ⟨a5, v5⟩⟩ := hA
  refine z_aload_n B dL_law_473 rfl 3 rfl ?_
  have hcl : Ok (f_X8_poll n0 σ (b + 0) ) (fun r => UP (cS b) 0 σ r.2) := ok_poll (c := cS b) hn hJ.1
  obtain ⟨⟨r, u⟩, hr, hU⟩ := hcl
  have hU : UP (cS b) 0 σ u := hU
  have ct := ct_X8_poll l hr hT hkL
  obtain ⟨J1, z1, s1⟩ := jd_up hJ hU ct.1.1
  have bu := pb J1
  refine z_cVi (As := []) (rest := []) B cw_L_103 cx_9 dL_law_474 ct.2 hkL rfl ⟨Nat.le_of_ble_eq_true rfl, Nat.le_of_ble_eq_true rfl⟩ rfl (Nat.le_of_ble_eq_true rfl) ⟨(by show _ ≤ 601024; omega), (by show _ ≤ 7293034; omega)⟩ (fun r2 u2 hu => ?_)
  obtain ⟨e2, hu⟩ := hu
  subst hu
  have J2 := J1
  refine z_pop B dL_law_477 rfl ?_
  refine z_aload_n B dL_law_478 rfl 2 rfl ?_
  have hmm := ok_pollM hn J2.2.1
  obtain ⟨⟨r3, u3⟩, hr3, hU3⟩ := hmm
  have hU3 : MU (b + 405) _ u3 := hU3
  have ct3 := ct_X9_poll l hr3 J2.2.2.2.1 J2.2.2.1.1
  obtain ⟨J3, p3, s3, z3, y3⟩ := jd_mu J2 hU3 ct3.1.1
  have b3 := pb J3
  refine z_cVi (As := []) (rest := []) B cw_L_106 cx_10 dL_law_479 ct3.2 J2.2.2.1.1 rfl ⟨Nat.le_of_ble_eq_true rfl, Nat.le_of_ble_eq_true rfl⟩ rfl (Nat.le_of_ble_eq_true rfl) ⟨(by show _ ≤ 601024; omega), (by show _ ≤ 7293034; omega)⟩ (fun r4 u4 hu4 => ?_)
  obtain ⟨-, hu4⟩ := hu4
  subst hu4
  refine z_pop B dL_law_482 rfl ?_
  refine z_goto (tgt := 955) B dL_law_483 (by decide) ?_
  exact kk _ _ _ J3 (by omega) (by omega)
set_option maxRecDepth 100000 in
set_option maxHeartbeats 4000000 in
theorem cs_8 {n0 : Nat} {p : Program} {l : Launch} {e : Env} {s : State} {m : MethodId} {args : Array Value} {below : List Frame} {meth : Method} {c : Code} {g : gx_T} {Q : State → Prop} {σ : sx_T} {b bS L q cells slots : Nat} {xs : Nat → Int32} {x : Int32} {C S : Int} (hn : 1000001 ≤ n0) (hlt : l.stackTraces = false) (B : zx_B p s m args meth c code RL 8 g) (hX : va_X bS L xs s s.heap) (hbl : bS < s.heap.size) (hbA : ¬ gx_b g ≤ bS) (hA : AJ x q L) (hJ : JD g b 0 σ) (hc : (cells : Int) ≤ C + PC b σ) (hs : (slots : Int) ≤ S + PS b σ) (hC : C ≤ 2000) (hS : S ≤ 200000) (kk : ∀ (σ' : sx_T) (cells' slots' : Nat), JD g b 0 σ' → (cells' : Int) ≤ C + 1 + PC b σ' → (slots' : Int) ≤ S + 6 + PS b σ' → zx p l e room_1 s m args below meth c g 8 cells' slots' Q σ' 955 [(4, .int x), (3, .ref (b + 431)), (2, .ref (b + 405)), (1, .ref (b + 0)), (0, .ref bS)] []) : zx p l e room_1 s m args below meth c g 8 cells slots Q σ 486 [(4, .int x), (3, .ref (b + 431)), (2, .ref (b + 405)), (1, .ref (b + 0)), (0, .ref bS)] [] := by
  have hkL : sx_K σ (b + 0) = 10 := hJ.1.kL
  have hko := hJ.2.2.2.2.2.1
  have hno := hJ.2.2.2.2.2.2.1
  have hT := hJ.2.2.2.1
  have bσ := pb hJ
  obtain ⟨⟨a1, v1⟩, ⟨a2, v2⟩, ⟨a3, v3⟩, ⟨a4, v4⟩, ⟨a5, v5⟩⟩ := hA
  refine z_aload_n B dL_law_486 rfl 3 rfl ?_
  refine z_aload_n B dL_law_487 rfl 4 rfl ?_
  refine z_iload B dL_law_488 0 rfl ?_
  refine z_iconst (v := 1) B dL_law_490 (by decide) ?_
  refine z_iadd B dL_law_491 ?_
  refine z_sld (j := q + 1) (x := xs (q + 1)) B hX hbl hbA a1 v1 rfl dL_law_492 ?_
  refine z_aload_n B dL_law_493 rfl 4 rfl ?_
  refine z_iload B dL_law_494 0 rfl ?_
  refine z_iconst (v := 2) B dL_law_496 (by decide) ?_
  refine z_iadd B dL_law_497 ?_
  refine z_sld (j := q + 2) (x := xs (q + 2)) B hX hbl hbA a2 v2 rfl dL_law_498 ?_
  refine z_aload_n B dL_law_499 rfl 1 rfl ?_
  have hcl : Ok (f_X8_complete n0 σ (b + 0) (xs (q + 1)) (xs (q + 2))) (fun r => UP (cS b) 0 σ r.2) := ok_complete (c := cS b) hn hJ.1
  obtain ⟨⟨r, u⟩, hr, hU⟩ := hcl
  have hU : UP (cS b) 0 σ u := hU
  obtain ⟨hG, hM⟩ := wr_complete l hlt hr hT hkL hko hno
  obtain ⟨J1, z1, s1⟩ := jd_up hJ hU hG
  have bu := pb J1
  refine z_cSWi (As := [.ref (b + 0), .int (xs (q + 1)), .int (xs (q + 2)), .ref (b + 431)]) (rest := []) B cw_L_107 dL_law_500 hM rfl ⟨Nat.le_of_ble_eq_true rfl, Nat.le_of_ble_eq_true rfl⟩ rfl (Nat.le_of_ble_eq_true rfl) ⟨(by show _ ≤ 601024; omega), (by show _ ≤ 7293034; omega)⟩ (fun r2 u2 hu => ?_)
  obtain ⟨J2, p2, s2⟩ := wq_j J1 hu
  refine z_istore (lv' := [(5, .int r2), (4, .int x), (3, .ref (b + 431)), (2, .ref (b + 405)), (1, .ref (b + 0)), (0, .ref bS)]) B dL_law_503 (by decide) rfl ?_
  refine z_aload_n B dL_law_505 rfl 3 rfl ?_
  refine z_aload_n B dL_law_506 rfl 5 rfl ?_
  refine z_iload B dL_law_507 1 rfl ?_
  refine z_iconst (v := 1) B dL_law_509 (by decide) ?_
  refine z_iadd B dL_law_510 ?_
  refine z_sld (j := q + 1) (x := xs (q + 1)) B hX hbl hbA a1 v1 rfl dL_law_511 ?_
  refine z_aload_n B dL_law_512 rfl 5 rfl ?_
  refine z_iload B dL_law_513 1 rfl ?_
  refine z_iconst (v := 2) B dL_law_515 (by decide) ?_
  refine z_iadd B dL_law_516 ?_
  refine z_sld (j := q + 2) (x := xs (q + 2)) B hX hbl hbA a2 v2 rfl dL_law_517 ?_
  have hmm := ok_completeM (x1 := (xs (q + 1))) (x2 := (xs (q + 2))) hn J2.2.1
  obtain ⟨⟨r3, u3⟩, hr3, hU3⟩ := hmm
  have hU3 : MU (b + 405) _ u3 := hU3
  have ct3 := ct_X9_complete l hr3 J2.2.2.2.1 J2.2.2.1.1
  obtain ⟨J3, p3, s3, z3, y3⟩ := jd_mu J2 hU3 ct3.1.1
  have b3 := pb J3
  refine z_cVi (As := [.int (xs (q + 1)), .int (xs (q + 2))]) (rest := []) B cw_L_109 cx_10 dL_law_518 ct3.2 J2.2.2.1.1 rfl ⟨Nat.le_of_ble_eq_true rfl, Nat.le_of_ble_eq_true rfl⟩ rfl (Nat.le_of_ble_eq_true rfl) ⟨(by show _ ≤ 601024; omega), (by show _ ≤ 7293034; omega)⟩ (fun r4 u4 hu4 => ?_)
  obtain ⟨-, hu4⟩ := hu4
  subst hu4
  refine z_istore (lv' := [(6, .int r4), (5, .int r2), (4, .int x), (3, .ref (b + 431)), (2, .ref (b + 405)), (1, .ref (b + 0)), (0, .ref bS)]) B dL_law_521 (by decide) rfl ?_
  refine z_goto (tgt := 955) B dL_law_523 (by decide) ?_
  refine z_sub _ [2, 3, 4, 5, 6] rfl ?_
  exact kk _ _ _ J3 (by omega) (by omega)
set_option maxRecDepth 100000 in
set_option maxHeartbeats 4000000 in
theorem cs_9 {n0 : Nat} {p : Program} {l : Launch} {e : Env} {s : State} {m : MethodId} {args : Array Value} {below : List Frame} {meth : Method} {c : Code} {g : gx_T} {Q : State → Prop} {σ : sx_T} {b bS L q cells slots : Nat} {xs : Nat → Int32} {x : Int32} {C S : Int} (hn : 1000001 ≤ n0) (hlt : l.stackTraces = false) (B : zx_B p s m args meth c code RL 8 g) (hX : va_X bS L xs s s.heap) (hbl : bS < s.heap.size) (hbA : ¬ gx_b g ≤ bS) (hA : AJ x q L) (hJ : JD g b 0 σ) (hc : (cells : Int) ≤ C + PC b σ) (hs : (slots : Int) ≤ S + PS b σ) (hC : C ≤ 2000) (hS : S ≤ 200000) (kk : ∀ (σ' : sx_T) (cells' slots' : Nat), JD g b 0 σ' → (cells' : Int) ≤ C + 1 + PC b σ' → (slots' : Int) ≤ S + 6 + PS b σ' → zx p l e room_1 s m args below meth c g 8 cells' slots' Q σ' 955 [(4, .int x), (3, .ref (b + 431)), (2, .ref (b + 405)), (1, .ref (b + 0)), (0, .ref bS)] []) : zx p l e room_1 s m args below meth c g 8 cells slots Q σ 526 [(4, .int x), (3, .ref (b + 431)), (2, .ref (b + 405)), (1, .ref (b + 0)), (0, .ref bS)] [] := by
  have hkL : sx_K σ (b + 0) = 10 := hJ.1.kL
  have hko := hJ.2.2.2.2.2.1
  have hno := hJ.2.2.2.2.2.2.1
  have hT := hJ.2.2.2.1
  have bσ := pb hJ
  obtain ⟨⟨a1, v1⟩, ⟨a2, v2⟩, ⟨a3, v3⟩, ⟨a4, v4⟩, ⟨a5, v5⟩⟩ := hA
  refine z_aload_n B dL_law_526 rfl 3 rfl ?_
  refine z_aload_n B dL_law_527 rfl 4 rfl ?_
  refine z_iload B dL_law_528 0 rfl ?_
  refine z_iconst (v := 1) B dL_law_530 (by decide) ?_
  refine z_iadd B dL_law_531 ?_
  refine z_sld (j := q + 1) (x := xs (q + 1)) B hX hbl hbA a1 v1 rfl dL_law_532 ?_
  have hcl : Ok (f_X8_fail n0 σ (b + 0) (xs (q + 1))) (fun r => UP (cS b) 0 σ r.2) := ok_fail (c := cS b) hn hJ.1
  obtain ⟨⟨r, u⟩, hr, hU⟩ := hcl
  have hU : UP (cS b) 0 σ u := hU
  have ct := ct_X8_fail l hr hT hkL
  obtain ⟨J1, z1, s1⟩ := jd_up hJ hU ct.1.1
  have bu := pb J1
  refine z_cVi (As := [.int (xs (q + 1))]) (rest := []) B cw_L_110 cx_9 dL_law_533 ct.2 hkL rfl ⟨Nat.le_of_ble_eq_true rfl, Nat.le_of_ble_eq_true rfl⟩ rfl (Nat.le_of_ble_eq_true rfl) ⟨(by show _ ≤ 601024; omega), (by show _ ≤ 7293034; omega)⟩ (fun r2 u2 hu => ?_)
  obtain ⟨e2, hu⟩ := hu
  subst hu
  have J2 := J1
  refine z_pop B dL_law_536 rfl ?_
  refine z_aload_n B dL_law_537 rfl 2 rfl ?_
  refine z_aload_n B dL_law_538 rfl 4 rfl ?_
  refine z_iload B dL_law_539 0 rfl ?_
  refine z_iconst (v := 1) B dL_law_541 (by decide) ?_
  refine z_iadd B dL_law_542 ?_
  refine z_sld (j := q + 1) (x := xs (q + 1)) B hX hbl hbA a1 v1 rfl dL_law_543 ?_
  have hmm := ok_failM (x1 := (xs (q + 1))) hn J2.2.1
  obtain ⟨⟨r3, u3⟩, hr3, hU3⟩ := hmm
  have hU3 : MU (b + 405) _ u3 := hU3
  have ct3 := ct_X9_fail l hr3 J2.2.2.2.1 J2.2.2.1.1
  obtain ⟨J3, p3, s3, z3, y3⟩ := jd_mu J2 hU3 ct3.1.1
  have b3 := pb J3
  refine z_cVi (As := [.int (xs (q + 1))]) (rest := []) B cw_L_113 cx_10 dL_law_544 ct3.2 J2.2.2.1.1 rfl ⟨Nat.le_of_ble_eq_true rfl, Nat.le_of_ble_eq_true rfl⟩ rfl (Nat.le_of_ble_eq_true rfl) ⟨(by show _ ≤ 601024; omega), (by show _ ≤ 7293034; omega)⟩ (fun r4 u4 hu4 => ?_)
  obtain ⟨-, hu4⟩ := hu4
  subst hu4
  refine z_pop B dL_law_547 rfl ?_
  refine z_goto (tgt := 955) B dL_law_548 (by decide) ?_
  exact kk _ _ _ J3 (by omega) (by omega)
set_option maxRecDepth 100000 in
set_option maxHeartbeats 4000000 in
theorem cs_10 {n0 : Nat} {p : Program} {l : Launch} {e : Env} {s : State} {m : MethodId} {args : Array Value} {below : List Frame} {meth : Method} {c : Code} {g : gx_T} {Q : State → Prop} {σ : sx_T} {b bS L q cells slots : Nat} {xs : Nat → Int32} {x : Int32} {C S : Int} (hn : 1000001 ≤ n0) (hlt : l.stackTraces = false) (B : zx_B p s m args meth c code RL 8 g) (hX : va_X bS L xs s s.heap) (hbl : bS < s.heap.size) (hbA : ¬ gx_b g ≤ bS) (hA : AJ x q L) (hJ : JD g b 0 σ) (hc : (cells : Int) ≤ C + PC b σ) (hs : (slots : Int) ≤ S + PS b σ) (hC : C ≤ 2000) (hS : S ≤ 200000) (kk : ∀ (σ' : sx_T) (cells' slots' : Nat), JD g b 0 σ' → (cells' : Int) ≤ C + 1 + PC b σ' → (slots' : Int) ≤ S + 6 + PS b σ' → zx p l e room_1 s m args below meth c g 8 cells' slots' Q σ' 955 [(4, .int x), (3, .ref (b + 431)), (2, .ref (b + 405)), (1, .ref (b + 0)), (0, .ref bS)] []) : zx p l e room_1 s m args below meth c g 8 cells slots Q σ 551 [(4, .int x), (3, .ref (b + 431)), (2, .ref (b + 405)), (1, .ref (b + 0)), (0, .ref bS)] [] := by
  have hkL : sx_K σ (b + 0) = 10 := hJ.1.kL
  have hko := hJ.2.2.2.2.2.1
  have hno := hJ.2.2.2.2.2.2.1
  have hT := hJ.2.2.2.1
  have bσ := pb hJ
  obtain ⟨⟨a1, v1⟩, ⟨a2, v2⟩, ⟨a3, v3⟩, ⟨a4, v4⟩, ⟨a5, v5⟩⟩ := hA
  refine z_aload_n B dL_law_551 rfl 3 rfl ?_
  refine z_aload_n B dL_law_552 rfl 4 rfl ?_
  refine z_iload B dL_law_553 0 rfl ?_
  refine z_iconst (v := 1) B dL_law_555 (by decide) ?_
  refine z_iadd B dL_law_556 ?_
  refine z_sld (j := q + 1) (x := xs (q + 1)) B hX hbl hbA a1 v1 rfl dL_law_557 ?_
  have hcl : Ok (f_X8_beat n0 σ (b + 0) (xs (q + 1))) (fun r => UP (cS b) 0 σ r.2) := ok_beat (c := cS b) hn hJ.1
  obtain ⟨⟨r, u⟩, hr, hU⟩ := hcl
  have hU : UP (cS b) 0 σ u := hU
  have ct := ct_X8_beat l hr hT hkL
  obtain ⟨J1, z1, s1⟩ := jd_up hJ hU ct.1.1
  have bu := pb J1
  refine z_cVi (As := [.int (xs (q + 1))]) (rest := []) B cw_L_114 cx_9 dL_law_558 ct.2 hkL rfl ⟨Nat.le_of_ble_eq_true rfl, Nat.le_of_ble_eq_true rfl⟩ rfl (Nat.le_of_ble_eq_true rfl) ⟨(by show _ ≤ 601024; omega), (by show _ ≤ 7293034; omega)⟩ (fun r2 u2 hu => ?_)
  obtain ⟨e2, hu⟩ := hu
  subst hu
  have J2 := J1
  refine z_pop B dL_law_561 rfl ?_
  refine z_aload_n B dL_law_562 rfl 2 rfl ?_
  refine z_aload_n B dL_law_563 rfl 4 rfl ?_
  refine z_iload B dL_law_564 0 rfl ?_
  refine z_iconst (v := 1) B dL_law_566 (by decide) ?_
  refine z_iadd B dL_law_567 ?_
  refine z_sld (j := q + 1) (x := xs (q + 1)) B hX hbl hbA a1 v1 rfl dL_law_568 ?_
  have hmm := ok_beatM (x1 := (xs (q + 1))) hn J2.2.1
  obtain ⟨⟨r3, u3⟩, hr3, hU3⟩ := hmm
  have hU3 : MU (b + 405) _ u3 := hU3
  have ct3 := ct_X9_beat l hr3 J2.2.2.2.1 J2.2.2.1.1
  obtain ⟨J3, p3, s3, z3, y3⟩ := jd_mu J2 hU3 ct3.1.1
  have b3 := pb J3
  refine z_cVi (As := [.int (xs (q + 1))]) (rest := []) B cw_L_117 cx_10 dL_law_569 ct3.2 J2.2.2.1.1 rfl ⟨Nat.le_of_ble_eq_true rfl, Nat.le_of_ble_eq_true rfl⟩ rfl (Nat.le_of_ble_eq_true rfl) ⟨(by show _ ≤ 601024; omega), (by show _ ≤ 7293034; omega)⟩ (fun r4 u4 hu4 => ?_)
  obtain ⟨-, hu4⟩ := hu4
  subst hu4
  refine z_pop B dL_law_572 rfl ?_
  refine z_goto (tgt := 955) B dL_law_573 (by decide) ?_
  exact kk _ _ _ J3 (by omega) (by omega)
set_option maxRecDepth 100000 in
set_option maxHeartbeats 4000000 in
theorem cs_11 {n0 : Nat} {p : Program} {l : Launch} {e : Env} {s : State} {m : MethodId} {args : Array Value} {below : List Frame} {meth : Method} {c : Code} {g : gx_T} {Q : State → Prop} {σ : sx_T} {b bS L q cells slots : Nat} {xs : Nat → Int32} {x : Int32} {C S : Int} (hn : 1000001 ≤ n0) (hlt : l.stackTraces = false) (B : zx_B p s m args meth c code RL 8 g) (hX : va_X bS L xs s s.heap) (hbl : bS < s.heap.size) (hbA : ¬ gx_b g ≤ bS) (hA : AJ x q L) (hJ : JD g b 0 σ) (hc : (cells : Int) ≤ C + PC b σ) (hs : (slots : Int) ≤ S + PS b σ) (hC : C ≤ 2000) (hS : S ≤ 200000) (kk : ∀ (σ' : sx_T) (cells' slots' : Nat), JD g b 0 σ' → (cells' : Int) ≤ C + 1 + PC b σ' → (slots' : Int) ≤ S + 6 + PS b σ' → zx p l e room_1 s m args below meth c g 8 cells' slots' Q σ' 955 [(4, .int x), (3, .ref (b + 431)), (2, .ref (b + 405)), (1, .ref (b + 0)), (0, .ref bS)] []) : zx p l e room_1 s m args below meth c g 8 cells slots Q σ 576 [(4, .int x), (3, .ref (b + 431)), (2, .ref (b + 405)), (1, .ref (b + 0)), (0, .ref bS)] [] := by
  have hkL : sx_K σ (b + 0) = 10 := hJ.1.kL
  have hko := hJ.2.2.2.2.2.1
  have hno := hJ.2.2.2.2.2.2.1
  have hT := hJ.2.2.2.1
  have bσ := pb hJ
  obtain ⟨⟨a1, v1⟩, ⟨a2, v2⟩, ⟨a3, v3⟩, ⟨a4, v4⟩, ⟨a5, v5⟩⟩ := hA
  refine z_aload_n B dL_law_576 rfl 3 rfl ?_
  refine z_aload_n B dL_law_577 rfl 4 rfl ?_
  refine z_iload B dL_law_578 0 rfl ?_
  refine z_iconst (v := 1) B dL_law_580 (by decide) ?_
  refine z_iadd B dL_law_581 ?_
  refine z_sld (j := q + 1) (x := xs (q + 1)) B hX hbl hbA a1 v1 rfl dL_law_582 ?_
  refine z_aload_n B dL_law_583 rfl 1 rfl ?_
  obtain ⟨r, u, d, hr, hU1, hU2, hU3, hMM⟩ := tick_c hn (b := b) (σ := σ) (x := (xs (q + 1))) hJ.1
  obtain ⟨hG, hM⟩ := wr_tick l hlt hr hT hkL hko hno
  obtain ⟨J1, z1, s1⟩ := jd_c (e := d) hJ hU1 hU2 hG hU3
  rw [Int32.zero_add] at J1
  have bu := pb J1
  refine z_cSWi (As := [.ref (b + 0), .int (xs (q + 1)), .ref (b + 431)]) (rest := []) B cw_L_118 dL_law_584 hM rfl ⟨Nat.le_of_ble_eq_true rfl, Nat.le_of_ble_eq_true rfl⟩ rfl (Nat.le_of_ble_eq_true rfl) ⟨(by show _ ≤ 601024; omega), (by show _ ≤ 7293034; omega)⟩ (fun r2 u2 hu => ?_)
  obtain ⟨J2, p2, s2⟩ := wq_j J1 (tqk_w hu)
  refine z_istore (lv' := [(5, .int r2), (4, .int x), (3, .ref (b + 431)), (2, .ref (b + 405)), (1, .ref (b + 0)), (0, .ref bS)]) B dL_law_587 (by decide) rfl ?_
  refine z_aload_n B dL_law_589 rfl 3 rfl ?_
  refine z_aload_n B dL_law_590 rfl 5 rfl ?_
  refine z_iload B dL_law_591 1 rfl ?_
  refine z_iconst (v := 1) B dL_law_593 (by decide) ?_
  refine z_iadd B dL_law_594 ?_
  refine z_sld (j := q + 1) (x := xs (q + 1)) B hX hbl hbA a1 v1 rfl dL_law_595 ?_
  have hmm := hMM _ J2.2.1
  obtain ⟨⟨r3, u3⟩, hr3, hU3, hX3⟩ := hmm
  have hU3 : MG (b + 405) u3 ∧ FA (MC (b + 405)) _ u3 ∧ sx_I u3 (b + 405) 1 = _ := hU3
  have ct3 := ct_X9_tick l hr3 J2.2.2.2.1 J2.2.2.1.1
  obtain ⟨J3, p3, s3, z3, y3⟩ := jd_m (d' := 0) J2 hU3.1 hU3.2.1 ct3.1.1.2.2.2 hU3.2.2 (by rw [Int32.add_zero])
  have b3 := pb J3
  refine z_cVi (As := [.int (xs (q + 1))]) (rest := []) B cw_L_120 cx_10 dL_law_596 ct3.2 J2.2.2.1.1 rfl ⟨Nat.le_of_ble_eq_true rfl, Nat.le_of_ble_eq_true rfl⟩ rfl (Nat.le_of_ble_eq_true rfl) ⟨(by show _ ≤ 601024; omega), (by show _ ≤ 7293034; omega)⟩ (fun r4 u4 hu4 => ?_)
  obtain ⟨e4, hu4⟩ := hu4
  subst hu4
  refine z_istore (lv' := [(6, .int r4), (5, .int r2), (4, .int x), (3, .ref (b + 431)), (2, .ref (b + 405)), (1, .ref (b + 0)), (0, .ref bS)]) B dL_law_599 (by decide) rfl ?_
  refine z_aload_n B dL_law_601 rfl 4 rfl ?_
  have htw : ∀ v : sx_T, f_X9_thrown v (b + 405) = some (sx_I v (b + 405) 0) := fun _ => rfl
  have ct5 := ct_X9_thrown l (htw _) J3.2.2.2.1 J3.2.2.1.1
  refine z_cVi (As := []) (rest := []) B cw_L_121 cx_10 dL_law_602 ct5.2 J3.2.2.1.1 rfl ⟨Nat.le_of_ble_eq_true rfl, Nat.le_of_ble_eq_true rfl⟩ rfl (Nat.le_of_ble_eq_true rfl) ⟨(by show _ ≤ 601024; omega), (by show _ ≤ 7293034; omega)⟩ (fun r5 u5 hu5 => ?_)
  obtain ⟨e5, hu5⟩ := hu5
  subst hu5
  have h52 : r5 = r2 := by
    rcases hX3 with ⟨⟨E, hE⟩, h0⟩ | ⟨y, hy, h8, h0, h1⟩
    · exact e5.trans (h0.trans (hu.2 E hE).1.symm)
    · exact e5.trans (h0.trans (hu.1 y hy).1.symm)
  refine z_iload B dL_law_605 1 rfl ?_
  refine z_icmp_eq (tgt := 612) B dL_law_607 (by decide) (fun _ => ?_) (fun hne => absurd h52 hne)
  refine z_iload B dL_law_612 1 rfl ?_
  refine z_if_ne (tgt := 629) B dL_law_614 (by decide) (fun _ => ?_) (fun h20 => ?_)
  · refine z_goto (tgt := 955) B dL_law_629 (by decide) ?_
    refine z_sub _ [2, 3, 4, 5, 6] rfl ?_
    exact kk _ _ _ J3 (by omega) (by omega)
  obtain ⟨y, hy, h8, h0, h1⟩ : ∃ y, r = .inl y ∧ y = sx_I u (b + 0) 8 ∧ _ ∧ r3 = _ := by
    rcases hX3 with ⟨⟨E, hE⟩, -⟩ | q
    · exact absurd ((hu.2 E hE).1.symm.trans h20) (by decide)
    · exact q
  have hv := (hu.1 y hy).2
  have hjv : sx_J _ (b + 431) 0 = y.toInt64 := (hU3.2.1.2.2.2.2.2.2 (b + 431) (fun q => by have := q.2; omega) 0).trans (by rw [hv]; exact ux_eq)
  have hi8 : sx_I u2 (b + 0) 8 = sx_I u (b + 0) 8 := (congrArg (fun z => sx_I z (b + 0) 8) hv).trans rfl
  have hyr : y = r4 := by
    rw [e4, h1, h8]
    exact hi8.symm.trans (J2.2.2.2.2.1.trans hU3.2.2.symm)
  refine z_aload_n B dL_law_617 rfl 3 rfl ?_
  refine z_iconst (v := 0) B dL_law_618 (by decide) ?_
  refine z_lald (j := 0) B J3.2.2.2.2.2.1 (by decide) (in_of J3.2.2.2.2.2.2.1 (vp_in_iff.mpr ⟨by decide, by decide⟩)) hjv dL_law_619 ?_
  refine z_iload B dL_law_620 0 rfl ?_
  refine z_i2l (v := y.toInt64) B dL_law_622 (by rw [hyr]) ?_
  refine z_lcmp (v := 0) B dL_law_623 lgc_self ?_
  refine z_if_eq (tgt := 629) B dL_law_624 (by decide) (fun _ => ?_) (fun h => absurd rfl h)
  refine z_goto (tgt := 955) B dL_law_629 (by decide) ?_
  refine z_sub _ [2, 3, 4, 5, 6] rfl ?_
  exact kk _ _ _ J3 (by omega) (by omega)
set_option maxRecDepth 100000 in
set_option maxHeartbeats 4000000 in
theorem cs_12 {n0 : Nat} {p : Program} {l : Launch} {e : Env} {s : State} {m : MethodId} {args : Array Value} {below : List Frame} {meth : Method} {c : Code} {g : gx_T} {Q : State → Prop} {σ : sx_T} {b bS L q cells slots : Nat} {xs : Nat → Int32} {x : Int32} {C S : Int} (hn : 1000001 ≤ n0) (hlt : l.stackTraces = false) (B : zx_B p s m args meth c code RL 8 g) (hX : va_X bS L xs s s.heap) (hbl : bS < s.heap.size) (hbA : ¬ gx_b g ≤ bS) (hA : AJ x q L) (hJ : JD g b 0 σ) (hc : (cells : Int) ≤ C + PC b σ) (hs : (slots : Int) ≤ S + PS b σ) (hC : C ≤ 2000) (hS : S ≤ 200000) (kk : ∀ (σ' : sx_T) (cells' slots' : Nat), JD g b 0 σ' → (cells' : Int) ≤ C + 1 + PC b σ' → (slots' : Int) ≤ S + 6 + PS b σ' → zx p l e room_1 s m args below meth c g 8 cells' slots' Q σ' 955 [(4, .int x), (3, .ref (b + 431)), (2, .ref (b + 405)), (1, .ref (b + 0)), (0, .ref bS)] []) : zx p l e room_1 s m args below meth c g 8 cells slots Q σ 632 [(4, .int x), (3, .ref (b + 431)), (2, .ref (b + 405)), (1, .ref (b + 0)), (0, .ref bS)] [] := by
  have hkL : sx_K σ (b + 0) = 10 := hJ.1.kL
  have hko := hJ.2.2.2.2.2.1
  have hno := hJ.2.2.2.2.2.2.1
  have hT := hJ.2.2.2.1
  have bσ := pb hJ
  obtain ⟨⟨a1, v1⟩, ⟨a2, v2⟩, ⟨a3, v3⟩, ⟨a4, v4⟩, ⟨a5, v5⟩⟩ := hA
  refine z_aload_n B dL_law_632 rfl 3 rfl ?_
  have hr : f_X8_workflows σ (b + 0) = some (sx_I σ (b + 0) 7) := rfl
  have ct := ct_X8_workflows l hr hT hkL
  refine z_cVi (As := []) (rest := []) B cw_L_124 cx_9 dL_law_633 ct.2 hkL rfl ⟨Nat.le_of_ble_eq_true rfl, Nat.le_of_ble_eq_true rfl⟩ rfl (Nat.le_of_ble_eq_true rfl) ⟨(by show _ ≤ 601024; omega), (by show _ ≤ 7293034; omega)⟩ (fun r2 u2 hu => ?_)
  obtain ⟨e2, hu⟩ := hu
  subst hu
  have J2 := hJ
  refine z_pop B dL_law_636 rfl ?_
  refine z_aload_n B dL_law_637 rfl 2 rfl ?_
  have hmm := ok_workflowsM J2.2.1
  obtain ⟨⟨r3, u3⟩, hr3, hU3⟩ := hmm
  have hU3 : MU (b + 405) _ u3 := hU3
  have ct3 := ct_X9_workflows l hr3 J2.2.2.2.1 J2.2.2.1.1
  obtain ⟨J3, p3, s3, z3, y3⟩ := jd_mu J2 hU3 ct3.1.1
  have b3 := pb J3
  refine z_cVi (As := []) (rest := []) B cw_L_127 cx_10 dL_law_638 ct3.2 J2.2.2.1.1 rfl ⟨Nat.le_of_ble_eq_true rfl, Nat.le_of_ble_eq_true rfl⟩ rfl (Nat.le_of_ble_eq_true rfl) ⟨(by show _ ≤ 601024; omega), (by show _ ≤ 7293034; omega)⟩ (fun r4 u4 hu4 => ?_)
  obtain ⟨-, hu4⟩ := hu4
  subst hu4
  refine z_pop B dL_law_641 rfl ?_
  refine z_goto (tgt := 955) B dL_law_642 (by decide) ?_
  exact kk _ _ _ J3 (by omega) (by omega)
set_option maxRecDepth 100000 in
set_option maxHeartbeats 4000000 in
theorem cs_13 {n0 : Nat} {p : Program} {l : Launch} {e : Env} {s : State} {m : MethodId} {args : Array Value} {below : List Frame} {meth : Method} {c : Code} {g : gx_T} {Q : State → Prop} {σ : sx_T} {b bS L q cells slots : Nat} {xs : Nat → Int32} {x : Int32} {C S : Int} (hn : 1000001 ≤ n0) (hlt : l.stackTraces = false) (B : zx_B p s m args meth c code RL 8 g) (hX : va_X bS L xs s s.heap) (hbl : bS < s.heap.size) (hbA : ¬ gx_b g ≤ bS) (hA : AJ x q L) (hJ : JD g b 0 σ) (hc : (cells : Int) ≤ C + PC b σ) (hs : (slots : Int) ≤ S + PS b σ) (hC : C ≤ 2000) (hS : S ≤ 200000) (kk : ∀ (σ' : sx_T) (cells' slots' : Nat), JD g b 0 σ' → (cells' : Int) ≤ C + 1 + PC b σ' → (slots' : Int) ≤ S + 6 + PS b σ' → zx p l e room_1 s m args below meth c g 8 cells' slots' Q σ' 955 [(4, .int x), (3, .ref (b + 431)), (2, .ref (b + 405)), (1, .ref (b + 0)), (0, .ref bS)] []) : zx p l e room_1 s m args below meth c g 8 cells slots Q σ 645 [(4, .int x), (3, .ref (b + 431)), (2, .ref (b + 405)), (1, .ref (b + 0)), (0, .ref bS)] [] := by
  have hkL : sx_K σ (b + 0) = 10 := hJ.1.kL
  have hko := hJ.2.2.2.2.2.1
  have hno := hJ.2.2.2.2.2.2.1
  have hT := hJ.2.2.2.1
  have bσ := pb hJ
  obtain ⟨⟨a1, v1⟩, ⟨a2, v2⟩, ⟨a3, v3⟩, ⟨a4, v4⟩, ⟨a5, v5⟩⟩ := hA
  refine z_aload_n B dL_law_645 rfl 3 rfl ?_
  refine z_aload_n B dL_law_646 rfl 4 rfl ?_
  refine z_iload B dL_law_647 0 rfl ?_
  refine z_iconst (v := 1) B dL_law_649 (by decide) ?_
  refine z_iadd B dL_law_650 ?_
  refine z_sld (j := q + 1) (x := xs (q + 1)) B hX hbl hbA a1 v1 rfl dL_law_651 ?_
  refine z_aload_n B dL_law_652 rfl 1 rfl ?_
  have hcl : Ok (f_X8_state σ (b + 0) (xs (q + 1))) (fun r => UP (cS b) 0 σ r.2) := ok_state (c := cS b) hJ.1
  obtain ⟨⟨r, u⟩, hr, hU⟩ := hcl
  have hU : UP (cS b) 0 σ u := hU
  obtain ⟨hG, hM⟩ := wr_state l hlt hr hT hkL hko hno
  obtain ⟨J1, z1, s1⟩ := jd_up hJ hU hG
  have bu := pb J1
  refine z_cSWi (As := [.ref (b + 0), .int (xs (q + 1)), .ref (b + 431)]) (rest := []) B cw_L_128 dL_law_653 hM rfl ⟨Nat.le_of_ble_eq_true rfl, Nat.le_of_ble_eq_true rfl⟩ rfl (Nat.le_of_ble_eq_true rfl) ⟨(by show _ ≤ 601024; omega), (by show _ ≤ 7293034; omega)⟩ (fun r2 u2 hu => ?_)
  obtain ⟨J2, p2, s2⟩ := wq_j J1 hu
  refine z_istore (lv' := [(5, .int r2), (4, .int x), (3, .ref (b + 431)), (2, .ref (b + 405)), (1, .ref (b + 0)), (0, .ref bS)]) B dL_law_656 (by decide) rfl ?_
  refine z_aload_n B dL_law_658 rfl 3 rfl ?_
  refine z_aload_n B dL_law_659 rfl 5 rfl ?_
  refine z_iload B dL_law_660 1 rfl ?_
  refine z_iconst (v := 1) B dL_law_662 (by decide) ?_
  refine z_iadd B dL_law_663 ?_
  refine z_sld (j := q + 1) (x := xs (q + 1)) B hX hbl hbA a1 v1 rfl dL_law_664 ?_
  have hmm := ok_stateM (x1 := (xs (q + 1))) hn J2.2.1
  obtain ⟨⟨r3, u3⟩, hr3, hU3⟩ := hmm
  have hU3 : MU (b + 405) _ u3 := hU3
  have ct3 := ct_X9_state l hr3 J2.2.2.2.1 J2.2.2.1.1
  obtain ⟨J3, p3, s3, z3, y3⟩ := jd_mu J2 hU3 ct3.1.1
  have b3 := pb J3
  refine z_cVi (As := [.int (xs (q + 1))]) (rest := []) B cw_L_130 cx_10 dL_law_665 ct3.2 J2.2.2.1.1 rfl ⟨Nat.le_of_ble_eq_true rfl, Nat.le_of_ble_eq_true rfl⟩ rfl (Nat.le_of_ble_eq_true rfl) ⟨(by show _ ≤ 601024; omega), (by show _ ≤ 7293034; omega)⟩ (fun r4 u4 hu4 => ?_)
  obtain ⟨-, hu4⟩ := hu4
  subst hu4
  refine z_istore (lv' := [(6, .int r4), (5, .int r2), (4, .int x), (3, .ref (b + 431)), (2, .ref (b + 405)), (1, .ref (b + 0)), (0, .ref bS)]) B dL_law_668 (by decide) rfl ?_
  refine z_goto (tgt := 955) B dL_law_670 (by decide) ?_
  refine z_sub _ [2, 3, 4, 5, 6] rfl ?_
  exact kk _ _ _ J3 (by omega) (by omega)
set_option maxRecDepth 100000 in
set_option maxHeartbeats 4000000 in
theorem cs_14 {n0 : Nat} {p : Program} {l : Launch} {e : Env} {s : State} {m : MethodId} {args : Array Value} {below : List Frame} {meth : Method} {c : Code} {g : gx_T} {Q : State → Prop} {σ : sx_T} {b bS L q cells slots : Nat} {xs : Nat → Int32} {x : Int32} {C S : Int} (hn : 1000001 ≤ n0) (hlt : l.stackTraces = false) (B : zx_B p s m args meth c code RL 8 g) (hX : va_X bS L xs s s.heap) (hbl : bS < s.heap.size) (hbA : ¬ gx_b g ≤ bS) (hA : AJ x q L) (hJ : JD g b 0 σ) (hc : (cells : Int) ≤ C + PC b σ) (hs : (slots : Int) ≤ S + PS b σ) (hC : C ≤ 2000) (hS : S ≤ 200000) (kk : ∀ (σ' : sx_T) (cells' slots' : Nat), JD g b 0 σ' → (cells' : Int) ≤ C + 1 + PC b σ' → (slots' : Int) ≤ S + 6 + PS b σ' → zx p l e room_1 s m args below meth c g 8 cells' slots' Q σ' 955 [(4, .int x), (3, .ref (b + 431)), (2, .ref (b + 405)), (1, .ref (b + 0)), (0, .ref bS)] []) : zx p l e room_1 s m args below meth c g 8 cells slots Q σ 673 [(4, .int x), (3, .ref (b + 431)), (2, .ref (b + 405)), (1, .ref (b + 0)), (0, .ref bS)] [] := by
  have hkL : sx_K σ (b + 0) = 10 := hJ.1.kL
  have hko := hJ.2.2.2.2.2.1
  have hno := hJ.2.2.2.2.2.2.1
  have hT := hJ.2.2.2.1
  have bσ := pb hJ
  obtain ⟨⟨a1, v1⟩, ⟨a2, v2⟩, ⟨a3, v3⟩, ⟨a4, v4⟩, ⟨a5, v5⟩⟩ := hA
  refine z_aload_n B dL_law_673 rfl 3 rfl ?_
  refine z_aload_n B dL_law_674 rfl 4 rfl ?_
  refine z_iload B dL_law_675 0 rfl ?_
  refine z_iconst (v := 1) B dL_law_677 (by decide) ?_
  refine z_iadd B dL_law_678 ?_
  refine z_sld (j := q + 1) (x := xs (q + 1)) B hX hbl hbA a1 v1 rfl dL_law_679 ?_
  refine z_aload_n B dL_law_680 rfl 4 rfl ?_
  refine z_iload B dL_law_681 0 rfl ?_
  refine z_iconst (v := 2) B dL_law_683 (by decide) ?_
  refine z_iadd B dL_law_684 ?_
  refine z_sld (j := q + 2) (x := xs (q + 2)) B hX hbl hbA a2 v2 rfl dL_law_685 ?_
  refine z_aload_n B dL_law_686 rfl 1 rfl ?_
  have hcl : Ok (f_X8_about n0 σ (b + 0) (xs (q + 1)) (xs (q + 2))) (fun r => UP (cS b) 0 σ r.2) := ok_about (c := cS b) hn hJ.1
  obtain ⟨⟨r, u⟩, hr, hU⟩ := hcl
  have hU : UP (cS b) 0 σ u := hU
  obtain ⟨hG, hM⟩ := wr_about l hlt hr hT hkL hko hno
  obtain ⟨J1, z1, s1⟩ := jd_up hJ hU hG
  have bu := pb J1
  refine z_cSWi (As := [.ref (b + 0), .int (xs (q + 1)), .int (xs (q + 2)), .ref (b + 431)]) (rest := []) B cw_L_131 dL_law_687 hM rfl ⟨Nat.le_of_ble_eq_true rfl, Nat.le_of_ble_eq_true rfl⟩ rfl (Nat.le_of_ble_eq_true rfl) ⟨(by show _ ≤ 601024; omega), (by show _ ≤ 7293034; omega)⟩ (fun r2 u2 hu => ?_)
  obtain ⟨J2, p2, s2⟩ := wq_j J1 hu
  refine z_istore (lv' := [(5, .int r2), (4, .int x), (3, .ref (b + 431)), (2, .ref (b + 405)), (1, .ref (b + 0)), (0, .ref bS)]) B dL_law_690 (by decide) rfl ?_
  refine z_aload_n B dL_law_692 rfl 3 rfl ?_
  refine z_aload_n B dL_law_693 rfl 5 rfl ?_
  refine z_iload B dL_law_694 1 rfl ?_
  refine z_iconst (v := 1) B dL_law_696 (by decide) ?_
  refine z_iadd B dL_law_697 ?_
  refine z_sld (j := q + 1) (x := xs (q + 1)) B hX hbl hbA a1 v1 rfl dL_law_698 ?_
  refine z_aload_n B dL_law_699 rfl 5 rfl ?_
  refine z_iload B dL_law_700 1 rfl ?_
  refine z_iconst (v := 2) B dL_law_702 (by decide) ?_
  refine z_iadd B dL_law_703 ?_
  refine z_sld (j := q + 2) (x := xs (q + 2)) B hX hbl hbA a2 v2 rfl dL_law_704 ?_
  have hmm := ok_aboutM (x1 := (xs (q + 1))) (x2 := (xs (q + 2))) hn J2.2.1
  obtain ⟨⟨r3, u3⟩, hr3, hU3⟩ := hmm
  have hU3 : MU (b + 405) _ u3 := hU3
  have ct3 := ct_X9_about l hr3 J2.2.2.2.1 J2.2.2.1.1
  obtain ⟨J3, p3, s3, z3, y3⟩ := jd_mu J2 hU3 ct3.1.1
  have b3 := pb J3
  refine z_cVi (As := [.int (xs (q + 1)), .int (xs (q + 2))]) (rest := []) B cw_L_133 cx_10 dL_law_705 ct3.2 J2.2.2.1.1 rfl ⟨Nat.le_of_ble_eq_true rfl, Nat.le_of_ble_eq_true rfl⟩ rfl (Nat.le_of_ble_eq_true rfl) ⟨(by show _ ≤ 601024; omega), (by show _ ≤ 7293034; omega)⟩ (fun r4 u4 hu4 => ?_)
  obtain ⟨-, hu4⟩ := hu4
  subst hu4
  refine z_istore (lv' := [(6, .int r4), (5, .int r2), (4, .int x), (3, .ref (b + 431)), (2, .ref (b + 405)), (1, .ref (b + 0)), (0, .ref bS)]) B dL_law_708 (by decide) rfl ?_
  refine z_goto (tgt := 955) B dL_law_710 (by decide) ?_
  refine z_sub _ [2, 3, 4, 5, 6] rfl ?_
  exact kk _ _ _ J3 (by omega) (by omega)
set_option maxRecDepth 100000 in
set_option maxHeartbeats 4000000 in
theorem cs_15 {n0 : Nat} {p : Program} {l : Launch} {e : Env} {s : State} {m : MethodId} {args : Array Value} {below : List Frame} {meth : Method} {c : Code} {g : gx_T} {Q : State → Prop} {σ : sx_T} {b bS L q cells slots : Nat} {xs : Nat → Int32} {x : Int32} {C S : Int} (hn : 1000001 ≤ n0) (hlt : l.stackTraces = false) (B : zx_B p s m args meth c code RL 8 g) (hX : va_X bS L xs s s.heap) (hbl : bS < s.heap.size) (hbA : ¬ gx_b g ≤ bS) (hA : AJ x q L) (hJ : JD g b 0 σ) (hc : (cells : Int) ≤ C + PC b σ) (hs : (slots : Int) ≤ S + PS b σ) (hC : C ≤ 2000) (hS : S ≤ 200000) (kk : ∀ (σ' : sx_T) (cells' slots' : Nat), JD g b 0 σ' → (cells' : Int) ≤ C + 1 + PC b σ' → (slots' : Int) ≤ S + 6 + PS b σ' → zx p l e room_1 s m args below meth c g 8 cells' slots' Q σ' 955 [(4, .int x), (3, .ref (b + 431)), (2, .ref (b + 405)), (1, .ref (b + 0)), (0, .ref bS)] []) : zx p l e room_1 s m args below meth c g 8 cells slots Q σ 713 [(4, .int x), (3, .ref (b + 431)), (2, .ref (b + 405)), (1, .ref (b + 0)), (0, .ref bS)] [] := by
  have hkL : sx_K σ (b + 0) = 10 := hJ.1.kL
  have hko := hJ.2.2.2.2.2.1
  have hno := hJ.2.2.2.2.2.2.1
  have hT := hJ.2.2.2.1
  have bσ := pb hJ
  obtain ⟨⟨a1, v1⟩, ⟨a2, v2⟩, ⟨a3, v3⟩, ⟨a4, v4⟩, ⟨a5, v5⟩⟩ := hA
  refine z_aload_n B dL_law_713 rfl 3 rfl ?_
  refine z_aload_n B dL_law_714 rfl 4 rfl ?_
  refine z_iload B dL_law_715 0 rfl ?_
  refine z_iconst (v := 1) B dL_law_717 (by decide) ?_
  refine z_iadd B dL_law_718 ?_
  refine z_sld (j := q + 1) (x := xs (q + 1)) B hX hbl hbA a1 v1 rfl dL_law_719 ?_
  refine z_aload_n B dL_law_720 rfl 4 rfl ?_
  refine z_iload B dL_law_721 0 rfl ?_
  refine z_iconst (v := 2) B dL_law_723 (by decide) ?_
  refine z_iadd B dL_law_724 ?_
  refine z_sld (j := q + 2) (x := xs (q + 2)) B hX hbl hbA a2 v2 rfl dL_law_725 ?_
  refine z_aload_n B dL_law_726 rfl 1 rfl ?_
  have hcl : Ok (f_X8_aboutAnew n0 σ (b + 0) (xs (q + 1)) (xs (q + 2))) (fun r => UP (cS b) 0 σ r.2) := ok_aboutAnew (c := cS b) hn hJ.1
  obtain ⟨⟨r, u⟩, hr, hU⟩ := hcl
  have hU : UP (cS b) 0 σ u := hU
  obtain ⟨hG, hM⟩ := wr_aboutAnew l hlt hr hT hkL hko hno
  obtain ⟨J1, z1, s1⟩ := jd_up hJ hU hG
  have bu := pb J1
  refine z_cSWi (As := [.ref (b + 0), .int (xs (q + 1)), .int (xs (q + 2)), .ref (b + 431)]) (rest := []) B cw_L_134 dL_law_727 hM rfl ⟨Nat.le_of_ble_eq_true rfl, Nat.le_of_ble_eq_true rfl⟩ rfl (Nat.le_of_ble_eq_true rfl) ⟨(by show _ ≤ 601024; omega), (by show _ ≤ 7293034; omega)⟩ (fun r2 u2 hu => ?_)
  obtain ⟨J2, p2, s2⟩ := wq_j J1 hu
  refine z_istore (lv' := [(5, .int r2), (4, .int x), (3, .ref (b + 431)), (2, .ref (b + 405)), (1, .ref (b + 0)), (0, .ref bS)]) B dL_law_730 (by decide) rfl ?_
  refine z_aload_n B dL_law_732 rfl 3 rfl ?_
  refine z_aload_n B dL_law_733 rfl 5 rfl ?_
  refine z_iload B dL_law_734 1 rfl ?_
  refine z_iconst (v := 1) B dL_law_736 (by decide) ?_
  refine z_iadd B dL_law_737 ?_
  refine z_sld (j := q + 1) (x := xs (q + 1)) B hX hbl hbA a1 v1 rfl dL_law_738 ?_
  refine z_aload_n B dL_law_739 rfl 5 rfl ?_
  refine z_iload B dL_law_740 1 rfl ?_
  refine z_iconst (v := 2) B dL_law_742 (by decide) ?_
  refine z_iadd B dL_law_743 ?_
  refine z_sld (j := q + 2) (x := xs (q + 2)) B hX hbl hbA a2 v2 rfl dL_law_744 ?_
  have hmm := ok_aboutAnewM (x1 := (xs (q + 1))) (x2 := (xs (q + 2))) hn J2.2.1
  obtain ⟨⟨r3, u3⟩, hr3, hU3⟩ := hmm
  have hU3 : MU (b + 405) _ u3 := hU3
  have ct3 := ct_X9_aboutAnew l hr3 J2.2.2.2.1 J2.2.2.1.1
  obtain ⟨J3, p3, s3, z3, y3⟩ := jd_mu J2 hU3 ct3.1.1
  have b3 := pb J3
  refine z_cVi (As := [.int (xs (q + 1)), .int (xs (q + 2))]) (rest := []) B cw_L_136 cx_10 dL_law_745 ct3.2 J2.2.2.1.1 rfl ⟨Nat.le_of_ble_eq_true rfl, Nat.le_of_ble_eq_true rfl⟩ rfl (Nat.le_of_ble_eq_true rfl) ⟨(by show _ ≤ 601024; omega), (by show _ ≤ 7293034; omega)⟩ (fun r4 u4 hu4 => ?_)
  obtain ⟨-, hu4⟩ := hu4
  subst hu4
  refine z_istore (lv' := [(6, .int r4), (5, .int r2), (4, .int x), (3, .ref (b + 431)), (2, .ref (b + 405)), (1, .ref (b + 0)), (0, .ref bS)]) B dL_law_748 (by decide) rfl ?_
  refine z_goto (tgt := 955) B dL_law_750 (by decide) ?_
  refine z_sub _ [2, 3, 4, 5, 6] rfl ?_
  exact kk _ _ _ J3 (by omega) (by omega)
set_option maxRecDepth 100000 in
set_option maxHeartbeats 4000000 in
theorem cs_16 {n0 : Nat} {p : Program} {l : Launch} {e : Env} {s : State} {m : MethodId} {args : Array Value} {below : List Frame} {meth : Method} {c : Code} {g : gx_T} {Q : State → Prop} {σ : sx_T} {b bS L q cells slots : Nat} {xs : Nat → Int32} {x : Int32} {C S : Int} (hn : 1000001 ≤ n0) (hlt : l.stackTraces = false) (B : zx_B p s m args meth c code RL 8 g) (hX : va_X bS L xs s s.heap) (hbl : bS < s.heap.size) (hbA : ¬ gx_b g ≤ bS) (hA : AJ x q L) (hJ : JD g b 0 σ) (hc : (cells : Int) ≤ C + PC b σ) (hs : (slots : Int) ≤ S + PS b σ) (hC : C ≤ 2000) (hS : S ≤ 200000) (kk : ∀ (σ' : sx_T) (cells' slots' : Nat), JD g b 0 σ' → (cells' : Int) ≤ C + 1 + PC b σ' → (slots' : Int) ≤ S + 6 + PS b σ' → zx p l e room_1 s m args below meth c g 8 cells' slots' Q σ' 955 [(4, .int x), (3, .ref (b + 431)), (2, .ref (b + 405)), (1, .ref (b + 0)), (0, .ref bS)] []) : zx p l e room_1 s m args below meth c g 8 cells slots Q σ 753 [(4, .int x), (3, .ref (b + 431)), (2, .ref (b + 405)), (1, .ref (b + 0)), (0, .ref bS)] [] := by
  have hkL : sx_K σ (b + 0) = 10 := hJ.1.kL
  have hko := hJ.2.2.2.2.2.1
  have hno := hJ.2.2.2.2.2.2.1
  have hT := hJ.2.2.2.1
  have bσ := pb hJ
  obtain ⟨⟨a1, v1⟩, ⟨a2, v2⟩, ⟨a3, v3⟩, ⟨a4, v4⟩, ⟨a5, v5⟩⟩ := hA
  refine z_aload_n B dL_law_753 rfl 3 rfl ?_
  refine z_aload_n B dL_law_754 rfl 4 rfl ?_
  refine z_iload B dL_law_755 0 rfl ?_
  refine z_iconst (v := 1) B dL_law_757 (by decide) ?_
  refine z_iadd B dL_law_758 ?_
  refine z_sld (j := q + 1) (x := xs (q + 1)) B hX hbl hbA a1 v1 rfl dL_law_759 ?_
  refine z_aload_n B dL_law_760 rfl 1 rfl ?_
  have hcl : Ok (f_X8_parent σ (b + 0) (xs (q + 1))) (fun r => UP (cS b) 0 σ r.2) := ok_parent (c := cS b) hJ.1
  obtain ⟨⟨r, u⟩, hr, hU⟩ := hcl
  have hU : UP (cS b) 0 σ u := hU
  obtain ⟨hG, hM⟩ := wr_parent l hlt hr hT hkL hko hno
  obtain ⟨J1, z1, s1⟩ := jd_up hJ hU hG
  have bu := pb J1
  refine z_cSWi (As := [.ref (b + 0), .int (xs (q + 1)), .ref (b + 431)]) (rest := []) B cw_L_137 dL_law_761 hM rfl ⟨Nat.le_of_ble_eq_true rfl, Nat.le_of_ble_eq_true rfl⟩ rfl (Nat.le_of_ble_eq_true rfl) ⟨(by show _ ≤ 601024; omega), (by show _ ≤ 7293034; omega)⟩ (fun r2 u2 hu => ?_)
  obtain ⟨J2, p2, s2⟩ := wq_j J1 hu
  refine z_istore (lv' := [(5, .int r2), (4, .int x), (3, .ref (b + 431)), (2, .ref (b + 405)), (1, .ref (b + 0)), (0, .ref bS)]) B dL_law_764 (by decide) rfl ?_
  refine z_aload_n B dL_law_766 rfl 3 rfl ?_
  refine z_aload_n B dL_law_767 rfl 5 rfl ?_
  refine z_iload B dL_law_768 1 rfl ?_
  refine z_iconst (v := 1) B dL_law_770 (by decide) ?_
  refine z_iadd B dL_law_771 ?_
  refine z_sld (j := q + 1) (x := xs (q + 1)) B hX hbl hbA a1 v1 rfl dL_law_772 ?_
  have hmm := ok_parentM (x1 := (xs (q + 1))) J2.2.1
  obtain ⟨⟨r3, u3⟩, hr3, hU3⟩ := hmm
  have hU3 : MU (b + 405) _ u3 := hU3
  have ct3 := ct_X9_parent l hr3 J2.2.2.2.1 J2.2.2.1.1
  obtain ⟨J3, p3, s3, z3, y3⟩ := jd_mu J2 hU3 ct3.1.1
  have b3 := pb J3
  refine z_cVi (As := [.int (xs (q + 1))]) (rest := []) B cw_L_139 cx_10 dL_law_773 ct3.2 J2.2.2.1.1 rfl ⟨Nat.le_of_ble_eq_true rfl, Nat.le_of_ble_eq_true rfl⟩ rfl (Nat.le_of_ble_eq_true rfl) ⟨(by show _ ≤ 601024; omega), (by show _ ≤ 7293034; omega)⟩ (fun r4 u4 hu4 => ?_)
  obtain ⟨-, hu4⟩ := hu4
  subst hu4
  refine z_istore (lv' := [(6, .int r4), (5, .int r2), (4, .int x), (3, .ref (b + 431)), (2, .ref (b + 405)), (1, .ref (b + 0)), (0, .ref bS)]) B dL_law_776 (by decide) rfl ?_
  refine z_goto (tgt := 955) B dL_law_778 (by decide) ?_
  refine z_sub _ [2, 3, 4, 5, 6] rfl ?_
  exact kk _ _ _ J3 (by omega) (by omega)
set_option maxRecDepth 100000 in
set_option maxHeartbeats 4000000 in
theorem cs_17 {n0 : Nat} {p : Program} {l : Launch} {e : Env} {s : State} {m : MethodId} {args : Array Value} {below : List Frame} {meth : Method} {c : Code} {g : gx_T} {Q : State → Prop} {σ : sx_T} {b bS L q cells slots : Nat} {xs : Nat → Int32} {x : Int32} {C S : Int} (hn : 1000001 ≤ n0) (hlt : l.stackTraces = false) (B : zx_B p s m args meth c code RL 8 g) (hX : va_X bS L xs s s.heap) (hbl : bS < s.heap.size) (hbA : ¬ gx_b g ≤ bS) (hA : AJ x q L) (hJ : JD g b 0 σ) (hc : (cells : Int) ≤ C + PC b σ) (hs : (slots : Int) ≤ S + PS b σ) (hC : C ≤ 2000) (hS : S ≤ 200000) (kk : ∀ (σ' : sx_T) (cells' slots' : Nat), JD g b 0 σ' → (cells' : Int) ≤ C + 1 + PC b σ' → (slots' : Int) ≤ S + 6 + PS b σ' → zx p l e room_1 s m args below meth c g 8 cells' slots' Q σ' 955 [(4, .int x), (3, .ref (b + 431)), (2, .ref (b + 405)), (1, .ref (b + 0)), (0, .ref bS)] []) : zx p l e room_1 s m args below meth c g 8 cells slots Q σ 781 [(4, .int x), (3, .ref (b + 431)), (2, .ref (b + 405)), (1, .ref (b + 0)), (0, .ref bS)] [] := by
  have hkL : sx_K σ (b + 0) = 10 := hJ.1.kL
  have hko := hJ.2.2.2.2.2.1
  have hno := hJ.2.2.2.2.2.2.1
  have hT := hJ.2.2.2.1
  have bσ := pb hJ
  obtain ⟨⟨a1, v1⟩, ⟨a2, v2⟩, ⟨a3, v3⟩, ⟨a4, v4⟩, ⟨a5, v5⟩⟩ := hA
  refine z_aload_n B dL_law_781 rfl 3 rfl ?_
  refine z_aload_n B dL_law_782 rfl 4 rfl ?_
  refine z_iload B dL_law_783 0 rfl ?_
  refine z_iconst (v := 1) B dL_law_785 (by decide) ?_
  refine z_iadd B dL_law_786 ?_
  refine z_sld (j := q + 1) (x := xs (q + 1)) B hX hbl hbA a1 v1 rfl dL_law_787 ?_
  refine z_aload_n B dL_law_788 rfl 1 rfl ?_
  have hcl : Ok (f_X8_events σ (b + 0) (xs (q + 1))) (fun r => UP (cS b) 0 σ r.2) := ok_events (c := cS b) hJ.1
  obtain ⟨⟨r, u⟩, hr, hU⟩ := hcl
  have hU : UP (cS b) 0 σ u := hU
  obtain ⟨hG, hM⟩ := wr_events l hlt hr hT hkL hko hno
  obtain ⟨J1, z1, s1⟩ := jd_up hJ hU hG
  have bu := pb J1
  refine z_cSWi (As := [.ref (b + 0), .int (xs (q + 1)), .ref (b + 431)]) (rest := []) B cw_L_140 dL_law_789 hM rfl ⟨Nat.le_of_ble_eq_true rfl, Nat.le_of_ble_eq_true rfl⟩ rfl (Nat.le_of_ble_eq_true rfl) ⟨(by show _ ≤ 601024; omega), (by show _ ≤ 7293034; omega)⟩ (fun r2 u2 hu => ?_)
  obtain ⟨J2, p2, s2⟩ := wq_j J1 hu
  refine z_istore (lv' := [(5, .int r2), (4, .int x), (3, .ref (b + 431)), (2, .ref (b + 405)), (1, .ref (b + 0)), (0, .ref bS)]) B dL_law_792 (by decide) rfl ?_
  refine z_aload_n B dL_law_794 rfl 3 rfl ?_
  refine z_aload_n B dL_law_795 rfl 5 rfl ?_
  refine z_iload B dL_law_796 1 rfl ?_
  refine z_iconst (v := 1) B dL_law_798 (by decide) ?_
  refine z_iadd B dL_law_799 ?_
  refine z_sld (j := q + 1) (x := xs (q + 1)) B hX hbl hbA a1 v1 rfl dL_law_800 ?_
  have hmm := ok_eventsM (x1 := (xs (q + 1))) J2.2.1
  obtain ⟨⟨r3, u3⟩, hr3, hU3⟩ := hmm
  have hU3 : MU (b + 405) _ u3 := hU3
  have ct3 := ct_X9_events l hr3 J2.2.2.2.1 J2.2.2.1.1
  obtain ⟨J3, p3, s3, z3, y3⟩ := jd_mu J2 hU3 ct3.1.1
  have b3 := pb J3
  refine z_cVi (As := [.int (xs (q + 1))]) (rest := []) B cw_L_142 cx_10 dL_law_801 ct3.2 J2.2.2.1.1 rfl ⟨Nat.le_of_ble_eq_true rfl, Nat.le_of_ble_eq_true rfl⟩ rfl (Nat.le_of_ble_eq_true rfl) ⟨(by show _ ≤ 601024; omega), (by show _ ≤ 7293034; omega)⟩ (fun r4 u4 hu4 => ?_)
  obtain ⟨-, hu4⟩ := hu4
  subst hu4
  refine z_istore (lv' := [(6, .int r4), (5, .int r2), (4, .int x), (3, .ref (b + 431)), (2, .ref (b + 405)), (1, .ref (b + 0)), (0, .ref bS)]) B dL_law_804 (by decide) rfl ?_
  refine z_goto (tgt := 955) B dL_law_806 (by decide) ?_
  refine z_sub _ [2, 3, 4, 5, 6] rfl ?_
  exact kk _ _ _ J3 (by omega) (by omega)
set_option maxRecDepth 100000 in
set_option maxHeartbeats 4000000 in
theorem cs_18 {n0 : Nat} {p : Program} {l : Launch} {e : Env} {s : State} {m : MethodId} {args : Array Value} {below : List Frame} {meth : Method} {c : Code} {g : gx_T} {Q : State → Prop} {σ : sx_T} {b bS L q cells slots : Nat} {xs : Nat → Int32} {x : Int32} {C S : Int} (hn : 1000001 ≤ n0) (hlt : l.stackTraces = false) (B : zx_B p s m args meth c code RL 8 g) (hX : va_X bS L xs s s.heap) (hbl : bS < s.heap.size) (hbA : ¬ gx_b g ≤ bS) (hA : AJ x q L) (hJ : JD g b 0 σ) (hc : (cells : Int) ≤ C + PC b σ) (hs : (slots : Int) ≤ S + PS b σ) (hC : C ≤ 2000) (hS : S ≤ 200000) (kk : ∀ (σ' : sx_T) (cells' slots' : Nat), JD g b 0 σ' → (cells' : Int) ≤ C + 1 + PC b σ' → (slots' : Int) ≤ S + 6 + PS b σ' → zx p l e room_1 s m args below meth c g 8 cells' slots' Q σ' 955 [(4, .int x), (3, .ref (b + 431)), (2, .ref (b + 405)), (1, .ref (b + 0)), (0, .ref bS)] []) : zx p l e room_1 s m args below meth c g 8 cells slots Q σ 809 [(4, .int x), (3, .ref (b + 431)), (2, .ref (b + 405)), (1, .ref (b + 0)), (0, .ref bS)] [] := by
  have hkL : sx_K σ (b + 0) = 10 := hJ.1.kL
  have hko := hJ.2.2.2.2.2.1
  have hno := hJ.2.2.2.2.2.2.1
  have hT := hJ.2.2.2.1
  have bσ := pb hJ
  obtain ⟨⟨a1, v1⟩, ⟨a2, v2⟩, ⟨a3, v3⟩, ⟨a4, v4⟩, ⟨a5, v5⟩⟩ := hA
  refine z_aload_n B dL_law_809 rfl 3 rfl ?_
  refine z_aload_n B dL_law_810 rfl 4 rfl ?_
  refine z_iload B dL_law_811 0 rfl ?_
  refine z_iconst (v := 1) B dL_law_813 (by decide) ?_
  refine z_iadd B dL_law_814 ?_
  refine z_sld (j := q + 1) (x := xs (q + 1)) B hX hbl hbA a1 v1 rfl dL_law_815 ?_
  refine z_aload_n B dL_law_816 rfl 4 rfl ?_
  refine z_iload B dL_law_817 0 rfl ?_
  refine z_iconst (v := 2) B dL_law_819 (by decide) ?_
  refine z_iadd B dL_law_820 ?_
  refine z_sld (j := q + 2) (x := xs (q + 2)) B hX hbl hbA a2 v2 rfl dL_law_821 ?_
  refine z_aload_n B dL_law_822 rfl 1 rfl ?_
  have hcl : Ok (f_X8_kind σ (b + 0) (xs (q + 1)) (xs (q + 2))) (fun r => UP (cS b) 0 σ r.2) := ok_kindX (c := cS b) hJ.1
  obtain ⟨⟨r, u⟩, hr, hU⟩ := hcl
  have hU : UP (cS b) 0 σ u := hU
  obtain ⟨hG, hM⟩ := wr_kind l hlt hr hT hkL hko hno
  obtain ⟨J1, z1, s1⟩ := jd_up hJ hU hG
  have bu := pb J1
  refine z_cSWi (As := [.ref (b + 0), .int (xs (q + 1)), .int (xs (q + 2)), .ref (b + 431)]) (rest := []) B cw_L_143 dL_law_823 hM rfl ⟨Nat.le_of_ble_eq_true rfl, Nat.le_of_ble_eq_true rfl⟩ rfl (Nat.le_of_ble_eq_true rfl) ⟨(by show _ ≤ 601024; omega), (by show _ ≤ 7293034; omega)⟩ (fun r2 u2 hu => ?_)
  obtain ⟨J2, p2, s2⟩ := wq_j J1 hu
  refine z_istore (lv' := [(5, .int r2), (4, .int x), (3, .ref (b + 431)), (2, .ref (b + 405)), (1, .ref (b + 0)), (0, .ref bS)]) B dL_law_826 (by decide) rfl ?_
  refine z_aload_n B dL_law_828 rfl 3 rfl ?_
  refine z_aload_n B dL_law_829 rfl 5 rfl ?_
  refine z_iload B dL_law_830 1 rfl ?_
  refine z_iconst (v := 1) B dL_law_832 (by decide) ?_
  refine z_iadd B dL_law_833 ?_
  refine z_sld (j := q + 1) (x := xs (q + 1)) B hX hbl hbA a1 v1 rfl dL_law_834 ?_
  refine z_aload_n B dL_law_835 rfl 5 rfl ?_
  refine z_iload B dL_law_836 1 rfl ?_
  refine z_iconst (v := 2) B dL_law_838 (by decide) ?_
  refine z_iadd B dL_law_839 ?_
  refine z_sld (j := q + 2) (x := xs (q + 2)) B hX hbl hbA a2 v2 rfl dL_law_840 ?_
  have hmm := ok_kindM (x1 := (xs (q + 1))) (x2 := (xs (q + 2))) J2.2.1
  obtain ⟨⟨r3, u3⟩, hr3, hU3⟩ := hmm
  have hU3 : MU (b + 405) _ u3 := hU3
  have ct3 := ct_X9_kind l hr3 J2.2.2.2.1 J2.2.2.1.1
  obtain ⟨J3, p3, s3, z3, y3⟩ := jd_mu J2 hU3 ct3.1.1
  have b3 := pb J3
  refine z_cVi (As := [.int (xs (q + 1)), .int (xs (q + 2))]) (rest := []) B cw_L_145 cx_10 dL_law_841 ct3.2 J2.2.2.1.1 rfl ⟨Nat.le_of_ble_eq_true rfl, Nat.le_of_ble_eq_true rfl⟩ rfl (Nat.le_of_ble_eq_true rfl) ⟨(by show _ ≤ 601024; omega), (by show _ ≤ 7293034; omega)⟩ (fun r4 u4 hu4 => ?_)
  obtain ⟨-, hu4⟩ := hu4
  subst hu4
  refine z_istore (lv' := [(6, .int r4), (5, .int r2), (4, .int x), (3, .ref (b + 431)), (2, .ref (b + 405)), (1, .ref (b + 0)), (0, .ref bS)]) B dL_law_844 (by decide) rfl ?_
  refine z_goto (tgt := 955) B dL_law_846 (by decide) ?_
  refine z_sub _ [2, 3, 4, 5, 6] rfl ?_
  exact kk _ _ _ J3 (by omega) (by omega)
set_option maxRecDepth 100000 in
set_option maxHeartbeats 4000000 in
theorem cs_19 {n0 : Nat} {p : Program} {l : Launch} {e : Env} {s : State} {m : MethodId} {args : Array Value} {below : List Frame} {meth : Method} {c : Code} {g : gx_T} {Q : State → Prop} {σ : sx_T} {b bS L q cells slots : Nat} {xs : Nat → Int32} {x : Int32} {C S : Int} (hn : 1000001 ≤ n0) (hlt : l.stackTraces = false) (B : zx_B p s m args meth c code RL 8 g) (hX : va_X bS L xs s s.heap) (hbl : bS < s.heap.size) (hbA : ¬ gx_b g ≤ bS) (hA : AJ x q L) (hJ : JD g b 0 σ) (hc : (cells : Int) ≤ C + PC b σ) (hs : (slots : Int) ≤ S + PS b σ) (hC : C ≤ 2000) (hS : S ≤ 200000) (kk : ∀ (σ' : sx_T) (cells' slots' : Nat), JD g b 0 σ' → (cells' : Int) ≤ C + 1 + PC b σ' → (slots' : Int) ≤ S + 6 + PS b σ' → zx p l e room_1 s m args below meth c g 8 cells' slots' Q σ' 955 [(4, .int x), (3, .ref (b + 431)), (2, .ref (b + 405)), (1, .ref (b + 0)), (0, .ref bS)] []) : zx p l e room_1 s m args below meth c g 8 cells slots Q σ 849 [(4, .int x), (3, .ref (b + 431)), (2, .ref (b + 405)), (1, .ref (b + 0)), (0, .ref bS)] [] := by
  have hkL : sx_K σ (b + 0) = 10 := hJ.1.kL
  have hko := hJ.2.2.2.2.2.1
  have hno := hJ.2.2.2.2.2.2.1
  have hT := hJ.2.2.2.1
  have bσ := pb hJ
  obtain ⟨⟨a1, v1⟩, ⟨a2, v2⟩, ⟨a3, v3⟩, ⟨a4, v4⟩, ⟨a5, v5⟩⟩ := hA
  refine z_aload_n B dL_law_849 rfl 3 rfl ?_
  refine z_aload_n B dL_law_850 rfl 4 rfl ?_
  refine z_iload B dL_law_851 0 rfl ?_
  refine z_iconst (v := 1) B dL_law_853 (by decide) ?_
  refine z_iadd B dL_law_854 ?_
  refine z_sld (j := q + 1) (x := xs (q + 1)) B hX hbl hbA a1 v1 rfl dL_law_855 ?_
  refine z_aload_n B dL_law_856 rfl 4 rfl ?_
  refine z_iload B dL_law_857 0 rfl ?_
  refine z_iconst (v := 2) B dL_law_859 (by decide) ?_
  refine z_iadd B dL_law_860 ?_
  refine z_sld (j := q + 2) (x := xs (q + 2)) B hX hbl hbA a2 v2 rfl dL_law_861 ?_
  refine z_aload_n B dL_law_862 rfl 1 rfl ?_
  have hcl : Ok (f_X8_number σ (b + 0) (xs (q + 1)) (xs (q + 2))) (fun r => UP (cS b) 0 σ r.2) := ok_numberX (c := cS b) hJ.1
  obtain ⟨⟨r, u⟩, hr, hU⟩ := hcl
  have hU : UP (cS b) 0 σ u := hU
  obtain ⟨hG, hM⟩ := wr_number l hlt hr hT hkL hko hno
  obtain ⟨J1, z1, s1⟩ := jd_up hJ hU hG
  have bu := pb J1
  refine z_cSWi (As := [.ref (b + 0), .int (xs (q + 1)), .int (xs (q + 2)), .ref (b + 431)]) (rest := []) B cw_L_146 dL_law_863 hM rfl ⟨Nat.le_of_ble_eq_true rfl, Nat.le_of_ble_eq_true rfl⟩ rfl (Nat.le_of_ble_eq_true rfl) ⟨(by show _ ≤ 601024; omega), (by show _ ≤ 7293034; omega)⟩ (fun r2 u2 hu => ?_)
  obtain ⟨J2, p2, s2⟩ := wq_j J1 hu
  refine z_istore (lv' := [(5, .int r2), (4, .int x), (3, .ref (b + 431)), (2, .ref (b + 405)), (1, .ref (b + 0)), (0, .ref bS)]) B dL_law_866 (by decide) rfl ?_
  refine z_aload_n B dL_law_868 rfl 3 rfl ?_
  refine z_aload_n B dL_law_869 rfl 5 rfl ?_
  refine z_iload B dL_law_870 1 rfl ?_
  refine z_iconst (v := 1) B dL_law_872 (by decide) ?_
  refine z_iadd B dL_law_873 ?_
  refine z_sld (j := q + 1) (x := xs (q + 1)) B hX hbl hbA a1 v1 rfl dL_law_874 ?_
  refine z_aload_n B dL_law_875 rfl 5 rfl ?_
  refine z_iload B dL_law_876 1 rfl ?_
  refine z_iconst (v := 2) B dL_law_878 (by decide) ?_
  refine z_iadd B dL_law_879 ?_
  refine z_sld (j := q + 2) (x := xs (q + 2)) B hX hbl hbA a2 v2 rfl dL_law_880 ?_
  have hmm := ok_numberM (x1 := (xs (q + 1))) (x2 := (xs (q + 2))) J2.2.1
  obtain ⟨⟨r3, u3⟩, hr3, hU3⟩ := hmm
  have hU3 : MU (b + 405) _ u3 := hU3
  have ct3 := ct_X9_number l hr3 J2.2.2.2.1 J2.2.2.1.1
  obtain ⟨J3, p3, s3, z3, y3⟩ := jd_mu J2 hU3 ct3.1.1
  have b3 := pb J3
  refine z_cVl (As := [.int (xs (q + 1)), .int (xs (q + 2))]) (rest := []) B cw_L_148 cx_10 dL_law_881 ct3.2 J2.2.2.1.1 rfl ⟨Nat.le_of_ble_eq_true rfl, Nat.le_of_ble_eq_true rfl⟩ rfl (Nat.le_of_ble_eq_true rfl) ⟨(by show _ ≤ 601024; omega), (by show _ ≤ 7293034; omega)⟩ (fun r4 u4 hu4 => ?_)
  obtain ⟨-, hu4⟩ := hu4
  subst hu4
  refine z_lstore (lv' := [(6, .long r4), (5, .int r2), (4, .int x), (3, .ref (b + 431)), (2, .ref (b + 405)), (1, .ref (b + 0)), (0, .ref bS)]) B dL_law_884 (by decide) rfl ?_
  refine z_goto (tgt := 955) B dL_law_886 (by decide) ?_
  refine z_sub _ [2, 3, 4, 5, 6] rfl ?_
  exact kk _ _ _ J3 (by omega) (by omega)
set_option maxRecDepth 100000 in
set_option maxHeartbeats 4000000 in
theorem cs_20 {n0 : Nat} {p : Program} {l : Launch} {e : Env} {s : State} {m : MethodId} {args : Array Value} {below : List Frame} {meth : Method} {c : Code} {g : gx_T} {Q : State → Prop} {σ : sx_T} {b bS L q cells slots : Nat} {xs : Nat → Int32} {x : Int32} {C S : Int} (hn : 1000001 ≤ n0) (hlt : l.stackTraces = false) (B : zx_B p s m args meth c code RL 8 g) (hX : va_X bS L xs s s.heap) (hbl : bS < s.heap.size) (hbA : ¬ gx_b g ≤ bS) (hA : AJ x q L) (hJ : JD g b 0 σ) (hc : (cells : Int) ≤ C + PC b σ) (hs : (slots : Int) ≤ S + PS b σ) (hC : C ≤ 2000) (hS : S ≤ 200000) (kk : ∀ (σ' : sx_T) (cells' slots' : Nat), JD g b 0 σ' → (cells' : Int) ≤ C + 1 + PC b σ' → (slots' : Int) ≤ S + 6 + PS b σ' → zx p l e room_1 s m args below meth c g 8 cells' slots' Q σ' 955 [(4, .int x), (3, .ref (b + 431)), (2, .ref (b + 405)), (1, .ref (b + 0)), (0, .ref bS)] []) : zx p l e room_1 s m args below meth c g 8 cells slots Q σ 889 [(4, .int x), (3, .ref (b + 431)), (2, .ref (b + 405)), (1, .ref (b + 0)), (0, .ref bS)] [] := by
  have hkL : sx_K σ (b + 0) = 10 := hJ.1.kL
  have hko := hJ.2.2.2.2.2.1
  have hno := hJ.2.2.2.2.2.2.1
  have hT := hJ.2.2.2.1
  have bσ := pb hJ
  obtain ⟨⟨a1, v1⟩, ⟨a2, v2⟩, ⟨a3, v3⟩, ⟨a4, v4⟩, ⟨a5, v5⟩⟩ := hA
  refine z_aload_n B dL_law_889 rfl 3 rfl ?_
  obtain ⟨r, hr⟩ := ok_tasksX (c := cS b) hJ.1
  have ct := ct_X8_tasks l hr hT hkL
  refine z_cVi (As := []) (rest := []) B cw_L_149 cx_9 dL_law_890 ct.2 hkL rfl ⟨Nat.le_of_ble_eq_true rfl, Nat.le_of_ble_eq_true rfl⟩ rfl (Nat.le_of_ble_eq_true rfl) ⟨(by show _ ≤ 601024; omega), (by show _ ≤ 7293034; omega)⟩ (fun r2 u2 hu => ?_)
  obtain ⟨e2, hu⟩ := hu
  subst hu
  have J2 := hJ
  refine z_pop B dL_law_893 rfl ?_
  refine z_aload_n B dL_law_894 rfl 2 rfl ?_
  have hmm := ok_tasksM J2.2.1
  obtain ⟨⟨r3, u3⟩, hr3, hU3⟩ := hmm
  have hU3 : MU (b + 405) _ u3 := hU3
  have ct3 := ct_X9_tasks l hr3 J2.2.2.2.1 J2.2.2.1.1
  obtain ⟨J3, p3, s3, z3, y3⟩ := jd_mu J2 hU3 ct3.1.1
  have b3 := pb J3
  refine z_cVi (As := []) (rest := []) B cw_L_152 cx_10 dL_law_895 ct3.2 J2.2.2.1.1 rfl ⟨Nat.le_of_ble_eq_true rfl, Nat.le_of_ble_eq_true rfl⟩ rfl (Nat.le_of_ble_eq_true rfl) ⟨(by show _ ≤ 601024; omega), (by show _ ≤ 7293034; omega)⟩ (fun r4 u4 hu4 => ?_)
  obtain ⟨-, hu4⟩ := hu4
  subst hu4
  refine z_pop B dL_law_898 rfl ?_
  refine z_goto (tgt := 955) B dL_law_899 (by decide) ?_
  exact kk _ _ _ J3 (by omega) (by omega)
set_option maxRecDepth 100000 in
set_option maxHeartbeats 4000000 in
theorem cs_21 {n0 : Nat} {p : Program} {l : Launch} {e : Env} {s : State} {m : MethodId} {args : Array Value} {below : List Frame} {meth : Method} {c : Code} {g : gx_T} {Q : State → Prop} {σ : sx_T} {b bS L q cells slots : Nat} {xs : Nat → Int32} {x : Int32} {C S : Int} (hn : 1000001 ≤ n0) (hlt : l.stackTraces = false) (B : zx_B p s m args meth c code RL 8 g) (hX : va_X bS L xs s s.heap) (hbl : bS < s.heap.size) (hbA : ¬ gx_b g ≤ bS) (hA : AJ x q L) (hJ : JD g b 0 σ) (hc : (cells : Int) ≤ C + PC b σ) (hs : (slots : Int) ≤ S + PS b σ) (hC : C ≤ 2000) (hS : S ≤ 200000) (kk : ∀ (σ' : sx_T) (cells' slots' : Nat), JD g b 0 σ' → (cells' : Int) ≤ C + 1 + PC b σ' → (slots' : Int) ≤ S + 6 + PS b σ' → zx p l e room_1 s m args below meth c g 8 cells' slots' Q σ' 955 [(4, .int x), (3, .ref (b + 431)), (2, .ref (b + 405)), (1, .ref (b + 0)), (0, .ref bS)] []) : zx p l e room_1 s m args below meth c g 8 cells slots Q σ 902 [(4, .int x), (3, .ref (b + 431)), (2, .ref (b + 405)), (1, .ref (b + 0)), (0, .ref bS)] [] := by
  have hkL : sx_K σ (b + 0) = 10 := hJ.1.kL
  have hko := hJ.2.2.2.2.2.1
  have hno := hJ.2.2.2.2.2.2.1
  have hT := hJ.2.2.2.1
  have bσ := pb hJ
  obtain ⟨⟨a1, v1⟩, ⟨a2, v2⟩, ⟨a3, v3⟩, ⟨a4, v4⟩, ⟨a5, v5⟩⟩ := hA
  refine z_aload_n B dL_law_902 rfl 3 rfl ?_
  refine z_aload_n B dL_law_903 rfl 4 rfl ?_
  refine z_iload B dL_law_904 0 rfl ?_
  refine z_iconst (v := 1) B dL_law_906 (by decide) ?_
  refine z_iadd B dL_law_907 ?_
  refine z_sld (j := q + 1) (x := xs (q + 1)) B hX hbl hbA a1 v1 rfl dL_law_908 ?_
  refine z_aload_n B dL_law_909 rfl 4 rfl ?_
  refine z_iload B dL_law_910 0 rfl ?_
  refine z_iconst (v := 2) B dL_law_912 (by decide) ?_
  refine z_iadd B dL_law_913 ?_
  refine z_sld (j := q + 2) (x := xs (q + 2)) B hX hbl hbA a2 v2 rfl dL_law_914 ?_
  refine z_aload_n B dL_law_915 rfl 1 rfl ?_
  have hcl : Ok (f_X8_task σ (b + 0) (xs (q + 1)) (xs (q + 2))) (fun r => UP (cS b) 0 σ r.2) := ok_taskX (c := cS b) hJ.1
  obtain ⟨⟨r, u⟩, hr, hU⟩ := hcl
  have hU : UP (cS b) 0 σ u := hU
  obtain ⟨hG, hM⟩ := wr_task l hlt hr hT hkL hko hno
  obtain ⟨J1, z1, s1⟩ := jd_up hJ hU hG
  have bu := pb J1
  refine z_cSWi (As := [.ref (b + 0), .int (xs (q + 1)), .int (xs (q + 2)), .ref (b + 431)]) (rest := []) B cw_L_153 dL_law_916 hM rfl ⟨Nat.le_of_ble_eq_true rfl, Nat.le_of_ble_eq_true rfl⟩ rfl (Nat.le_of_ble_eq_true rfl) ⟨(by show _ ≤ 601024; omega), (by show _ ≤ 7293034; omega)⟩ (fun r2 u2 hu => ?_)
  obtain ⟨J2, p2, s2⟩ := wq_j J1 hu
  refine z_istore (lv' := [(5, .int r2), (4, .int x), (3, .ref (b + 431)), (2, .ref (b + 405)), (1, .ref (b + 0)), (0, .ref bS)]) B dL_law_919 (by decide) rfl ?_
  refine z_aload_n B dL_law_921 rfl 3 rfl ?_
  refine z_aload_n B dL_law_922 rfl 5 rfl ?_
  refine z_iload B dL_law_923 1 rfl ?_
  refine z_iconst (v := 1) B dL_law_925 (by decide) ?_
  refine z_iadd B dL_law_926 ?_
  refine z_sld (j := q + 1) (x := xs (q + 1)) B hX hbl hbA a1 v1 rfl dL_law_927 ?_
  refine z_aload_n B dL_law_928 rfl 5 rfl ?_
  refine z_iload B dL_law_929 1 rfl ?_
  refine z_iconst (v := 2) B dL_law_931 (by decide) ?_
  refine z_iadd B dL_law_932 ?_
  refine z_sld (j := q + 2) (x := xs (q + 2)) B hX hbl hbA a2 v2 rfl dL_law_933 ?_
  have hmm := ok_taskM (x1 := (xs (q + 1))) (x2 := (xs (q + 2))) J2.2.1
  obtain ⟨⟨r3, u3⟩, hr3, hU3⟩ := hmm
  have hU3 : MU (b + 405) _ u3 := hU3
  have ct3 := ct_X9_task l hr3 J2.2.2.2.1 J2.2.2.1.1
  obtain ⟨J3, p3, s3, z3, y3⟩ := jd_mu J2 hU3 ct3.1.1
  have b3 := pb J3
  refine z_cVi (As := [.int (xs (q + 1)), .int (xs (q + 2))]) (rest := []) B cw_L_155 cx_10 dL_law_934 ct3.2 J2.2.2.1.1 rfl ⟨Nat.le_of_ble_eq_true rfl, Nat.le_of_ble_eq_true rfl⟩ rfl (Nat.le_of_ble_eq_true rfl) ⟨(by show _ ≤ 601024; omega), (by show _ ≤ 7293034; omega)⟩ (fun r4 u4 hu4 => ?_)
  obtain ⟨-, hu4⟩ := hu4
  subst hu4
  refine z_istore (lv' := [(6, .int r4), (5, .int r2), (4, .int x), (3, .ref (b + 431)), (2, .ref (b + 405)), (1, .ref (b + 0)), (0, .ref bS)]) B dL_law_937 (by decide) rfl ?_
  refine z_goto (tgt := 955) B dL_law_939 (by decide) ?_
  refine z_sub _ [2, 3, 4, 5, 6] rfl ?_
  exact kk _ _ _ J3 (by omega) (by omega)
set_option maxRecDepth 100000 in
set_option maxHeartbeats 4000000 in
theorem cs_22 {n0 : Nat} {p : Program} {l : Launch} {e : Env} {s : State} {m : MethodId} {args : Array Value} {below : List Frame} {meth : Method} {c : Code} {g : gx_T} {Q : State → Prop} {σ : sx_T} {b bS L q cells slots : Nat} {xs : Nat → Int32} {x : Int32} {C S : Int} (hn : 1000001 ≤ n0) (hlt : l.stackTraces = false) (B : zx_B p s m args meth c code RL 8 g) (hX : va_X bS L xs s s.heap) (hbl : bS < s.heap.size) (hbA : ¬ gx_b g ≤ bS) (hA : AJ x q L) (hJ : JD g b 0 σ) (hc : (cells : Int) ≤ C + PC b σ) (hs : (slots : Int) ≤ S + PS b σ) (hC : C ≤ 2000) (hS : S ≤ 200000) (kk : ∀ (σ' : sx_T) (cells' slots' : Nat), JD g b 0 σ' → (cells' : Int) ≤ C + 1 + PC b σ' → (slots' : Int) ≤ S + 6 + PS b σ' → zx p l e room_1 s m args below meth c g 8 cells' slots' Q σ' 955 [(4, .int x), (3, .ref (b + 431)), (2, .ref (b + 405)), (1, .ref (b + 0)), (0, .ref bS)] []) : zx p l e room_1 s m args below meth c g 8 cells slots Q σ 942 [(4, .int x), (3, .ref (b + 431)), (2, .ref (b + 405)), (1, .ref (b + 0)), (0, .ref bS)] [] := by
  have hkL : sx_K σ (b + 0) = 10 := hJ.1.kL
  have hko := hJ.2.2.2.2.2.1
  have hno := hJ.2.2.2.2.2.2.1
  have hT := hJ.2.2.2.1
  have bσ := pb hJ
  obtain ⟨⟨a1, v1⟩, ⟨a2, v2⟩, ⟨a3, v3⟩, ⟨a4, v4⟩, ⟨a5, v5⟩⟩ := hA
  refine z_aload_n B dL_law_942 rfl 3 rfl ?_
  have hr : f_X8_now σ (b + 0) = some (sx_I σ (b + 0) 8) := rfl
  have ct := ct_X8_now l hr hT hkL
  refine z_cVi (As := []) (rest := []) B cw_L_156 cx_9 dL_law_943 ct.2 hkL rfl ⟨Nat.le_of_ble_eq_true rfl, Nat.le_of_ble_eq_true rfl⟩ rfl (Nat.le_of_ble_eq_true rfl) ⟨(by show _ ≤ 601024; omega), (by show _ ≤ 7293034; omega)⟩ (fun r2 u2 hu => ?_)
  obtain ⟨e2, hu⟩ := hu
  subst hu
  have J2 := hJ
  refine z_pop B dL_law_946 rfl ?_
  refine z_aload_n B dL_law_947 rfl 2 rfl ?_
  have hmm := ok_nowM J2.2.1
  obtain ⟨⟨r3, u3⟩, hr3, hU3⟩ := hmm
  have hU3 : r3 = sx_I _ (b + 405) 1 ∧ MU (b + 405) _ u3 := hU3
  have ct3 := ct_X9_now l hr3 J2.2.2.2.1 J2.2.2.1.1
  obtain ⟨J3, p3, s3, z3, y3⟩ := jd_mu J2 hU3.2 ct3.1.1
  have b3 := pb J3
  refine z_cVi (As := []) (rest := []) B cw_L_159 cx_10 dL_law_948 ct3.2 J2.2.2.1.1 rfl ⟨Nat.le_of_ble_eq_true rfl, Nat.le_of_ble_eq_true rfl⟩ rfl (Nat.le_of_ble_eq_true rfl) ⟨(by show _ ≤ 601024; omega), (by show _ ≤ 7293034; omega)⟩ (fun r4 u4 hu4 => ?_)
  obtain ⟨e4, hu4⟩ := hu4
  subst hu4
  refine z_pop B dL_law_951 rfl ?_
  refine z_goto (tgt := 955) B dL_law_952 (by decide) ?_
  exact kk _ _ _ J3 (by omega) (by omega)
