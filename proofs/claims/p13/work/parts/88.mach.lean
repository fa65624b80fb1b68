/-! the law's wrappers, each with what its call leaves -/
section CATCH
variable {p : Program} {l : Launch} {e : Env} {R : Room} {s : State} {m : MethodId} {args : Array Value} {below : List Frame} {meth : Method} {c : Code} {g : gx_T} {nL cells slots : Nat} {Q : State → Prop} {σ σ' u0 : sx_T} {pc : Nat} {lv lv' : List (Nat × Value)} {st : List Value} {cc : ByteArray} {own : String}
theorem z_cYi (B : zx_B p s m args meth c cc own nL g) {ci N index maxL n fr lo mc ms a hpc : Nat} {C E : String} {T : u_T} {ty0 : Nat → FieldType} {y : MethodName} {bytes : ByteArray} {ret : Option FieldType} {As rest : List Value} {hh : List (Nat × Nat × Nat × Nat)} (htab : c.exceptionTable.toList = tableOf hh) (hcat : tc_ own hh pc E hpc) (hw : wx_V own index C y bytes maxL ret n) (hC : cx_ok ci C T N ty0) (hd : decode cc pc = .ok (.invokevirtual index, 3)) (hmet : vx_Met l y (.code y bytes maxL ret :: lw_g) { frames := fr, cells := mc, slots := ms, locals := lo } (va_Pc (.ref a :: As) (zx_w g σ)) (va_Qi (S := sx_T) (fun _ _ => False) (zx_w g) (gx_Q g)) (vx_X (fun u : sx_T => ∃ z, sx_Z u0 ≤ z ∧ u = wx_Z u0 z) (fun E' u t => E' = E ∧ zx_h g u t.heap) (gx_Q g)) mc ms (gx_Q g)) (hKa : sx_K σ a = ci + 1) (hn : As.length = n) (hR : fr + 1 ≤ R.frames ∧ 8 + (maxL + 11) + lo ≤ R.locals) (hst : st = As.reverse ++ .ref a :: rest) (hrm : (rest.map fun v => v.category).sum ≤ 8) (hf : cells + mc ≤ R.cells ∧ slots + ms ≤ R.slots) (kk : ∀ (z : Nat) (q : Nat), sx_Z u0 ≤ z → zx p l e R s m args below meth c g nL (cells + mc) (slots + ms) Q (wx_Z u0 z) hpc lv [.ref q]) : zx p l e R s m args below meth c g nL cells slots Q σ pc lv st := by
  subst hst
  intro H locs ls hM hl
  obtain ⟨pre, suf, x, nm, hs1, hs2, hs3, hs4, hs5, hs6, rfl⟩ := hcat
  exact vx_calli (vx_runV (rest := rest) (As := As) ⟨B.1, B.2.1, B.2.2.1, B.2.2.2.1, B.2.2.2.2.1⟩ hmet (cwV n B.2.2.2.2.1 (gv_in hw) rfl rfl rfl hw.2 hR) (zp_v B.2.2.2.2.2.2.1 hM hC hKa) rfl hn hl.1 rfl (lv_room hrm) hd hf) hM.2 (fun q _ h => h) (fun q h => h) (fun q _ h => h)
    (fun E' ce q9 u t H1 locs1 ht hvm hp hB hz hk hS hce hcv hcl => by
      obtain ⟨z, hz9, rfl⟩ := hp
      obtain ⟨rfl, hh1⟩ := hB
      exact vx_catch B.2.2.2.1 pre x suf (htab.trans hs1) (fun w hw => Or.inr ⟨(hs2 w hw).1, (hs2 w hw).2.choose, B.2.2.2.2.1 _ (hs2 w hw).2.choose_spec.1, B.2.2.2.2.2.2.1.2.2.2.2.2.2.1 _ (hs2 w hw).2.choose_spec.2⟩) hs3 hs4 (B.2.2.2.2.1 _ hs5) (va_Nw.use rfl (B.2.2.2.2.2.2.1.2.1 _ hs6)) hce hcv hcl (kk z q9 hz9 H1 locs1 ls ⟨ht ▸ hh1, hS⟩ hl))
    (fun r u t H1 locs1 ht hvm hp hB hz hk hS => hp.elim)
theorem z_cYl (B : zx_B p s m args meth c cc own nL g) {ci N index maxL n fr lo mc ms a hpc : Nat} {C E : String} {T : u_T} {ty0 : Nat → FieldType} {y : MethodName} {bytes : ByteArray} {ret : Option FieldType} {As rest : List Value} {hh : List (Nat × Nat × Nat × Nat)} (htab : c.exceptionTable.toList = tableOf hh) (hcat : tc_ own hh pc E hpc) (hw : wx_V own index C y bytes maxL ret n) (hC : cx_ok ci C T N ty0) (hd : decode cc pc = .ok (.invokevirtual index, 3)) (hmet : vx_Met l y (.code y bytes maxL ret :: lw_g) { frames := fr, cells := mc, slots := ms, locals := lo } (va_Pc (.ref a :: As) (zx_w g σ)) (va_Ql (S := sx_T) (fun _ _ => False) (zx_w g) (gx_Q g)) (vx_X (fun u : sx_T => ∃ z, sx_Z u0 ≤ z ∧ u = wx_Z u0 z) (fun E' u t => E' = E ∧ zx_h g u t.heap) (gx_Q g)) mc ms (gx_Q g)) (hKa : sx_K σ a = ci + 1) (hn : As.length = n) (hR : fr + 1 ≤ R.frames ∧ 8 + (maxL + 11) + lo ≤ R.locals) (hst : st = As.reverse ++ .ref a :: rest) (hrm : (rest.map fun v => v.category).sum ≤ 8) (hf : cells + mc ≤ R.cells ∧ slots + ms ≤ R.slots) (kk : ∀ (z : Nat) (q : Nat), sx_Z u0 ≤ z → zx p l e R s m args below meth c g nL (cells + mc) (slots + ms) Q (wx_Z u0 z) hpc lv [.ref q]) : zx p l e R s m args below meth c g nL cells slots Q σ pc lv st := by
  subst hst
  intro H locs ls hM hl
  obtain ⟨pre, suf, x, nm, hs1, hs2, hs3, hs4, hs5, hs6, rfl⟩ := hcat
  exact vx_calll (vx_runV (rest := rest) (As := As) ⟨B.1, B.2.1, B.2.2.1, B.2.2.2.1, B.2.2.2.2.1⟩ hmet (cwV n B.2.2.2.2.1 (gv_in hw) rfl rfl rfl hw.2 hR) (zp_v B.2.2.2.2.2.2.1 hM hC hKa) rfl hn hl.1 rfl (lv_room hrm) hd hf) hM.2 (fun q _ h => h) (fun q h => h) (fun q _ h => h)
    (fun E' ce q9 u t H1 locs1 ht hvm hp hB hz hk hS hce hcv hcl => by
      obtain ⟨z, hz9, rfl⟩ := hp
      obtain ⟨rfl, hh1⟩ := hB
      exact vx_catch B.2.2.2.1 pre x suf (htab.trans hs1) (fun w hw => Or.inr ⟨(hs2 w hw).1, (hs2 w hw).2.choose, B.2.2.2.2.1 _ (hs2 w hw).2.choose_spec.1, B.2.2.2.2.2.2.1.2.2.2.2.2.2.1 _ (hs2 w hw).2.choose_spec.2⟩) hs3 hs4 (B.2.2.2.2.1 _ hs5) (va_Nw.use rfl (B.2.2.2.2.2.2.1.2.1 _ hs6)) hce hcv hcl (kk z q9 hz9 H1 locs1 ls ⟨ht ▸ hh1, hS⟩ hl))
    (fun r u t H1 locs1 ht hvm hp hB hz hk hS => hp.elim)
end CATCH
def WQ (b : Nat) (u u' : sx_T) : Prop := (∃ y : Int64, u' = wx_J u (b + 431) 0 y) ∨ ∃ z, sx_Z u ≤ z ∧ u' = wx_Z u z
abbrev TQk (b : Nat) (r : Sum Int32 String) (u : sx_T) (r2 : Int32) (u' : sx_T) : Prop := (∀ y, r = .inl y → r2 = 0 ∧ u' = wx_J u (b + 431) 0 y.toInt64) ∧ (∀ E, r = .inr E → r2 = 1 ∧ ∃ z, sx_Z u ≤ z ∧ u' = wx_Z u z)
theorem tqk_w {b : Nat} {r : Sum Int32 String} {u : sx_T} {r2 : Int32} {u' : sx_T} (h : TQk b r u r2 u') : WQ b u u' := by
  cases r with
  | inl y => exact Or.inl ⟨_, (h.1 y rfl).2⟩
  | inr E => exact Or.inr (h.2 E rfl).2
theorem tc_set_11_IndexOutOfBoundsException : tc_ RL [(0, 16, 19, 13), (0, 16, 23, 15)] 11 "java/lang/IndexOutOfBoundsException" 19 := ⟨[], [⟨0, 16, 23, 15⟩], ⟨0, 16, 19, 13⟩, "java/lang/IndexOutOfBoundsException", rfl, fun z hz => absurd hz List.not_mem_nil, rfl, by decide, wg_712, wn_723, rfl⟩
theorem tc_set_11_IllegalArgumentException : tc_ RL [(0, 16, 19, 13), (0, 16, 23, 15)] 11 "java/lang/IllegalArgumentException" 23 := ⟨[⟨0, 16, 19, 13⟩], [], ⟨0, 16, 23, 15⟩, "java/lang/IllegalArgumentException", rfl, fun z hz => by
  simp only [List.mem_cons, List.not_mem_nil, or_false] at hz
  subst hz
  exact ⟨by decide, _, wg_712, by decide⟩, rfl, by decide, wg_713, wn_793, rfl⟩
set_option maxRecDepth 100000 in
set_option maxHeartbeats 4000000 in
theorem wr_set (l : Launch) (hlt : l.stackTraces = false) {g : gx_T} {σ u : sx_T} {b : Nat} {r : Sum Int32 String} {n0 : Nat} {x1 : Int32} {x2 : Int32} {x3 : Int32} {x4 : Int32} {x5 : Int32} (h : f_X8_set n0 σ (b + 0) x1 x2 x3 x4 x5 = some (r, u)) (hT : TS g σ) (hkL : sx_K σ (b + 0) = 10) (hko : sx_K σ (b + 431) = 14) (hno : sx_N σ (b + 431) = 1) : GG g σ u ∧ Met l yL_set (.codeWith yL_set cL_set 8 (some .int) [(0, 16, 19, 13), (0, 16, 23, 15)] :: lw_g) { frames := 12, cells := sx_Z u - sx_Z σ + 1, slots := sx_S u - sx_S σ + 6, locals := 308 } (va_Pc [.ref (b + 0), .int x1, .int x2, .int x3, .int x4, .int x5, .ref (b + 431)] (zx_w g σ)) (va_Qi (fun _ u' => WQ b u u') (zx_w g) (gx_Q g)) (sx_Z u - sx_Z σ + 1) (sx_S u - sx_S σ + 6) (gx_Q g) := by
  cases r with
  | inl r =>
    have ct := ct_X8_set l h hT hkL
    have hk2 : sx_K u (b + 431) = 14 := k_G ct.1.1 (by decide) hko
    have hn2 : sx_N u (b + 431) = 1 := (ct.1.1.2.2.1 _ (by rw [hko]; decide)).2.trans hno
    refine ⟨ct.1.1, z_metW (by decide) (Nat.le_of_ble_eq_true rfl) (fun p e s m below meth c B hr htab => ?_)⟩
    show zx p l e _ s m _ below meth c g 8 0 0 _ _ 0 [(0, .ref (b + 0)), (1, .int x1), (2, .int x2), (3, .int x3), (4, .int x4), (5, .int x5), (6, .ref (b + 431))] []
    refine z_aload B dL_set_0 6 rfl ?_
    refine z_iconst (v := 0) B dL_set_2 (by decide) ?_
    refine z_aload_n B dL_set_3 rfl 0 rfl ?_
    refine z_iload_n B dL_set_4 rfl 1 rfl ?_
    refine z_iload_n B dL_set_5 rfl 2 rfl ?_
    refine z_iload_n B dL_set_6 rfl 3 rfl ?_
    refine z_iload B dL_set_7 4 rfl ?_
    refine z_iload B dL_set_9 5 rfl ?_
    refine z_cVi (As := [.int x1, .int x2, .int x3, .int x4, .int x5]) (rest := [.int 0, .ref (b + 431)]) B cw_L_7 cx_9 dL_set_11 ct.2 hkL rfl ⟨Nat.le_of_ble_eq_true rfl, Nat.le_of_ble_eq_true rfl⟩ rfl (Nat.le_of_ble_eq_true rfl) ⟨(by show _ ≤ sx_Z u - sx_Z σ + 1; omega), (by show _ ≤ sx_S u - sx_S σ + 6; omega)⟩ (fun r2 u2 hu => ?_)
    obtain ⟨rfl, rfl⟩ := hu
    refine z_i2l B dL_set_14 rfl ?_
    refine z_last (j := 0) B hk2 rfl (in_of hn2 (vp_in_iff.mpr ⟨by decide, by decide⟩)) rfl dL_set_15 ?_
    refine z_goto (tgt := 27) B dL_set_16 (by decide) ?_
    refine z_iconst (v := 0) B dL_set_27 (by decide) ?_
    exact z_iret B hr (by omega) (by omega) dL_set_28 (Or.inl ⟨_, rfl⟩)
  | inr E =>
    have cx := ct_X8_setx l hlt h hT hkL (Qc := va_Qi (S := sx_T) (fun _ _ => False) (zx_w g) (gx_Q g))
    refine ⟨cx.1, z_metW (by decide) (Nat.le_of_ble_eq_true rfl) (fun p e s m below meth c B hr htab => ?_)⟩
    show zx p l e _ s m _ below meth c g 8 0 0 _ _ 0 [(0, .ref (b + 0)), (1, .int x1), (2, .int x2), (3, .int x3), (4, .int x4), (5, .int x5), (6, .ref (b + 431))] []
    refine z_aload B dL_set_0 6 rfl ?_
    refine z_iconst (v := 0) B dL_set_2 (by decide) ?_
    refine z_aload_n B dL_set_3 rfl 0 rfl ?_
    refine z_iload_n B dL_set_4 rfl 1 rfl ?_
    refine z_iload_n B dL_set_5 rfl 2 rfl ?_
    refine z_iload_n B dL_set_6 rfl 3 rfl ?_
    refine z_iload B dL_set_7 4 rfl ?_
    refine z_iload B dL_set_9 5 rfl ?_
    have hE := ei_set E u h
    rcases hE with rfl | rfl
    · refine z_cYi (As := [.int x1, .int x2, .int x3, .int x4, .int x5]) (rest := [.int 0, .ref (b + 431)]) B htab tc_set_11_IndexOutOfBoundsException cw_L_7 cx_9 dL_set_11 cx.2 hkL rfl ⟨Nat.le_of_ble_eq_true rfl, Nat.le_of_ble_eq_true rfl⟩ rfl (Nat.le_of_ble_eq_true rfl) ⟨(by show _ ≤ sx_Z u - sx_Z σ + 1; omega), (by show _ ≤ sx_S u - sx_S σ + 6; omega)⟩ (fun z q hz => ?_)
      refine z_astore (lv' := [(7, .ref q), (0, .ref (b + 0)), (1, .int x1), (2, .int x2), (3, .int x3), (4, .int x4), (5, .int x5), (6, .ref (b + 431))]) B dL_set_19 (by decide) rfl ?_
      refine z_iconst (v := 1) B dL_set_21 (by decide) ?_
      exact z_iret B hr (by omega) (by omega) dL_set_22 (Or.inr ⟨z, hz, rfl⟩)
    · refine z_cYi (As := [.int x1, .int x2, .int x3, .int x4, .int x5]) (rest := [.int 0, .ref (b + 431)]) B htab tc_set_11_IllegalArgumentException cw_L_7 cx_9 dL_set_11 cx.2 hkL rfl ⟨Nat.le_of_ble_eq_true rfl, Nat.le_of_ble_eq_true rfl⟩ rfl (Nat.le_of_ble_eq_true rfl) ⟨(by show _ ≤ sx_Z u - sx_Z σ + 1; omega), (by show _ ≤ sx_S u - sx_S σ + 6; omega)⟩ (fun z q hz => ?_)
      refine z_astore (lv' := [(7, .ref q), (0, .ref (b + 0)), (1, .int x1), (2, .int x2), (3, .int x3), (4, .int x4), (5, .int x5), (6, .ref (b + 431))]) B dL_set_23 (by decide) rfl ?_
      refine z_iconst (v := 2) B dL_set_25 (by decide) ?_
      exact z_iret B hr (by omega) (by omega) dL_set_26 (Or.inr ⟨z, hz, rfl⟩)
theorem tc_check_11_IndexOutOfBoundsException : tc_ RL [(0, 16, 19, 13), (0, 16, 23, 15)] 11 "java/lang/IndexOutOfBoundsException" 19 := ⟨[], [⟨0, 16, 23, 15⟩], ⟨0, 16, 19, 13⟩, "java/lang/IndexOutOfBoundsException", rfl, fun z hz => absurd hz List.not_mem_nil, rfl, by decide, wg_712, wn_723, rfl⟩
theorem tc_check_11_IllegalArgumentException : tc_ RL [(0, 16, 19, 13), (0, 16, 23, 15)] 11 "java/lang/IllegalArgumentException" 23 := ⟨[⟨0, 16, 19, 13⟩], [], ⟨0, 16, 23, 15⟩, "java/lang/IllegalArgumentException", rfl, fun z hz => by
  simp only [List.mem_cons, List.not_mem_nil, or_false] at hz
  subst hz
  exact ⟨by decide, _, wg_712, by decide⟩, rfl, by decide, wg_713, wn_793, rfl⟩
set_option maxRecDepth 100000 in
set_option maxHeartbeats 4000000 in
theorem wr_check (l : Launch) (hlt : l.stackTraces = false) {g : gx_T} {σ u : sx_T} {b : Nat} {r : Sum Int32 String} {n0 : Nat} {x1 : Int32} {x2 : Int32} {x3 : Int32} {x4 : Int32} {x5 : Int32} (h : f_X8_check n0 σ (b + 0) x1 x2 x3 x4 x5 = some (r, u)) (hT : TS g σ) (hkL : sx_K σ (b + 0) = 10) (hko : sx_K σ (b + 431) = 14) (hno : sx_N σ (b + 431) = 1) : GG g σ u ∧ Met l yL_check (.codeWith yL_check cL_check 8 (some .int) [(0, 16, 19, 13), (0, 16, 23, 15)] :: lw_g) { frames := 8, cells := sx_Z u - sx_Z σ + 1, slots := sx_S u - sx_S σ + 6, locals := 168 } (va_Pc [.ref (b + 0), .int x1, .int x2, .int x3, .int x4, .int x5, .ref (b + 431)] (zx_w g σ)) (va_Qi (fun _ u' => WQ b u u') (zx_w g) (gx_Q g)) (sx_Z u - sx_Z σ + 1) (sx_S u - sx_S σ + 6) (gx_Q g) := by
  cases r with
  | inl r =>
    have ct := ct_X8_check l h hT hkL
    have hk2 : sx_K u (b + 431) = 14 := k_G ct.1.1 (by decide) hko
    have hn2 : sx_N u (b + 431) = 1 := (ct.1.1.2.2.1 _ (by rw [hko]; decide)).2.trans hno
    refine ⟨ct.1.1, z_metW (by decide) (Nat.le_of_ble_eq_true rfl) (fun p e s m below meth c B hr htab => ?_)⟩
    show zx p l e _ s m _ below meth c g 8 0 0 _ _ 0 [(0, .ref (b + 0)), (1, .int x1), (2, .int x2), (3, .int x3), (4, .int x4), (5, .int x5), (6, .ref (b + 431))] []
    refine z_aload B dL_check_0 6 rfl ?_
    refine z_iconst (v := 0) B dL_check_2 (by decide) ?_
    refine z_aload_n B dL_check_3 rfl 0 rfl ?_
    refine z_iload_n B dL_check_4 rfl 1 rfl ?_
    refine z_iload_n B dL_check_5 rfl 2 rfl ?_
    refine z_iload_n B dL_check_6 rfl 3 rfl ?_
    refine z_iload B dL_check_7 4 rfl ?_
    refine z_iload B dL_check_9 5 rfl ?_
    refine z_cVi (As := [.int x1, .int x2, .int x3, .int x4, .int x5]) (rest := [.int 0, .ref (b + 431)]) B cw_L_17 cx_9 dL_check_11 ct.2 hkL rfl ⟨Nat.le_of_ble_eq_true rfl, Nat.le_of_ble_eq_true rfl⟩ rfl (Nat.le_of_ble_eq_true rfl) ⟨(by show _ ≤ sx_Z u - sx_Z σ + 1; omega), (by show _ ≤ sx_S u - sx_S σ + 6; omega)⟩ (fun r2 u2 hu => ?_)
    obtain ⟨rfl, rfl⟩ := hu
    refine z_i2l B dL_check_14 rfl ?_
    refine z_last (j := 0) B hk2 rfl (in_of hn2 (vp_in_iff.mpr ⟨by decide, by decide⟩)) rfl dL_check_15 ?_
    refine z_goto (tgt := 27) B dL_check_16 (by decide) ?_
    refine z_iconst (v := 0) B dL_check_27 (by decide) ?_
    exact z_iret B hr (by omega) (by omega) dL_check_28 (Or.inl ⟨_, rfl⟩)
  | inr E =>
    have cx := ct_X8_checkx l hlt h hT hkL (Qc := va_Qi (S := sx_T) (fun _ _ => False) (zx_w g) (gx_Q g))
    refine ⟨cx.1, z_metW (by decide) (Nat.le_of_ble_eq_true rfl) (fun p e s m below meth c B hr htab => ?_)⟩
    show zx p l e _ s m _ below meth c g 8 0 0 _ _ 0 [(0, .ref (b + 0)), (1, .int x1), (2, .int x2), (3, .int x3), (4, .int x4), (5, .int x5), (6, .ref (b + 431))] []
    refine z_aload B dL_check_0 6 rfl ?_
    refine z_iconst (v := 0) B dL_check_2 (by decide) ?_
    refine z_aload_n B dL_check_3 rfl 0 rfl ?_
    refine z_iload_n B dL_check_4 rfl 1 rfl ?_
    refine z_iload_n B dL_check_5 rfl 2 rfl ?_
    refine z_iload_n B dL_check_6 rfl 3 rfl ?_
    refine z_iload B dL_check_7 4 rfl ?_
    refine z_iload B dL_check_9 5 rfl ?_
    have hE := ei_check E u h
    rcases hE with rfl | rfl
    · refine z_cYi (As := [.int x1, .int x2, .int x3, .int x4, .int x5]) (rest := [.int 0, .ref (b + 431)]) B htab tc_check_11_IndexOutOfBoundsException cw_L_17 cx_9 dL_check_11 cx.2 hkL rfl ⟨Nat.le_of_ble_eq_true rfl, Nat.le_of_ble_eq_true rfl⟩ rfl (Nat.le_of_ble_eq_true rfl) ⟨(by show _ ≤ sx_Z u - sx_Z σ + 1; omega), (by show _ ≤ sx_S u - sx_S σ + 6; omega)⟩ (fun z q hz => ?_)
      refine z_astore (lv' := [(7, .ref q), (0, .ref (b + 0)), (1, .int x1), (2, .int x2), (3, .int x3), (4, .int x4), (5, .int x5), (6, .ref (b + 431))]) B dL_check_19 (by decide) rfl ?_
      refine z_iconst (v := 1) B dL_check_21 (by decide) ?_
      exact z_iret B hr (by omega) (by omega) dL_check_22 (Or.inr ⟨z, hz, rfl⟩)
    · refine z_cYi (As := [.int x1, .int x2, .int x3, .int x4, .int x5]) (rest := [.int 0, .ref (b + 431)]) B htab tc_check_11_IllegalArgumentException cw_L_17 cx_9 dL_check_11 cx.2 hkL rfl ⟨Nat.le_of_ble_eq_true rfl, Nat.le_of_ble_eq_true rfl⟩ rfl (Nat.le_of_ble_eq_true rfl) ⟨(by show _ ≤ sx_Z u - sx_Z σ + 1; omega), (by show _ ≤ sx_S u - sx_S σ + 6; omega)⟩ (fun z q hz => ?_)
      refine z_astore (lv' := [(7, .ref q), (0, .ref (b + 0)), (1, .int x1), (2, .int x2), (3, .int x3), (4, .int x4), (5, .int x5), (6, .ref (b + 431))]) B dL_check_23 (by decide) rfl ?_
      refine z_iconst (v := 2) B dL_check_25 (by decide) ?_
      exact z_iret B hr (by omega) (by omega) dL_check_26 (Or.inr ⟨z, hz, rfl⟩)
theorem tc_start_5_IndexOutOfBoundsException : tc_ RL [(0, 10, 13, 13), (0, 10, 17, 15), (0, 10, 21, 24)] 5 "java/lang/IndexOutOfBoundsException" 13 := ⟨[], [⟨0, 10, 17, 15⟩, ⟨0, 10, 21, 24⟩], ⟨0, 10, 13, 13⟩, "java/lang/IndexOutOfBoundsException", rfl, fun z hz => absurd hz List.not_mem_nil, rfl, by decide, wg_712, wn_723, rfl⟩
theorem tc_start_5_IllegalArgumentException : tc_ RL [(0, 10, 13, 13), (0, 10, 17, 15), (0, 10, 21, 24)] 5 "java/lang/IllegalArgumentException" 17 := ⟨[⟨0, 10, 13, 13⟩], [⟨0, 10, 21, 24⟩], ⟨0, 10, 17, 15⟩, "java/lang/IllegalArgumentException", rfl, fun z hz => by
  simp only [List.mem_cons, List.not_mem_nil, or_false] at hz
  subst hz
  exact ⟨by decide, _, wg_712, by decide⟩, rfl, by decide, wg_713, wn_793, rfl⟩
theorem tc_start_5_IllegalStateException : tc_ RL [(0, 10, 13, 13), (0, 10, 17, 15), (0, 10, 21, 24)] 5 "java/lang/IllegalStateException" 21 := ⟨[⟨0, 10, 13, 13⟩, ⟨0, 10, 17, 15⟩], [], ⟨0, 10, 21, 24⟩, "java/lang/IllegalStateException", rfl, fun z hz => by
  simp only [List.mem_cons, List.not_mem_nil, or_false] at hz
  rcases hz with rfl | rfl
  · exact ⟨by decide, _, wg_712, by decide⟩
  · exact ⟨by decide, _, wg_713, by decide⟩, rfl, by decide, wg_836, wn_845, rfl⟩
set_option maxRecDepth 100000 in
set_option maxHeartbeats 4000000 in
theorem wr_start (l : Launch) (hlt : l.stackTraces = false) {g : gx_T} {σ u : sx_T} {b : Nat} {r : Sum Int32 String} {n0 : Nat} {x1 : Int32} {x2 : Int32} (h : f_X8_start n0 σ (b + 0) x1 x2 = some (r, u)) (hT : TS g σ) (hkL : sx_K σ (b + 0) = 10) (hko : sx_K σ (b + 431) = 14) (hno : sx_N σ (b + 431) = 1) : GG g σ u ∧ Met l yL_start (.codeWith yL_start cL_start 5 (some .int) [(0, 10, 13, 13), (0, 10, 17, 15), (0, 10, 21, 24)] :: lw_g) { frames := 12, cells := sx_Z u - sx_Z σ + 1, slots := sx_S u - sx_S σ + 6, locals := 304 } (va_Pc [.ref (b + 0), .int x1, .int x2, .ref (b + 431)] (zx_w g σ)) (va_Qi (fun _ u' => WQ b u u') (zx_w g) (gx_Q g)) (sx_Z u - sx_Z σ + 1) (sx_S u - sx_S σ + 6) (gx_Q g) := by
  cases r with
  | inl r =>
    have ct := ct_X8_start l h hT hkL
    have hk2 : sx_K u (b + 431) = 14 := k_G ct.1.1 (by decide) hko
    have hn2 : sx_N u (b + 431) = 1 := (ct.1.1.2.2.1 _ (by rw [hko]; decide)).2.trans hno
    refine ⟨ct.1.1, z_metW (by decide) (Nat.le_of_ble_eq_true rfl) (fun p e s m below meth c B hr htab => ?_)⟩
    show zx p l e _ s m _ below meth c g 5 0 0 _ _ 0 [(0, .ref (b + 0)), (1, .int x1), (2, .int x2), (3, .ref (b + 431))] []
    refine z_aload_n B dL_start_0 rfl 3 rfl ?_
    refine z_iconst (v := 0) B dL_start_1 (by decide) ?_
    refine z_aload_n B dL_start_2 rfl 0 rfl ?_
    refine z_iload_n B dL_start_3 rfl 1 rfl ?_
    refine z_iload_n B dL_start_4 rfl 2 rfl ?_
    refine z_cVi (As := [.int x1, .int x2]) (rest := [.int 0, .ref (b + 431)]) B cw_L_20 cx_9 dL_start_5 ct.2 hkL rfl ⟨Nat.le_of_ble_eq_true rfl, Nat.le_of_ble_eq_true rfl⟩ rfl (Nat.le_of_ble_eq_true rfl) ⟨(by show _ ≤ sx_Z u - sx_Z σ + 1; omega), (by show _ ≤ sx_S u - sx_S σ + 6; omega)⟩ (fun r2 u2 hu => ?_)
    obtain ⟨rfl, rfl⟩ := hu
    refine z_i2l B dL_start_8 rfl ?_
    refine z_last (j := 0) B hk2 rfl (in_of hn2 (vp_in_iff.mpr ⟨by decide, by decide⟩)) rfl dL_start_9 ?_
    refine z_goto (tgt := 25) B dL_start_10 (by decide) ?_
    refine z_iconst (v := 0) B dL_start_25 (by decide) ?_
    exact z_iret B hr (by omega) (by omega) dL_start_26 (Or.inl ⟨_, rfl⟩)
  | inr E =>
    have cx := ct_X8_startx l hlt h hT hkL (Qc := va_Qi (S := sx_T) (fun _ _ => False) (zx_w g) (gx_Q g))
    refine ⟨cx.1, z_metW (by decide) (Nat.le_of_ble_eq_true rfl) (fun p e s m below meth c B hr htab => ?_)⟩
    show zx p l e _ s m _ below meth c g 5 0 0 _ _ 0 [(0, .ref (b + 0)), (1, .int x1), (2, .int x2), (3, .ref (b + 431))] []
    refine z_aload_n B dL_start_0 rfl 3 rfl ?_
    refine z_iconst (v := 0) B dL_start_1 (by decide) ?_
    refine z_aload_n B dL_start_2 rfl 0 rfl ?_
    refine z_iload_n B dL_start_3 rfl 1 rfl ?_
    refine z_iload_n B dL_start_4 rfl 2 rfl ?_
    have hE := ei_start E u h
    rcases hE with rfl | rfl | rfl
    · refine z_cYi (As := [.int x1, .int x2]) (rest := [.int 0, .ref (b + 431)]) B htab tc_start_5_IndexOutOfBoundsException cw_L_20 cx_9 dL_start_5 cx.2 hkL rfl ⟨Nat.le_of_ble_eq_true rfl, Nat.le_of_ble_eq_true rfl⟩ rfl (Nat.le_of_ble_eq_true rfl) ⟨(by show _ ≤ sx_Z u - sx_Z σ + 1; omega), (by show _ ≤ sx_S u - sx_S σ + 6; omega)⟩ (fun z q hz => ?_)
      refine z_astore (lv' := [(4, .ref q), (0, .ref (b + 0)), (1, .int x1), (2, .int x2), (3, .ref (b + 431))]) B dL_start_13 (by decide) rfl ?_
      refine z_iconst (v := 1) B dL_start_15 (by decide) ?_
      exact z_iret B hr (by omega) (by omega) dL_start_16 (Or.inr ⟨z, hz, rfl⟩)
    · refine z_cYi (As := [.int x1, .int x2]) (rest := [.int 0, .ref (b + 431)]) B htab tc_start_5_IllegalArgumentException cw_L_20 cx_9 dL_start_5 cx.2 hkL rfl ⟨Nat.le_of_ble_eq_true rfl, Nat.le_of_ble_eq_true rfl⟩ rfl (Nat.le_of_ble_eq_true rfl) ⟨(by show _ ≤ sx_Z u - sx_Z σ + 1; omega), (by show _ ≤ sx_S u - sx_S σ + 6; omega)⟩ (fun z q hz => ?_)
      refine z_astore (lv' := [(4, .ref q), (0, .ref (b + 0)), (1, .int x1), (2, .int x2), (3, .ref (b + 431))]) B dL_start_17 (by decide) rfl ?_
      refine z_iconst (v := 2) B dL_start_19 (by decide) ?_
      exact z_iret B hr (by omega) (by omega) dL_start_20 (Or.inr ⟨z, hz, rfl⟩)
    · refine z_cYi (As := [.int x1, .int x2]) (rest := [.int 0, .ref (b + 431)]) B htab tc_start_5_IllegalStateException cw_L_20 cx_9 dL_start_5 cx.2 hkL rfl ⟨Nat.le_of_ble_eq_true rfl, Nat.le_of_ble_eq_true rfl⟩ rfl (Nat.le_of_ble_eq_true rfl) ⟨(by show _ ≤ sx_Z u - sx_Z σ + 1; omega), (by show _ ≤ sx_S u - sx_S σ + 6; omega)⟩ (fun z q hz => ?_)
      refine z_astore (lv' := [(4, .ref q), (0, .ref (b + 0)), (1, .int x1), (2, .int x2), (3, .ref (b + 431))]) B dL_start_21 (by decide) rfl ?_
      refine z_iconst (v := 3) B dL_start_23 (by decide) ?_
      exact z_iret B hr (by omega) (by omega) dL_start_24 (Or.inr ⟨z, hz, rfl⟩)
theorem tc_signal_7_IndexOutOfBoundsException : tc_ RL [(0, 19, 22, 13), (0, 19, 26, 15)] 7 "java/lang/IndexOutOfBoundsException" 22 := ⟨[], [⟨0, 19, 26, 15⟩], ⟨0, 19, 22, 13⟩, "java/lang/IndexOutOfBoundsException", rfl, fun z hz => absurd hz List.not_mem_nil, rfl, by decide, wg_712, wn_723, rfl⟩
theorem tc_signal_7_IllegalArgumentException : tc_ RL [(0, 19, 22, 13), (0, 19, 26, 15)] 7 "java/lang/IllegalArgumentException" 26 := ⟨[⟨0, 19, 22, 13⟩], [], ⟨0, 19, 26, 15⟩, "java/lang/IllegalArgumentException", rfl, fun z hz => by
  simp only [List.mem_cons, List.not_mem_nil, or_false] at hz
  subst hz
  exact ⟨by decide, _, wg_712, by decide⟩, rfl, by decide, wg_713, wn_793, rfl⟩
set_option maxRecDepth 100000 in
set_option maxHeartbeats 4000000 in
theorem wr_signal (l : Launch) (hlt : l.stackTraces = false) {g : gx_T} {σ u : sx_T} {b : Nat} {r : Sum Int32 String} {n0 : Nat} {x1 : Int32} {x2 : Int32} {x3 : Int32} (h : f_X8_signal n0 σ (b + 0) x1 x2 x3 = some (r, u)) (hT : TS g σ) (hkL : sx_K σ (b + 0) = 10) (hko : sx_K σ (b + 431) = 14) (hno : sx_N σ (b + 431) = 1) : GG g σ u ∧ Met l yL_signal (.codeWith yL_signal cL_signal 6 (some .int) [(0, 19, 22, 13), (0, 19, 26, 15)] :: lw_g) { frames := 13, cells := sx_Z u - sx_Z σ + 1, slots := sx_S u - sx_S σ + 6, locals := 328 } (va_Pc [.ref (b + 0), .int x1, .int x2, .int x3, .ref (b + 431)] (zx_w g σ)) (va_Qi (fun _ u' => WQ b u u') (zx_w g) (gx_Q g)) (sx_Z u - sx_Z σ + 1) (sx_S u - sx_S σ + 6) (gx_Q g) := by
  cases r with
  | inl r =>
    have ct := ct_X8_signal l h hT hkL
    have hk2 : sx_K u (b + 431) = 14 := k_G ct.1.1 (by decide) hko
    have hn2 : sx_N u (b + 431) = 1 := (ct.1.1.2.2.1 _ (by rw [hko]; decide)).2.trans hno
    refine ⟨ct.1.1, z_metW (by decide) (Nat.le_of_ble_eq_true rfl) (fun p e s m below meth c B hr htab => ?_)⟩
    show zx p l e _ s m _ below meth c g 6 0 0 _ _ 0 [(0, .ref (b + 0)), (1, .int x1), (2, .int x2), (3, .int x3), (4, .ref (b + 431))] []
    refine z_aload B dL_signal_0 4 rfl ?_
    refine z_iconst (v := 0) B dL_signal_2 (by decide) ?_
    refine z_aload_n B dL_signal_3 rfl 0 rfl ?_
    refine z_iload_n B dL_signal_4 rfl 1 rfl ?_
    refine z_iload_n B dL_signal_5 rfl 2 rfl ?_
    refine z_iload_n B dL_signal_6 rfl 3 rfl ?_
    refine z_cVi (As := [.int x1, .int x2, .int x3]) (rest := [.int 0, .ref (b + 431)]) B cw_L_26 cx_9 dL_signal_7 ct.2 hkL rfl ⟨Nat.le_of_ble_eq_true rfl, Nat.le_of_ble_eq_true rfl⟩ rfl (Nat.le_of_ble_eq_true rfl) ⟨(by show _ ≤ sx_Z u - sx_Z σ + 1; omega), (by show _ ≤ sx_S u - sx_S σ + 6; omega)⟩ (fun r2 u2 hu => ?_)
    obtain ⟨rfl, rfl⟩ := hu
    refine z_if_eq (tgt := 17) B dL_signal_10 (by decide) (fun _ => ?_) (fun _ => ?_)
    · refine z_lconst (v := 0) B dL_signal_17 (by decide) ?_
      refine z_last (j := 0) B hk2 rfl (in_of hn2 (vp_in_iff.mpr ⟨by decide, by decide⟩)) rfl dL_signal_18 ?_
      refine z_goto (tgt := 30) B dL_signal_19 (by decide) ?_
      refine z_iconst (v := 0) B dL_signal_30 (by decide) ?_
      exact z_iret B hr (by omega) (by omega) dL_signal_31 (Or.inl ⟨_, rfl⟩)
    · refine z_lconst (v := 1) B dL_signal_13 (by decide) ?_
      refine z_goto (tgt := 18) B dL_signal_14 (by decide) ?_
      refine z_last (j := 0) B hk2 rfl (in_of hn2 (vp_in_iff.mpr ⟨by decide, by decide⟩)) rfl dL_signal_18 ?_
      refine z_goto (tgt := 30) B dL_signal_19 (by decide) ?_
      refine z_iconst (v := 0) B dL_signal_30 (by decide) ?_
      exact z_iret B hr (by omega) (by omega) dL_signal_31 (Or.inl ⟨_, rfl⟩)
  | inr E =>
    have cx := ct_X8_signalx l hlt h hT hkL (Qc := va_Qi (S := sx_T) (fun _ _ => False) (zx_w g) (gx_Q g))
    refine ⟨cx.1, z_metW (by decide) (Nat.le_of_ble_eq_true rfl) (fun p e s m below meth c B hr htab => ?_)⟩
    show zx p l e _ s m _ below meth c g 6 0 0 _ _ 0 [(0, .ref (b + 0)), (1, .int x1), (2, .int x2), (3, .int x3), (4, .ref (b + 431))] []
    refine z_aload B dL_signal_0 4 rfl ?_
    refine z_iconst (v := 0) B dL_signal_2 (by decide) ?_
    refine z_aload_n B dL_signal_3 rfl 0 rfl ?_
    refine z_iload_n B dL_signal_4 rfl 1 rfl ?_
    refine z_iload_n B dL_signal_5 rfl 2 rfl ?_
    refine z_iload_n B dL_signal_6 rfl 3 rfl ?_
    have hE := ei_signal E u h
    rcases hE with rfl | rfl
    · refine z_cYi (As := [.int x1, .int x2, .int x3]) (rest := [.int 0, .ref (b + 431)]) B htab tc_signal_7_IndexOutOfBoundsException cw_L_26 cx_9 dL_signal_7 cx.2 hkL rfl ⟨Nat.le_of_ble_eq_true rfl, Nat.le_of_ble_eq_true rfl⟩ rfl (Nat.le_of_ble_eq_true rfl) ⟨(by show _ ≤ sx_Z u - sx_Z σ + 1; omega), (by show _ ≤ sx_S u - sx_S σ + 6; omega)⟩ (fun z q hz => ?_)
      refine z_astore (lv' := [(5, .ref q), (0, .ref (b + 0)), (1, .int x1), (2, .int x2), (3, .int x3), (4, .ref (b + 431))]) B dL_signal_22 (by decide) rfl ?_
      refine z_iconst (v := 1) B dL_signal_24 (by decide) ?_
      exact z_iret B hr (by omega) (by omega) dL_signal_25 (Or.inr ⟨z, hz, rfl⟩)
    · refine z_cYi (As := [.int x1, .int x2, .int x3]) (rest := [.int 0, .ref (b + 431)]) B htab tc_signal_7_IllegalArgumentException cw_L_26 cx_9 dL_signal_7 cx.2 hkL rfl ⟨Nat.le_of_ble_eq_true rfl, Nat.le_of_ble_eq_true rfl⟩ rfl (Nat.le_of_ble_eq_true rfl) ⟨(by show _ ≤ sx_Z u - sx_Z σ + 1; omega), (by show _ ≤ sx_S u - sx_S σ + 6; omega)⟩ (fun z q hz => ?_)
      refine z_astore (lv' := [(5, .ref q), (0, .ref (b + 0)), (1, .int x1), (2, .int x2), (3, .int x3), (4, .ref (b + 431))]) B dL_signal_26 (by decide) rfl ?_
      refine z_iconst (v := 2) B dL_signal_28 (by decide) ?_
      exact z_iret B hr (by omega) (by omega) dL_signal_29 (Or.inr ⟨z, hz, rfl⟩)
theorem tc_cancel_4_IndexOutOfBoundsException : tc_ RL [(0, 16, 19, 13)] 4 "java/lang/IndexOutOfBoundsException" 19 := ⟨[], [], ⟨0, 16, 19, 13⟩, "java/lang/IndexOutOfBoundsException", rfl, fun z hz => absurd hz List.not_mem_nil, rfl, by decide, wg_712, wn_723, rfl⟩
set_option maxRecDepth 100000 in
set_option maxHeartbeats 4000000 in
theorem wr_cancel (l : Launch) (hlt : l.stackTraces = false) {g : gx_T} {σ u : sx_T} {b : Nat} {r : Sum Int32 String} {n0 : Nat} {x1 : Int32} (h : f_X8_cancel n0 σ (b + 0) x1 = some (r, u)) (hT : TS g σ) (hkL : sx_K σ (b + 0) = 10) (hko : sx_K σ (b + 431) = 14) (hno : sx_N σ (b + 431) = 1) : GG g σ u ∧ Met l yL_cancel (.codeWith yL_cancel cL_cancel 4 (some .int) [(0, 16, 19, 13)] :: lw_g) { frames := 13, cells := sx_Z u - sx_Z σ + 1, slots := sx_S u - sx_S σ + 6, locals := 326 } (va_Pc [.ref (b + 0), .int x1, .ref (b + 431)] (zx_w g σ)) (va_Qi (fun _ u' => WQ b u u') (zx_w g) (gx_Q g)) (sx_Z u - sx_Z σ + 1) (sx_S u - sx_S σ + 6) (gx_Q g) := by
  cases r with
  | inl r =>
    have ct := ct_X8_cancel l h hT hkL
    have hk2 : sx_K u (b + 431) = 14 := k_G ct.1.1 (by decide) hko
    have hn2 : sx_N u (b + 431) = 1 := (ct.1.1.2.2.1 _ (by rw [hko]; decide)).2.trans hno
    refine ⟨ct.1.1, z_metW (by decide) (Nat.le_of_ble_eq_true rfl) (fun p e s m below meth c B hr htab => ?_)⟩
    show zx p l e _ s m _ below meth c g 4 0 0 _ _ 0 [(0, .ref (b + 0)), (1, .int x1), (2, .ref (b + 431))] []
    refine z_aload_n B dL_cancel_0 rfl 2 rfl ?_
    refine z_iconst (v := 0) B dL_cancel_1 (by decide) ?_
    refine z_aload_n B dL_cancel_2 rfl 0 rfl ?_
    refine z_iload_n B dL_cancel_3 rfl 1 rfl ?_
    refine z_cVi (As := [.int x1]) (rest := [.int 0, .ref (b + 431)]) B cw_L_30 cx_9 dL_cancel_4 ct.2 hkL rfl ⟨Nat.le_of_ble_eq_true rfl, Nat.le_of_ble_eq_true rfl⟩ rfl (Nat.le_of_ble_eq_true rfl) ⟨(by show _ ≤ sx_Z u - sx_Z σ + 1; omega), (by show _ ≤ sx_S u - sx_S σ + 6; omega)⟩ (fun r2 u2 hu => ?_)
    obtain ⟨rfl, rfl⟩ := hu
    refine z_if_eq (tgt := 14) B dL_cancel_7 (by decide) (fun _ => ?_) (fun _ => ?_)
    · refine z_lconst (v := 0) B dL_cancel_14 (by decide) ?_
      refine z_last (j := 0) B hk2 rfl (in_of hn2 (vp_in_iff.mpr ⟨by decide, by decide⟩)) rfl dL_cancel_15 ?_
      refine z_goto (tgt := 22) B dL_cancel_16 (by decide) ?_
      refine z_iconst (v := 0) B dL_cancel_22 (by decide) ?_
      exact z_iret B hr (by omega) (by omega) dL_cancel_23 (Or.inl ⟨_, rfl⟩)
    · refine z_lconst (v := 1) B dL_cancel_10 (by decide) ?_
      refine z_goto (tgt := 15) B dL_cancel_11 (by decide) ?_
      refine z_last (j := 0) B hk2 rfl (in_of hn2 (vp_in_iff.mpr ⟨by decide, by decide⟩)) rfl dL_cancel_15 ?_
      refine z_goto (tgt := 22) B dL_cancel_16 (by decide) ?_
      refine z_iconst (v := 0) B dL_cancel_22 (by decide) ?_
      exact z_iret B hr (by omega) (by omega) dL_cancel_23 (Or.inl ⟨_, rfl⟩)
  | inr E =>
    have cx := ct_X8_cancelx l hlt h hT hkL (Qc := va_Qi (S := sx_T) (fun _ _ => False) (zx_w g) (gx_Q g))
    refine ⟨cx.1, z_metW (by decide) (Nat.le_of_ble_eq_true rfl) (fun p e s m below meth c B hr htab => ?_)⟩
    show zx p l e _ s m _ below meth c g 4 0 0 _ _ 0 [(0, .ref (b + 0)), (1, .int x1), (2, .ref (b + 431))] []
    refine z_aload_n B dL_cancel_0 rfl 2 rfl ?_
    refine z_iconst (v := 0) B dL_cancel_1 (by decide) ?_
    refine z_aload_n B dL_cancel_2 rfl 0 rfl ?_
    refine z_iload_n B dL_cancel_3 rfl 1 rfl ?_
    have hE := ei_cancel E u h
    rcases hE with rfl
    · refine z_cYi (As := [.int x1]) (rest := [.int 0, .ref (b + 431)]) B htab tc_cancel_4_IndexOutOfBoundsException cw_L_30 cx_9 dL_cancel_4 cx.2 hkL rfl ⟨Nat.le_of_ble_eq_true rfl, Nat.le_of_ble_eq_true rfl⟩ rfl (Nat.le_of_ble_eq_true rfl) ⟨(by show _ ≤ sx_Z u - sx_Z σ + 1; omega), (by show _ ≤ sx_S u - sx_S σ + 6; omega)⟩ (fun z q hz => ?_)
      refine z_astore_n (lv' := [(3, .ref q), (0, .ref (b + 0)), (1, .int x1), (2, .ref (b + 431))]) B dL_cancel_19 rfl (by decide) rfl ?_
      refine z_iconst (v := 1) B dL_cancel_20 (by decide) ?_
      exact z_iret B hr (by omega) (by omega) dL_cancel_21 (Or.inr ⟨z, hz, rfl⟩)
theorem tc_reset_5_IndexOutOfBoundsException : tc_ RL [(0, 10, 13, 13), (0, 10, 17, 15), (0, 10, 21, 24)] 5 "java/lang/IndexOutOfBoundsException" 13 := ⟨[], [⟨0, 10, 17, 15⟩, ⟨0, 10, 21, 24⟩], ⟨0, 10, 13, 13⟩, "java/lang/IndexOutOfBoundsException", rfl, fun z hz => absurd hz List.not_mem_nil, rfl, by decide, wg_712, wn_723, rfl⟩
theorem tc_reset_5_IllegalArgumentException : tc_ RL [(0, 10, 13, 13), (0, 10, 17, 15), (0, 10, 21, 24)] 5 "java/lang/IllegalArgumentException" 17 := ⟨[⟨0, 10, 13, 13⟩], [⟨0, 10, 21, 24⟩], ⟨0, 10, 17, 15⟩, "java/lang/IllegalArgumentException", rfl, fun z hz => by
  simp only [List.mem_cons, List.not_mem_nil, or_false] at hz
  subst hz
  exact ⟨by decide, _, wg_712, by decide⟩, rfl, by decide, wg_713, wn_793, rfl⟩
theorem tc_reset_5_IllegalStateException : tc_ RL [(0, 10, 13, 13), (0, 10, 17, 15), (0, 10, 21, 24)] 5 "java/lang/IllegalStateException" 21 := ⟨[⟨0, 10, 13, 13⟩, ⟨0, 10, 17, 15⟩], [], ⟨0, 10, 21, 24⟩, "java/lang/IllegalStateException", rfl, fun z hz => by
  simp only [List.mem_cons, List.not_mem_nil, or_false] at hz
  rcases hz with rfl | rfl
  · exact ⟨by decide, _, wg_712, by decide⟩
  · exact ⟨by decide, _, wg_713, by decide⟩, rfl, by decide, wg_836, wn_845, rfl⟩
set_option maxRecDepth 100000 in
set_option maxHeartbeats 4000000 in
theorem wr_reset (l : Launch) (hlt : l.stackTraces = false) {g : gx_T} {σ u : sx_T} {b : Nat} {r : Sum Int32 String} {n0 : Nat} {x1 : Int32} {x2 : Int32} (h : f_X8_reset n0 σ (b + 0) x1 x2 = some (r, u)) (hT : TS g σ) (hkL : sx_K σ (b + 0) = 10) (hko : sx_K σ (b + 431) = 14) (hno : sx_N σ (b + 431) = 1) : GG g σ u ∧ Met l yL_reset (.codeWith yL_reset cL_reset 5 (some .int) [(0, 10, 13, 13), (0, 10, 17, 15), (0, 10, 21, 24)] :: lw_g) { frames := 13, cells := sx_Z u - sx_Z σ + 1, slots := sx_S u - sx_S σ + 6, locals := 329 } (va_Pc [.ref (b + 0), .int x1, .int x2, .ref (b + 431)] (zx_w g σ)) (va_Qi (fun _ u' => WQ b u u') (zx_w g) (gx_Q g)) (sx_Z u - sx_Z σ + 1) (sx_S u - sx_S σ + 6) (gx_Q g) := by
  cases r with
  | inl r =>
    have ct := ct_X8_reset l h hT hkL
    have hk2 : sx_K u (b + 431) = 14 := k_G ct.1.1 (by decide) hko
    have hn2 : sx_N u (b + 431) = 1 := (ct.1.1.2.2.1 _ (by rw [hko]; decide)).2.trans hno
    refine ⟨ct.1.1, z_metW (by decide) (Nat.le_of_ble_eq_true rfl) (fun p e s m below meth c B hr htab => ?_)⟩
    show zx p l e _ s m _ below meth c g 5 0 0 _ _ 0 [(0, .ref (b + 0)), (1, .int x1), (2, .int x2), (3, .ref (b + 431))] []
    refine z_aload_n B dL_reset_0 rfl 3 rfl ?_
    refine z_iconst (v := 0) B dL_reset_1 (by decide) ?_
    refine z_aload_n B dL_reset_2 rfl 0 rfl ?_
    refine z_iload_n B dL_reset_3 rfl 1 rfl ?_
    refine z_iload_n B dL_reset_4 rfl 2 rfl ?_
    refine z_cVi (As := [.int x1, .int x2]) (rest := [.int 0, .ref (b + 431)]) B cw_L_34 cx_9 dL_reset_5 ct.2 hkL rfl ⟨Nat.le_of_ble_eq_true rfl, Nat.le_of_ble_eq_true rfl⟩ rfl (Nat.le_of_ble_eq_true rfl) ⟨(by show _ ≤ sx_Z u - sx_Z σ + 1; omega), (by show _ ≤ sx_S u - sx_S σ + 6; omega)⟩ (fun r2 u2 hu => ?_)
    obtain ⟨rfl, rfl⟩ := hu
    refine z_i2l B dL_reset_8 rfl ?_
    refine z_last (j := 0) B hk2 rfl (in_of hn2 (vp_in_iff.mpr ⟨by decide, by decide⟩)) rfl dL_reset_9 ?_
    refine z_goto (tgt := 25) B dL_reset_10 (by decide) ?_
    refine z_iconst (v := 0) B dL_reset_25 (by decide) ?_
    exact z_iret B hr (by omega) (by omega) dL_reset_26 (Or.inl ⟨_, rfl⟩)
  | inr E =>
    have cx := ct_X8_resetx l hlt h hT hkL (Qc := va_Qi (S := sx_T) (fun _ _ => False) (zx_w g) (gx_Q g))
    refine ⟨cx.1, z_metW (by decide) (Nat.le_of_ble_eq_true rfl) (fun p e s m below meth c B hr htab => ?_)⟩
    show zx p l e _ s m _ below meth c g 5 0 0 _ _ 0 [(0, .ref (b + 0)), (1, .int x1), (2, .int x2), (3, .ref (b + 431))] []
    refine z_aload_n B dL_reset_0 rfl 3 rfl ?_
    refine z_iconst (v := 0) B dL_reset_1 (by decide) ?_
    refine z_aload_n B dL_reset_2 rfl 0 rfl ?_
    refine z_iload_n B dL_reset_3 rfl 1 rfl ?_
    refine z_iload_n B dL_reset_4 rfl 2 rfl ?_
    have hE := ei_reset E u h
    rcases hE with rfl | rfl | rfl
    · refine z_cYi (As := [.int x1, .int x2]) (rest := [.int 0, .ref (b + 431)]) B htab tc_reset_5_IndexOutOfBoundsException cw_L_34 cx_9 dL_reset_5 cx.2 hkL rfl ⟨Nat.le_of_ble_eq_true rfl, Nat.le_of_ble_eq_true rfl⟩ rfl (Nat.le_of_ble_eq_true rfl) ⟨(by show _ ≤ sx_Z u - sx_Z σ + 1; omega), (by show _ ≤ sx_S u - sx_S σ + 6; omega)⟩ (fun z q hz => ?_)
      refine z_astore (lv' := [(4, .ref q), (0, .ref (b + 0)), (1, .int x1), (2, .int x2), (3, .ref (b + 431))]) B dL_reset_13 (by decide) rfl ?_
      refine z_iconst (v := 1) B dL_reset_15 (by decide) ?_
      exact z_iret B hr (by omega) (by omega) dL_reset_16 (Or.inr ⟨z, hz, rfl⟩)
    · refine z_cYi (As := [.int x1, .int x2]) (rest := [.int 0, .ref (b + 431)]) B htab tc_reset_5_IllegalArgumentException cw_L_34 cx_9 dL_reset_5 cx.2 hkL rfl ⟨Nat.le_of_ble_eq_true rfl, Nat.le_of_ble_eq_true rfl⟩ rfl (Nat.le_of_ble_eq_true rfl) ⟨(by show _ ≤ sx_Z u - sx_Z σ + 1; omega), (by show _ ≤ sx_S u - sx_S σ + 6; omega)⟩ (fun z q hz => ?_)
      refine z_astore (lv' := [(4, .ref q), (0, .ref (b + 0)), (1, .int x1), (2, .int x2), (3, .ref (b + 431))]) B dL_reset_17 (by decide) rfl ?_
      refine z_iconst (v := 2) B dL_reset_19 (by decide) ?_
      exact z_iret B hr (by omega) (by omega) dL_reset_20 (Or.inr ⟨z, hz, rfl⟩)
    · refine z_cYi (As := [.int x1, .int x2]) (rest := [.int 0, .ref (b + 431)]) B htab tc_reset_5_IllegalStateException cw_L_34 cx_9 dL_reset_5 cx.2 hkL rfl ⟨Nat.le_of_ble_eq_true rfl, Nat.le_of_ble_eq_true rfl⟩ rfl (Nat.le_of_ble_eq_true rfl) ⟨(by show _ ≤ sx_Z u - sx_Z σ + 1; omega), (by show _ ≤ sx_S u - sx_S σ + 6; omega)⟩ (fun z q hz => ?_)
      refine z_astore (lv' := [(4, .ref q), (0, .ref (b + 0)), (1, .int x1), (2, .int x2), (3, .ref (b + 431))]) B dL_reset_21 (by decide) rfl ?_
      refine z_iconst (v := 3) B dL_reset_23 (by decide) ?_
      exact z_iret B hr (by omega) (by omega) dL_reset_24 (Or.inr ⟨z, hz, rfl⟩)
theorem tc_complete_5_IllegalArgumentException : tc_ RL [(0, 17, 20, 15)] 5 "java/lang/IllegalArgumentException" 20 := ⟨[], [], ⟨0, 17, 20, 15⟩, "java/lang/IllegalArgumentException", rfl, fun z hz => absurd hz List.not_mem_nil, rfl, by decide, wg_713, wn_793, rfl⟩
set_option maxRecDepth 100000 in
set_option maxHeartbeats 4000000 in
theorem wr_complete (l : Launch) (hlt : l.stackTraces = false) {g : gx_T} {σ u : sx_T} {b : Nat} {r : Sum Int32 String} {n0 : Nat} {x1 : Int32} {x2 : Int32} (h : f_X8_complete n0 σ (b + 0) x1 x2 = some (r, u)) (hT : TS g σ) (hkL : sx_K σ (b + 0) = 10) (hko : sx_K σ (b + 431) = 14) (hno : sx_N σ (b + 431) = 1) : GG g σ u ∧ Met l yL_complete (.codeWith yL_complete cL_complete 5 (some .int) [(0, 17, 20, 15)] :: lw_g) { frames := 12, cells := sx_Z u - sx_Z σ + 1, slots := sx_S u - sx_S σ + 6, locals := 303 } (va_Pc [.ref (b + 0), .int x1, .int x2, .ref (b + 431)] (zx_w g σ)) (va_Qi (fun _ u' => WQ b u u') (zx_w g) (gx_Q g)) (sx_Z u - sx_Z σ + 1) (sx_S u - sx_S σ + 6) (gx_Q g) := by
  cases r with
  | inl r =>
    have ct := ct_X8_complete l h hT hkL
    have hk2 : sx_K u (b + 431) = 14 := k_G ct.1.1 (by decide) hko
    have hn2 : sx_N u (b + 431) = 1 := (ct.1.1.2.2.1 _ (by rw [hko]; decide)).2.trans hno
    refine ⟨ct.1.1, z_metW (by decide) (Nat.le_of_ble_eq_true rfl) (fun p e s m below meth c B hr htab => ?_)⟩
    show zx p l e _ s m _ below meth c g 5 0 0 _ _ 0 [(0, .ref (b + 0)), (1, .int x1), (2, .int x2), (3, .ref (b + 431))] []
    refine z_aload_n B dL_complete_0 rfl 3 rfl ?_
    refine z_iconst (v := 0) B dL_complete_1 (by decide) ?_
    refine z_aload_n B dL_complete_2 rfl 0 rfl ?_
    refine z_iload_n B dL_complete_3 rfl 1 rfl ?_
    refine z_iload_n B dL_complete_4 rfl 2 rfl ?_
    refine z_cVi (As := [.int x1, .int x2]) (rest := [.int 0, .ref (b + 431)]) B cw_L_37 cx_9 dL_complete_5 ct.2 hkL rfl ⟨Nat.le_of_ble_eq_true rfl, Nat.le_of_ble_eq_true rfl⟩ rfl (Nat.le_of_ble_eq_true rfl) ⟨(by show _ ≤ sx_Z u - sx_Z σ + 1; omega), (by show _ ≤ sx_S u - sx_S σ + 6; omega)⟩ (fun r2 u2 hu => ?_)
    obtain ⟨rfl, rfl⟩ := hu
    refine z_if_eq (tgt := 15) B dL_complete_8 (by decide) (fun _ => ?_) (fun _ => ?_)
    · refine z_lconst (v := 0) B dL_complete_15 (by decide) ?_
      refine z_last (j := 0) B hk2 rfl (in_of hn2 (vp_in_iff.mpr ⟨by decide, by decide⟩)) rfl dL_complete_16 ?_
      refine z_goto (tgt := 24) B dL_complete_17 (by decide) ?_
      refine z_iconst (v := 0) B dL_complete_24 (by decide) ?_
      exact z_iret B hr (by omega) (by omega) dL_complete_25 (Or.inl ⟨_, rfl⟩)
    · refine z_lconst (v := 1) B dL_complete_11 (by decide) ?_
      refine z_goto (tgt := 16) B dL_complete_12 (by decide) ?_
      refine z_last (j := 0) B hk2 rfl (in_of hn2 (vp_in_iff.mpr ⟨by decide, by decide⟩)) rfl dL_complete_16 ?_
      refine z_goto (tgt := 24) B dL_complete_17 (by decide) ?_
      refine z_iconst (v := 0) B dL_complete_24 (by decide) ?_
      exact z_iret B hr (by omega) (by omega) dL_complete_25 (Or.inl ⟨_, rfl⟩)
  | inr E =>
    have cx := ct_X8_completex l hlt h hT hkL (Qc := va_Qi (S := sx_T) (fun _ _ => False) (zx_w g) (gx_Q g))
    refine ⟨cx.1, z_metW (by decide) (Nat.le_of_ble_eq_true rfl) (fun p e s m below meth c B hr htab => ?_)⟩
    show zx p l e _ s m _ below meth c g 5 0 0 _ _ 0 [(0, .ref (b + 0)), (1, .int x1), (2, .int x2), (3, .ref (b + 431))] []
    refine z_aload_n B dL_complete_0 rfl 3 rfl ?_
    refine z_iconst (v := 0) B dL_complete_1 (by decide) ?_
    refine z_aload_n B dL_complete_2 rfl 0 rfl ?_
    refine z_iload_n B dL_complete_3 rfl 1 rfl ?_
    refine z_iload_n B dL_complete_4 rfl 2 rfl ?_
    have hE := ei_complete E u h
    rcases hE with rfl
    · refine z_cYi (As := [.int x1, .int x2]) (rest := [.int 0, .ref (b + 431)]) B htab tc_complete_5_IllegalArgumentException cw_L_37 cx_9 dL_complete_5 cx.2 hkL rfl ⟨Nat.le_of_ble_eq_true rfl, Nat.le_of_ble_eq_true rfl⟩ rfl (Nat.le_of_ble_eq_true rfl) ⟨(by show _ ≤ sx_Z u - sx_Z σ + 1; omega), (by show _ ≤ sx_S u - sx_S σ + 6; omega)⟩ (fun z q hz => ?_)
      refine z_astore (lv' := [(4, .ref q), (0, .ref (b + 0)), (1, .int x1), (2, .int x2), (3, .ref (b + 431))]) B dL_complete_20 (by decide) rfl ?_
      refine z_iconst (v := 1) B dL_complete_22 (by decide) ?_
      exact z_iret B hr (by omega) (by omega) dL_complete_23 (Or.inr ⟨z, hz, rfl⟩)
theorem tc_tick_4_IllegalArgumentException : tc_ RL [(0, 9, 12, 15)] 4 "java/lang/IllegalArgumentException" 12 := ⟨[], [], ⟨0, 9, 12, 15⟩, "java/lang/IllegalArgumentException", rfl, fun z hz => absurd hz List.not_mem_nil, rfl, by decide, wg_713, wn_793, rfl⟩
set_option maxRecDepth 100000 in
set_option maxHeartbeats 4000000 in
theorem wr_tick (l : Launch) (hlt : l.stackTraces = false) {g : gx_T} {σ u : sx_T} {b : Nat} {r : Sum Int32 String} {n0 : Nat} {x1 : Int32} (h : f_X8_tick n0 σ (b + 0) x1 = some (r, u)) (hT : TS g σ) (hkL : sx_K σ (b + 0) = 10) (hko : sx_K σ (b + 431) = 14) (hno : sx_N σ (b + 431) = 1) : GG g σ u ∧ Met l yL_tick (.codeWith yL_tick cL_tick 4 (some .int) [(0, 9, 12, 15)] :: lw_g) { frames := 13, cells := sx_Z u - sx_Z σ + 1, slots := sx_S u - sx_S σ + 6, locals := 324 } (va_Pc [.ref (b + 0), .int x1, .ref (b + 431)] (zx_w g σ)) (va_Qi (TQk b r u) (zx_w g) (gx_Q g)) (sx_Z u - sx_Z σ + 1) (sx_S u - sx_S σ + 6) (gx_Q g) := by
  cases r with
  | inl r =>
    have ct := ct_X8_tick l h hT hkL
    have hk2 : sx_K u (b + 431) = 14 := k_G ct.1.1 (by decide) hko
    have hn2 : sx_N u (b + 431) = 1 := (ct.1.1.2.2.1 _ (by rw [hko]; decide)).2.trans hno
    refine ⟨ct.1.1, z_metW (by decide) (Nat.le_of_ble_eq_true rfl) (fun p e s m below meth c B hr htab => ?_)⟩
    show zx p l e _ s m _ below meth c g 4 0 0 _ _ 0 [(0, .ref (b + 0)), (1, .int x1), (2, .ref (b + 431))] []
    refine z_aload_n B dL_tick_0 rfl 2 rfl ?_
    refine z_iconst (v := 0) B dL_tick_1 (by decide) ?_
    refine z_aload_n B dL_tick_2 rfl 0 rfl ?_
    refine z_iload_n B dL_tick_3 rfl 1 rfl ?_
    refine z_cVi (As := [.int x1]) (rest := [.int 0, .ref (b + 431)]) B cw_L_41 cx_9 dL_tick_4 ct.2 hkL rfl ⟨Nat.le_of_ble_eq_true rfl, Nat.le_of_ble_eq_true rfl⟩ rfl (Nat.le_of_ble_eq_true rfl) ⟨(by show _ ≤ sx_Z u - sx_Z σ + 1; omega), (by show _ ≤ sx_S u - sx_S σ + 6; omega)⟩ (fun r2 u2 hu => ?_)
    obtain ⟨rfl, rfl⟩ := hu
    refine z_i2l B dL_tick_7 rfl ?_
    refine z_last (j := 0) B hk2 rfl (in_of hn2 (vp_in_iff.mpr ⟨by decide, by decide⟩)) rfl dL_tick_8 ?_
    refine z_goto (tgt := 15) B dL_tick_9 (by decide) ?_
    refine z_iconst (v := 0) B dL_tick_15 (by decide) ?_
    exact z_iret B hr (by omega) (by omega) dL_tick_16 ⟨fun y e => (by cases e; exact ⟨rfl, rfl⟩), fun E e => (by cases e)⟩
  | inr E =>
    have cx := ct_X8_tickx l hlt h hT hkL (Qc := va_Qi (S := sx_T) (fun _ _ => False) (zx_w g) (gx_Q g))
    refine ⟨cx.1, z_metW (by decide) (Nat.le_of_ble_eq_true rfl) (fun p e s m below meth c B hr htab => ?_)⟩
    show zx p l e _ s m _ below meth c g 4 0 0 _ _ 0 [(0, .ref (b + 0)), (1, .int x1), (2, .ref (b + 431))] []
    refine z_aload_n B dL_tick_0 rfl 2 rfl ?_
    refine z_iconst (v := 0) B dL_tick_1 (by decide) ?_
    refine z_aload_n B dL_tick_2 rfl 0 rfl ?_
    refine z_iload_n B dL_tick_3 rfl 1 rfl ?_
    have hE := ei_tick E u h
    rcases hE with rfl
    · refine z_cYi (As := [.int x1]) (rest := [.int 0, .ref (b + 431)]) B htab tc_tick_4_IllegalArgumentException cw_L_41 cx_9 dL_tick_4 cx.2 hkL rfl ⟨Nat.le_of_ble_eq_true rfl, Nat.le_of_ble_eq_true rfl⟩ rfl (Nat.le_of_ble_eq_true rfl) ⟨(by show _ ≤ sx_Z u - sx_Z σ + 1; omega), (by show _ ≤ sx_S u - sx_S σ + 6; omega)⟩ (fun z q hz => ?_)
      refine z_astore_n (lv' := [(3, .ref q), (0, .ref (b + 0)), (1, .int x1), (2, .ref (b + 431))]) B dL_tick_12 rfl (by decide) rfl ?_
      refine z_iconst (v := 1) B dL_tick_13 (by decide) ?_
      exact z_iret B hr (by omega) (by omega) dL_tick_14 ⟨fun y e => (by cases e), fun E e => (by cases e; exact ⟨rfl, z, hz, rfl⟩)⟩
theorem tc_state_4_IndexOutOfBoundsException : tc_ RL [(0, 9, 12, 13)] 4 "java/lang/IndexOutOfBoundsException" 12 := ⟨[], [], ⟨0, 9, 12, 13⟩, "java/lang/IndexOutOfBoundsException", rfl, fun z hz => absurd hz List.not_mem_nil, rfl, by decide, wg_712, wn_723, rfl⟩
set_option maxRecDepth 100000 in
set_option maxHeartbeats 4000000 in
theorem wr_state (l : Launch) (hlt : l.stackTraces = false) {g : gx_T} {σ u : sx_T} {b : Nat} {r : Sum Int32 String} {x1 : Int32} (h : f_X8_state σ (b + 0) x1 = some (r, u)) (hT : TS g σ) (hkL : sx_K σ (b + 0) = 10) (hko : sx_K σ (b + 431) = 14) (hno : sx_N σ (b + 431) = 1) : GG g σ u ∧ Met l yL_state (.codeWith yL_state cL_state 4 (some .int) [(0, 9, 12, 13)] :: lw_g) { frames := 8, cells := sx_Z u - sx_Z σ + 1, slots := sx_S u - sx_S σ + 6, locals := 158 } (va_Pc [.ref (b + 0), .int x1, .ref (b + 431)] (zx_w g σ)) (va_Qi (fun _ u' => WQ b u u') (zx_w g) (gx_Q g)) (sx_Z u - sx_Z σ + 1) (sx_S u - sx_S σ + 6) (gx_Q g) := by
  cases r with
  | inl r =>
    have ct := ct_X8_state l h hT hkL
    have hk2 : sx_K u (b + 431) = 14 := k_G ct.1.1 (by decide) hko
    have hn2 : sx_N u (b + 431) = 1 := (ct.1.1.2.2.1 _ (by rw [hko]; decide)).2.trans hno
    refine ⟨ct.1.1, z_metW (by decide) (Nat.le_of_ble_eq_true rfl) (fun p e s m below meth c B hr htab => ?_)⟩
    show zx p l e _ s m _ below meth c g 4 0 0 _ _ 0 [(0, .ref (b + 0)), (1, .int x1), (2, .ref (b + 431))] []
    refine z_aload_n B dL_state_0 rfl 2 rfl ?_
    refine z_iconst (v := 0) B dL_state_1 (by decide) ?_
    refine z_aload_n B dL_state_2 rfl 0 rfl ?_
    refine z_iload_n B dL_state_3 rfl 1 rfl ?_
    refine z_cVi (As := [.int x1]) (rest := [.int 0, .ref (b + 431)]) B cw_L_45 cx_9 dL_state_4 ct.2 hkL rfl ⟨Nat.le_of_ble_eq_true rfl, Nat.le_of_ble_eq_true rfl⟩ rfl (Nat.le_of_ble_eq_true rfl) ⟨(by show _ ≤ sx_Z u - sx_Z σ + 1; omega), (by show _ ≤ sx_S u - sx_S σ + 6; omega)⟩ (fun r2 u2 hu => ?_)
    obtain ⟨rfl, rfl⟩ := hu
    refine z_i2l B dL_state_7 rfl ?_
    refine z_last (j := 0) B hk2 rfl (in_of hn2 (vp_in_iff.mpr ⟨by decide, by decide⟩)) rfl dL_state_8 ?_
    refine z_goto (tgt := 15) B dL_state_9 (by decide) ?_
    refine z_iconst (v := 0) B dL_state_15 (by decide) ?_
    exact z_iret B hr (by omega) (by omega) dL_state_16 (Or.inl ⟨_, rfl⟩)
  | inr E =>
    have cx := ct_X8_statex l hlt h hT hkL (Qc := va_Qi (S := sx_T) (fun _ _ => False) (zx_w g) (gx_Q g))
    refine ⟨cx.1, z_metW (by decide) (Nat.le_of_ble_eq_true rfl) (fun p e s m below meth c B hr htab => ?_)⟩
    show zx p l e _ s m _ below meth c g 4 0 0 _ _ 0 [(0, .ref (b + 0)), (1, .int x1), (2, .ref (b + 431))] []
    refine z_aload_n B dL_state_0 rfl 2 rfl ?_
    refine z_iconst (v := 0) B dL_state_1 (by decide) ?_
    refine z_aload_n B dL_state_2 rfl 0 rfl ?_
    refine z_iload_n B dL_state_3 rfl 1 rfl ?_
    have hE := ei_state E u h
    rcases hE with rfl
    · refine z_cYi (As := [.int x1]) (rest := [.int 0, .ref (b + 431)]) B htab tc_state_4_IndexOutOfBoundsException cw_L_45 cx_9 dL_state_4 cx.2 hkL rfl ⟨Nat.le_of_ble_eq_true rfl, Nat.le_of_ble_eq_true rfl⟩ rfl (Nat.le_of_ble_eq_true rfl) ⟨(by show _ ≤ sx_Z u - sx_Z σ + 1; omega), (by show _ ≤ sx_S u - sx_S σ + 6; omega)⟩ (fun z q hz => ?_)
      refine z_astore_n (lv' := [(3, .ref q), (0, .ref (b + 0)), (1, .int x1), (2, .ref (b + 431))]) B dL_state_12 rfl (by decide) rfl ?_
      refine z_iconst (v := 1) B dL_state_13 (by decide) ?_
      exact z_iret B hr (by omega) (by omega) dL_state_14 (Or.inr ⟨z, hz, rfl⟩)
theorem tc_about_5_IndexOutOfBoundsException : tc_ RL [(0, 10, 13, 13), (0, 10, 17, 15), (0, 10, 21, 24)] 5 "java/lang/IndexOutOfBoundsException" 13 := ⟨[], [⟨0, 10, 17, 15⟩, ⟨0, 10, 21, 24⟩], ⟨0, 10, 13, 13⟩, "java/lang/IndexOutOfBoundsException", rfl, fun z hz => absurd hz List.not_mem_nil, rfl, by decide, wg_712, wn_723, rfl⟩
theorem tc_about_5_IllegalArgumentException : tc_ RL [(0, 10, 13, 13), (0, 10, 17, 15), (0, 10, 21, 24)] 5 "java/lang/IllegalArgumentException" 17 := ⟨[⟨0, 10, 13, 13⟩], [⟨0, 10, 21, 24⟩], ⟨0, 10, 17, 15⟩, "java/lang/IllegalArgumentException", rfl, fun z hz => by
  simp only [List.mem_cons, List.not_mem_nil, or_false] at hz
  subst hz
  exact ⟨by decide, _, wg_712, by decide⟩, rfl, by decide, wg_713, wn_793, rfl⟩
theorem tc_about_5_IllegalStateException : tc_ RL [(0, 10, 13, 13), (0, 10, 17, 15), (0, 10, 21, 24)] 5 "java/lang/IllegalStateException" 21 := ⟨[⟨0, 10, 13, 13⟩, ⟨0, 10, 17, 15⟩], [], ⟨0, 10, 21, 24⟩, "java/lang/IllegalStateException", rfl, fun z hz => by
  simp only [List.mem_cons, List.not_mem_nil, or_false] at hz
  rcases hz with rfl | rfl
  · exact ⟨by decide, _, wg_712, by decide⟩
  · exact ⟨by decide, _, wg_713, by decide⟩, rfl, by decide, wg_836, wn_845, rfl⟩
set_option maxRecDepth 100000 in
set_option maxHeartbeats 4000000 in
theorem wr_about (l : Launch) (hlt : l.stackTraces = false) {g : gx_T} {σ u : sx_T} {b : Nat} {r : Sum Int32 String} {n0 : Nat} {x1 : Int32} {x2 : Int32} (h : f_X8_about n0 σ (b + 0) x1 x2 = some (r, u)) (hT : TS g σ) (hkL : sx_K σ (b + 0) = 10) (hko : sx_K σ (b + 431) = 14) (hno : sx_N σ (b + 431) = 1) : GG g σ u ∧ Met l yL_about (.codeWith yL_about cL_about 5 (some .int) [(0, 10, 13, 13), (0, 10, 17, 15), (0, 10, 21, 24)] :: lw_g) { frames := 8, cells := sx_Z u - sx_Z σ + 1, slots := sx_S u - sx_S σ + 6, locals := 160 } (va_Pc [.ref (b + 0), .int x1, .int x2, .ref (b + 431)] (zx_w g σ)) (va_Qi (fun _ u' => WQ b u u') (zx_w g) (gx_Q g)) (sx_Z u - sx_Z σ + 1) (sx_S u - sx_S σ + 6) (gx_Q g) := by
  cases r with
  | inl r =>
    have ct := ct_X8_about l h hT hkL
    have hk2 : sx_K u (b + 431) = 14 := k_G ct.1.1 (by decide) hko
    have hn2 : sx_N u (b + 431) = 1 := (ct.1.1.2.2.1 _ (by rw [hko]; decide)).2.trans hno
    refine ⟨ct.1.1, z_metW (by decide) (Nat.le_of_ble_eq_true rfl) (fun p e s m below meth c B hr htab => ?_)⟩
    show zx p l e _ s m _ below meth c g 5 0 0 _ _ 0 [(0, .ref (b + 0)), (1, .int x1), (2, .int x2), (3, .ref (b + 431))] []
    refine z_aload_n B dL_about_0 rfl 3 rfl ?_
    refine z_iconst (v := 0) B dL_about_1 (by decide) ?_
    refine z_aload_n B dL_about_2 rfl 0 rfl ?_
    refine z_iload_n B dL_about_3 rfl 1 rfl ?_
    refine z_iload_n B dL_about_4 rfl 2 rfl ?_
    refine z_cVi (As := [.int x1, .int x2]) (rest := [.int 0, .ref (b + 431)]) B cw_L_48 cx_9 dL_about_5 ct.2 hkL rfl ⟨Nat.le_of_ble_eq_true rfl, Nat.le_of_ble_eq_true rfl⟩ rfl (Nat.le_of_ble_eq_true rfl) ⟨(by show _ ≤ sx_Z u - sx_Z σ + 1; omega), (by show _ ≤ sx_S u - sx_S σ + 6; omega)⟩ (fun r2 u2 hu => ?_)
    obtain ⟨rfl, rfl⟩ := hu
    refine z_i2l B dL_about_8 rfl ?_
    refine z_last (j := 0) B hk2 rfl (in_of hn2 (vp_in_iff.mpr ⟨by decide, by decide⟩)) rfl dL_about_9 ?_
    refine z_goto (tgt := 25) B dL_about_10 (by decide) ?_
    refine z_iconst (v := 0) B dL_about_25 (by decide) ?_
    exact z_iret B hr (by omega) (by omega) dL_about_26 (Or.inl ⟨_, rfl⟩)
  | inr E =>
    have cx := ct_X8_aboutx l hlt h hT hkL (Qc := va_Qi (S := sx_T) (fun _ _ => False) (zx_w g) (gx_Q g))
    refine ⟨cx.1, z_metW (by decide) (Nat.le_of_ble_eq_true rfl) (fun p e s m below meth c B hr htab => ?_)⟩
    show zx p l e _ s m _ below meth c g 5 0 0 _ _ 0 [(0, .ref (b + 0)), (1, .int x1), (2, .int x2), (3, .ref (b + 431))] []
    refine z_aload_n B dL_about_0 rfl 3 rfl ?_
    refine z_iconst (v := 0) B dL_about_1 (by decide) ?_
    refine z_aload_n B dL_about_2 rfl 0 rfl ?_
    refine z_iload_n B dL_about_3 rfl 1 rfl ?_
    refine z_iload_n B dL_about_4 rfl 2 rfl ?_
    have hE := ei_about E u h
    rcases hE with rfl | rfl | rfl
    · refine z_cYi (As := [.int x1, .int x2]) (rest := [.int 0, .ref (b + 431)]) B htab tc_about_5_IndexOutOfBoundsException cw_L_48 cx_9 dL_about_5 cx.2 hkL rfl ⟨Nat.le_of_ble_eq_true rfl, Nat.le_of_ble_eq_true rfl⟩ rfl (Nat.le_of_ble_eq_true rfl) ⟨(by show _ ≤ sx_Z u - sx_Z σ + 1; omega), (by show _ ≤ sx_S u - sx_S σ + 6; omega)⟩ (fun z q hz => ?_)
      refine z_astore (lv' := [(4, .ref q), (0, .ref (b + 0)), (1, .int x1), (2, .int x2), (3, .ref (b + 431))]) B dL_about_13 (by decide) rfl ?_
      refine z_iconst (v := 1) B dL_about_15 (by decide) ?_
      exact z_iret B hr (by omega) (by omega) dL_about_16 (Or.inr ⟨z, hz, rfl⟩)
    · refine z_cYi (As := [.int x1, .int x2]) (rest := [.int 0, .ref (b + 431)]) B htab tc_about_5_IllegalArgumentException cw_L_48 cx_9 dL_about_5 cx.2 hkL rfl ⟨Nat.le_of_ble_eq_true rfl, Nat.le_of_ble_eq_true rfl⟩ rfl (Nat.le_of_ble_eq_true rfl) ⟨(by show _ ≤ sx_Z u - sx_Z σ + 1; omega), (by show _ ≤ sx_S u - sx_S σ + 6; omega)⟩ (fun z q hz => ?_)
      refine z_astore (lv' := [(4, .ref q), (0, .ref (b + 0)), (1, .int x1), (2, .int x2), (3, .ref (b + 431))]) B dL_about_17 (by decide) rfl ?_
      refine z_iconst (v := 2) B dL_about_19 (by decide) ?_
      exact z_iret B hr (by omega) (by omega) dL_about_20 (Or.inr ⟨z, hz, rfl⟩)
    · refine z_cYi (As := [.int x1, .int x2]) (rest := [.int 0, .ref (b + 431)]) B htab tc_about_5_IllegalStateException cw_L_48 cx_9 dL_about_5 cx.2 hkL rfl ⟨Nat.le_of_ble_eq_true rfl, Nat.le_of_ble_eq_true rfl⟩ rfl (Nat.le_of_ble_eq_true rfl) ⟨(by show _ ≤ sx_Z u - sx_Z σ + 1; omega), (by show _ ≤ sx_S u - sx_S σ + 6; omega)⟩ (fun z q hz => ?_)
      refine z_astore (lv' := [(4, .ref q), (0, .ref (b + 0)), (1, .int x1), (2, .int x2), (3, .ref (b + 431))]) B dL_about_21 (by decide) rfl ?_
      refine z_iconst (v := 3) B dL_about_23 (by decide) ?_
      exact z_iret B hr (by omega) (by omega) dL_about_24 (Or.inr ⟨z, hz, rfl⟩)
theorem tc_aboutAnew_5_IndexOutOfBoundsException : tc_ RL [(0, 10, 13, 13), (0, 10, 17, 15), (0, 10, 21, 24)] 5 "java/lang/IndexOutOfBoundsException" 13 := ⟨[], [⟨0, 10, 17, 15⟩, ⟨0, 10, 21, 24⟩], ⟨0, 10, 13, 13⟩, "java/lang/IndexOutOfBoundsException", rfl, fun z hz => absurd hz List.not_mem_nil, rfl, by decide, wg_712, wn_723, rfl⟩
theorem tc_aboutAnew_5_IllegalArgumentException : tc_ RL [(0, 10, 13, 13), (0, 10, 17, 15), (0, 10, 21, 24)] 5 "java/lang/IllegalArgumentException" 17 := ⟨[⟨0, 10, 13, 13⟩], [⟨0, 10, 21, 24⟩], ⟨0, 10, 17, 15⟩, "java/lang/IllegalArgumentException", rfl, fun z hz => by
  simp only [List.mem_cons, List.not_mem_nil, or_false] at hz
  subst hz
  exact ⟨by decide, _, wg_712, by decide⟩, rfl, by decide, wg_713, wn_793, rfl⟩
theorem tc_aboutAnew_5_IllegalStateException : tc_ RL [(0, 10, 13, 13), (0, 10, 17, 15), (0, 10, 21, 24)] 5 "java/lang/IllegalStateException" 21 := ⟨[⟨0, 10, 13, 13⟩, ⟨0, 10, 17, 15⟩], [], ⟨0, 10, 21, 24⟩, "java/lang/IllegalStateException", rfl, fun z hz => by
  simp only [List.mem_cons, List.not_mem_nil, or_false] at hz
  rcases hz with rfl | rfl
  · exact ⟨by decide, _, wg_712, by decide⟩
  · exact ⟨by decide, _, wg_713, by decide⟩, rfl, by decide, wg_836, wn_845, rfl⟩
set_option maxRecDepth 100000 in
set_option maxHeartbeats 4000000 in
theorem wr_aboutAnew (l : Launch) (hlt : l.stackTraces = false) {g : gx_T} {σ u : sx_T} {b : Nat} {r : Sum Int32 String} {n0 : Nat} {x1 : Int32} {x2 : Int32} (h : f_X8_aboutAnew n0 σ (b + 0) x1 x2 = some (r, u)) (hT : TS g σ) (hkL : sx_K σ (b + 0) = 10) (hko : sx_K σ (b + 431) = 14) (hno : sx_N σ (b + 431) = 1) : GG g σ u ∧ Met l yL_aboutAnew (.codeWith yL_aboutAnew cL_aboutAnew 5 (some .int) [(0, 10, 13, 13), (0, 10, 17, 15), (0, 10, 21, 24)] :: lw_g) { frames := 8, cells := sx_Z u - sx_Z σ + 1, slots := sx_S u - sx_S σ + 6, locals := 160 } (va_Pc [.ref (b + 0), .int x1, .int x2, .ref (b + 431)] (zx_w g σ)) (va_Qi (fun _ u' => WQ b u u') (zx_w g) (gx_Q g)) (sx_Z u - sx_Z σ + 1) (sx_S u - sx_S σ + 6) (gx_Q g) := by
  cases r with
  | inl r =>
    have ct := ct_X8_aboutAnew l h hT hkL
    have hk2 : sx_K u (b + 431) = 14 := k_G ct.1.1 (by decide) hko
    have hn2 : sx_N u (b + 431) = 1 := (ct.1.1.2.2.1 _ (by rw [hko]; decide)).2.trans hno
    refine ⟨ct.1.1, z_metW (by decide) (Nat.le_of_ble_eq_true rfl) (fun p e s m below meth c B hr htab => ?_)⟩
    show zx p l e _ s m _ below meth c g 5 0 0 _ _ 0 [(0, .ref (b + 0)), (1, .int x1), (2, .int x2), (3, .ref (b + 431))] []
    refine z_aload_n B dL_aboutAnew_0 rfl 3 rfl ?_
    refine z_iconst (v := 0) B dL_aboutAnew_1 (by decide) ?_
    refine z_aload_n B dL_aboutAnew_2 rfl 0 rfl ?_
    refine z_iload_n B dL_aboutAnew_3 rfl 1 rfl ?_
    refine z_iload_n B dL_aboutAnew_4 rfl 2 rfl ?_
    refine z_cVi (As := [.int x1, .int x2]) (rest := [.int 0, .ref (b + 431)]) B cw_L_51 cx_9 dL_aboutAnew_5 ct.2 hkL rfl ⟨Nat.le_of_ble_eq_true rfl, Nat.le_of_ble_eq_true rfl⟩ rfl (Nat.le_of_ble_eq_true rfl) ⟨(by show _ ≤ sx_Z u - sx_Z σ + 1; omega), (by show _ ≤ sx_S u - sx_S σ + 6; omega)⟩ (fun r2 u2 hu => ?_)
    obtain ⟨rfl, rfl⟩ := hu
    refine z_i2l B dL_aboutAnew_8 rfl ?_
    refine z_last (j := 0) B hk2 rfl (in_of hn2 (vp_in_iff.mpr ⟨by decide, by decide⟩)) rfl dL_aboutAnew_9 ?_
    refine z_goto (tgt := 25) B dL_aboutAnew_10 (by decide) ?_
    refine z_iconst (v := 0) B dL_aboutAnew_25 (by decide) ?_
    exact z_iret B hr (by omega) (by omega) dL_aboutAnew_26 (Or.inl ⟨_, rfl⟩)
  | inr E =>
    have cx := ct_X8_aboutAnewx l hlt h hT hkL (Qc := va_Qi (S := sx_T) (fun _ _ => False) (zx_w g) (gx_Q g))
    refine ⟨cx.1, z_metW (by decide) (Nat.le_of_ble_eq_true rfl) (fun p e s m below meth c B hr htab => ?_)⟩
    show zx p l e _ s m _ below meth c g 5 0 0 _ _ 0 [(0, .ref (b + 0)), (1, .int x1), (2, .int x2), (3, .ref (b + 431))] []
    refine z_aload_n B dL_aboutAnew_0 rfl 3 rfl ?_
    refine z_iconst (v := 0) B dL_aboutAnew_1 (by decide) ?_
    refine z_aload_n B dL_aboutAnew_2 rfl 0 rfl ?_
    refine z_iload_n B dL_aboutAnew_3 rfl 1 rfl ?_
    refine z_iload_n B dL_aboutAnew_4 rfl 2 rfl ?_
    have hE := ei_aboutAnew E u h
    rcases hE with rfl | rfl | rfl
    · refine z_cYi (As := [.int x1, .int x2]) (rest := [.int 0, .ref (b + 431)]) B htab tc_aboutAnew_5_IndexOutOfBoundsException cw_L_51 cx_9 dL_aboutAnew_5 cx.2 hkL rfl ⟨Nat.le_of_ble_eq_true rfl, Nat.le_of_ble_eq_true rfl⟩ rfl (Nat.le_of_ble_eq_true rfl) ⟨(by show _ ≤ sx_Z u - sx_Z σ + 1; omega), (by show _ ≤ sx_S u - sx_S σ + 6; omega)⟩ (fun z q hz => ?_)
      refine z_astore (lv' := [(4, .ref q), (0, .ref (b + 0)), (1, .int x1), (2, .int x2), (3, .ref (b + 431))]) B dL_aboutAnew_13 (by decide) rfl ?_
      refine z_iconst (v := 1) B dL_aboutAnew_15 (by decide) ?_
      exact z_iret B hr (by omega) (by omega) dL_aboutAnew_16 (Or.inr ⟨z, hz, rfl⟩)
    · refine z_cYi (As := [.int x1, .int x2]) (rest := [.int 0, .ref (b + 431)]) B htab tc_aboutAnew_5_IllegalArgumentException cw_L_51 cx_9 dL_aboutAnew_5 cx.2 hkL rfl ⟨Nat.le_of_ble_eq_true rfl, Nat.le_of_ble_eq_true rfl⟩ rfl (Nat.le_of_ble_eq_true rfl) ⟨(by show _ ≤ sx_Z u - sx_Z σ + 1; omega), (by show _ ≤ sx_S u - sx_S σ + 6; omega)⟩ (fun z q hz => ?_)
      refine z_astore (lv' := [(4, .ref q), (0, .ref (b + 0)), (1, .int x1), (2, .int x2), (3, .ref (b + 431))]) B dL_aboutAnew_17 (by decide) rfl ?_
      refine z_iconst (v := 2) B dL_aboutAnew_19 (by decide) ?_
      exact z_iret B hr (by omega) (by omega) dL_aboutAnew_20 (Or.inr ⟨z, hz, rfl⟩)
    · refine z_cYi (As := [.int x1, .int x2]) (rest := [.int 0, .ref (b + 431)]) B htab tc_aboutAnew_5_IllegalStateException cw_L_51 cx_9 dL_aboutAnew_5 cx.2 hkL rfl ⟨Nat.le_of_ble_eq_true rfl, Nat.le_of_ble_eq_true rfl⟩ rfl (Nat.le_of_ble_eq_true rfl) ⟨(by show _ ≤ sx_Z u - sx_Z σ + 1; omega), (by show _ ≤ sx_S u - sx_S σ + 6; omega)⟩ (fun z q hz => ?_)
      refine z_astore (lv' := [(4, .ref q), (0, .ref (b + 0)), (1, .int x1), (2, .int x2), (3, .ref (b + 431))]) B dL_aboutAnew_21 (by decide) rfl ?_
      refine z_iconst (v := 3) B dL_aboutAnew_23 (by decide) ?_
      exact z_iret B hr (by omega) (by omega) dL_aboutAnew_24 (Or.inr ⟨z, hz, rfl⟩)
theorem tc_parent_4_IndexOutOfBoundsException : tc_ RL [(0, 9, 12, 13)] 4 "java/lang/IndexOutOfBoundsException" 12 := ⟨[], [], ⟨0, 9, 12, 13⟩, "java/lang/IndexOutOfBoundsException", rfl, fun z hz => absurd hz List.not_mem_nil, rfl, by decide, wg_712, wn_723, rfl⟩
set_option maxRecDepth 100000 in
set_option maxHeartbeats 4000000 in
theorem wr_parent (l : Launch) (hlt : l.stackTraces = false) {g : gx_T} {σ u : sx_T} {b : Nat} {r : Sum Int32 String} {x1 : Int32} (h : f_X8_parent σ (b + 0) x1 = some (r, u)) (hT : TS g σ) (hkL : sx_K σ (b + 0) = 10) (hko : sx_K σ (b + 431) = 14) (hno : sx_N σ (b + 431) = 1) : GG g σ u ∧ Met l yL_parent (.codeWith yL_parent cL_parent 4 (some .int) [(0, 9, 12, 13)] :: lw_g) { frames := 8, cells := sx_Z u - sx_Z σ + 1, slots := sx_S u - sx_S σ + 6, locals := 158 } (va_Pc [.ref (b + 0), .int x1, .ref (b + 431)] (zx_w g σ)) (va_Qi (fun _ u' => WQ b u u') (zx_w g) (gx_Q g)) (sx_Z u - sx_Z σ + 1) (sx_S u - sx_S σ + 6) (gx_Q g) := by
  cases r with
  | inl r =>
    have ct := ct_X8_parent l h hT hkL
    have hk2 : sx_K u (b + 431) = 14 := k_G ct.1.1 (by decide) hko
    have hn2 : sx_N u (b + 431) = 1 := (ct.1.1.2.2.1 _ (by rw [hko]; decide)).2.trans hno
    refine ⟨ct.1.1, z_metW (by decide) (Nat.le_of_ble_eq_true rfl) (fun p e s m below meth c B hr htab => ?_)⟩
    show zx p l e _ s m _ below meth c g 4 0 0 _ _ 0 [(0, .ref (b + 0)), (1, .int x1), (2, .ref (b + 431))] []
    refine z_aload_n B dL_parent_0 rfl 2 rfl ?_
    refine z_iconst (v := 0) B dL_parent_1 (by decide) ?_
    refine z_aload_n B dL_parent_2 rfl 0 rfl ?_
    refine z_iload_n B dL_parent_3 rfl 1 rfl ?_
    refine z_cVi (As := [.int x1]) (rest := [.int 0, .ref (b + 431)]) B cw_L_54 cx_9 dL_parent_4 ct.2 hkL rfl ⟨Nat.le_of_ble_eq_true rfl, Nat.le_of_ble_eq_true rfl⟩ rfl (Nat.le_of_ble_eq_true rfl) ⟨(by show _ ≤ sx_Z u - sx_Z σ + 1; omega), (by show _ ≤ sx_S u - sx_S σ + 6; omega)⟩ (fun r2 u2 hu => ?_)
    obtain ⟨rfl, rfl⟩ := hu
    refine z_i2l B dL_parent_7 rfl ?_
    refine z_last (j := 0) B hk2 rfl (in_of hn2 (vp_in_iff.mpr ⟨by decide, by decide⟩)) rfl dL_parent_8 ?_
    refine z_goto (tgt := 15) B dL_parent_9 (by decide) ?_
    refine z_iconst (v := 0) B dL_parent_15 (by decide) ?_
    exact z_iret B hr (by omega) (by omega) dL_parent_16 (Or.inl ⟨_, rfl⟩)
  | inr E =>
    have cx := ct_X8_parentx l hlt h hT hkL (Qc := va_Qi (S := sx_T) (fun _ _ => False) (zx_w g) (gx_Q g))
    refine ⟨cx.1, z_metW (by decide) (Nat.le_of_ble_eq_true rfl) (fun p e s m below meth c B hr htab => ?_)⟩
    show zx p l e _ s m _ below meth c g 4 0 0 _ _ 0 [(0, .ref (b + 0)), (1, .int x1), (2, .ref (b + 431))] []
    refine z_aload_n B dL_parent_0 rfl 2 rfl ?_
    refine z_iconst (v := 0) B dL_parent_1 (by decide) ?_
    refine z_aload_n B dL_parent_2 rfl 0 rfl ?_
    refine z_iload_n B dL_parent_3 rfl 1 rfl ?_
    have hE := ei_parent E u h
    rcases hE with rfl
    · refine z_cYi (As := [.int x1]) (rest := [.int 0, .ref (b + 431)]) B htab tc_parent_4_IndexOutOfBoundsException cw_L_54 cx_9 dL_parent_4 cx.2 hkL rfl ⟨Nat.le_of_ble_eq_true rfl, Nat.le_of_ble_eq_true rfl⟩ rfl (Nat.le_of_ble_eq_true rfl) ⟨(by show _ ≤ sx_Z u - sx_Z σ + 1; omega), (by show _ ≤ sx_S u - sx_S σ + 6; omega)⟩ (fun z q hz => ?_)
      refine z_astore_n (lv' := [(3, .ref q), (0, .ref (b + 0)), (1, .int x1), (2, .ref (b + 431))]) B dL_parent_12 rfl (by decide) rfl ?_
      refine z_iconst (v := 1) B dL_parent_13 (by decide) ?_
      exact z_iret B hr (by omega) (by omega) dL_parent_14 (Or.inr ⟨z, hz, rfl⟩)
theorem tc_events_4_IndexOutOfBoundsException : tc_ RL [(0, 9, 12, 13)] 4 "java/lang/IndexOutOfBoundsException" 12 := ⟨[], [], ⟨0, 9, 12, 13⟩, "java/lang/IndexOutOfBoundsException", rfl, fun z hz => absurd hz List.not_mem_nil, rfl, by decide, wg_712, wn_723, rfl⟩
set_option maxRecDepth 100000 in
set_option maxHeartbeats 4000000 in
theorem wr_events (l : Launch) (hlt : l.stackTraces = false) {g : gx_T} {σ u : sx_T} {b : Nat} {r : Sum Int32 String} {x1 : Int32} (h : f_X8_events σ (b + 0) x1 = some (r, u)) (hT : TS g σ) (hkL : sx_K σ (b + 0) = 10) (hko : sx_K σ (b + 431) = 14) (hno : sx_N σ (b + 431) = 1) : GG g σ u ∧ Met l yL_events (.codeWith yL_events cL_events 4 (some .int) [(0, 9, 12, 13)] :: lw_g) { frames := 8, cells := sx_Z u - sx_Z σ + 1, slots := sx_S u - sx_S σ + 6, locals := 158 } (va_Pc [.ref (b + 0), .int x1, .ref (b + 431)] (zx_w g σ)) (va_Qi (fun _ u' => WQ b u u') (zx_w g) (gx_Q g)) (sx_Z u - sx_Z σ + 1) (sx_S u - sx_S σ + 6) (gx_Q g) := by
  cases r with
  | inl r =>
    have ct := ct_X8_events l h hT hkL
    have hk2 : sx_K u (b + 431) = 14 := k_G ct.1.1 (by decide) hko
    have hn2 : sx_N u (b + 431) = 1 := (ct.1.1.2.2.1 _ (by rw [hko]; decide)).2.trans hno
    refine ⟨ct.1.1, z_metW (by decide) (Nat.le_of_ble_eq_true rfl) (fun p e s m below meth c B hr htab => ?_)⟩
    show zx p l e _ s m _ below meth c g 4 0 0 _ _ 0 [(0, .ref (b + 0)), (1, .int x1), (2, .ref (b + 431))] []
    refine z_aload_n B dL_events_0 rfl 2 rfl ?_
    refine z_iconst (v := 0) B dL_events_1 (by decide) ?_
    refine z_aload_n B dL_events_2 rfl 0 rfl ?_
    refine z_iload_n B dL_events_3 rfl 1 rfl ?_
    refine z_cVi (As := [.int x1]) (rest := [.int 0, .ref (b + 431)]) B cw_L_57 cx_9 dL_events_4 ct.2 hkL rfl ⟨Nat.le_of_ble_eq_true rfl, Nat.le_of_ble_eq_true rfl⟩ rfl (Nat.le_of_ble_eq_true rfl) ⟨(by show _ ≤ sx_Z u - sx_Z σ + 1; omega), (by show _ ≤ sx_S u - sx_S σ + 6; omega)⟩ (fun r2 u2 hu => ?_)
    obtain ⟨rfl, rfl⟩ := hu
    refine z_i2l B dL_events_7 rfl ?_
    refine z_last (j := 0) B hk2 rfl (in_of hn2 (vp_in_iff.mpr ⟨by decide, by decide⟩)) rfl dL_events_8 ?_
    refine z_goto (tgt := 15) B dL_events_9 (by decide) ?_
    refine z_iconst (v := 0) B dL_events_15 (by decide) ?_
    exact z_iret B hr (by omega) (by omega) dL_events_16 (Or.inl ⟨_, rfl⟩)
  | inr E =>
    have cx := ct_X8_eventsx l hlt h hT hkL (Qc := va_Qi (S := sx_T) (fun _ _ => False) (zx_w g) (gx_Q g))
    refine ⟨cx.1, z_metW (by decide) (Nat.le_of_ble_eq_true rfl) (fun p e s m below meth c B hr htab => ?_)⟩
    show zx p l e _ s m _ below meth c g 4 0 0 _ _ 0 [(0, .ref (b + 0)), (1, .int x1), (2, .ref (b + 431))] []
    refine z_aload_n B dL_events_0 rfl 2 rfl ?_
    refine z_iconst (v := 0) B dL_events_1 (by decide) ?_
    refine z_aload_n B dL_events_2 rfl 0 rfl ?_
    refine z_iload_n B dL_events_3 rfl 1 rfl ?_
    have hE := ei_events E u h
    rcases hE with rfl
    · refine z_cYi (As := [.int x1]) (rest := [.int 0, .ref (b + 431)]) B htab tc_events_4_IndexOutOfBoundsException cw_L_57 cx_9 dL_events_4 cx.2 hkL rfl ⟨Nat.le_of_ble_eq_true rfl, Nat.le_of_ble_eq_true rfl⟩ rfl (Nat.le_of_ble_eq_true rfl) ⟨(by show _ ≤ sx_Z u - sx_Z σ + 1; omega), (by show _ ≤ sx_S u - sx_S σ + 6; omega)⟩ (fun z q hz => ?_)
      refine z_astore_n (lv' := [(3, .ref q), (0, .ref (b + 0)), (1, .int x1), (2, .ref (b + 431))]) B dL_events_12 rfl (by decide) rfl ?_
      refine z_iconst (v := 1) B dL_events_13 (by decide) ?_
      exact z_iret B hr (by omega) (by omega) dL_events_14 (Or.inr ⟨z, hz, rfl⟩)
theorem tc_kind_5_IndexOutOfBoundsException : tc_ RL [(0, 10, 13, 13)] 5 "java/lang/IndexOutOfBoundsException" 13 := ⟨[], [], ⟨0, 10, 13, 13⟩, "java/lang/IndexOutOfBoundsException", rfl, fun z hz => absurd hz List.not_mem_nil, rfl, by decide, wg_712, wn_723, rfl⟩
set_option maxRecDepth 100000 in
set_option maxHeartbeats 4000000 in
theorem wr_kind (l : Launch) (hlt : l.stackTraces = false) {g : gx_T} {σ u : sx_T} {b : Nat} {r : Sum Int32 String} {x1 : Int32} {x2 : Int32} (h : f_X8_kind σ (b + 0) x1 x2 = some (r, u)) (hT : TS g σ) (hkL : sx_K σ (b + 0) = 10) (hko : sx_K σ (b + 431) = 14) (hno : sx_N σ (b + 431) = 1) : GG g σ u ∧ Met l yL_kind (.codeWith yL_kind cL_kind 5 (some .int) [(0, 10, 13, 13)] :: lw_g) { frames := 8, cells := sx_Z u - sx_Z σ + 1, slots := sx_S u - sx_S σ + 6, locals := 159 } (va_Pc [.ref (b + 0), .int x1, .int x2, .ref (b + 431)] (zx_w g σ)) (va_Qi (fun _ u' => WQ b u u') (zx_w g) (gx_Q g)) (sx_Z u - sx_Z σ + 1) (sx_S u - sx_S σ + 6) (gx_Q g) := by
  cases r with
  | inl r =>
    have ct := ct_X8_kind l h hT hkL
    have hk2 : sx_K u (b + 431) = 14 := k_G ct.1.1 (by decide) hko
    have hn2 : sx_N u (b + 431) = 1 := (ct.1.1.2.2.1 _ (by rw [hko]; decide)).2.trans hno
    refine ⟨ct.1.1, z_metW (by decide) (Nat.le_of_ble_eq_true rfl) (fun p e s m below meth c B hr htab => ?_)⟩
    show zx p l e _ s m _ below meth c g 5 0 0 _ _ 0 [(0, .ref (b + 0)), (1, .int x1), (2, .int x2), (3, .ref (b + 431))] []
    refine z_aload_n B dL_kind_0 rfl 3 rfl ?_
    refine z_iconst (v := 0) B dL_kind_1 (by decide) ?_
    refine z_aload_n B dL_kind_2 rfl 0 rfl ?_
    refine z_iload_n B dL_kind_3 rfl 1 rfl ?_
    refine z_iload_n B dL_kind_4 rfl 2 rfl ?_
    refine z_cVi (As := [.int x1, .int x2]) (rest := [.int 0, .ref (b + 431)]) B cw_L_60 cx_9 dL_kind_5 ct.2 hkL rfl ⟨Nat.le_of_ble_eq_true rfl, Nat.le_of_ble_eq_true rfl⟩ rfl (Nat.le_of_ble_eq_true rfl) ⟨(by show _ ≤ sx_Z u - sx_Z σ + 1; omega), (by show _ ≤ sx_S u - sx_S σ + 6; omega)⟩ (fun r2 u2 hu => ?_)
    obtain ⟨rfl, rfl⟩ := hu
    refine z_i2l B dL_kind_8 rfl ?_
    refine z_last (j := 0) B hk2 rfl (in_of hn2 (vp_in_iff.mpr ⟨by decide, by decide⟩)) rfl dL_kind_9 ?_
    refine z_goto (tgt := 17) B dL_kind_10 (by decide) ?_
    refine z_iconst (v := 0) B dL_kind_17 (by decide) ?_
    exact z_iret B hr (by omega) (by omega) dL_kind_18 (Or.inl ⟨_, rfl⟩)
  | inr E =>
    have cx := ct_X8_kindx l hlt h hT hkL (Qc := va_Qi (S := sx_T) (fun _ _ => False) (zx_w g) (gx_Q g))
    refine ⟨cx.1, z_metW (by decide) (Nat.le_of_ble_eq_true rfl) (fun p e s m below meth c B hr htab => ?_)⟩
    show zx p l e _ s m _ below meth c g 5 0 0 _ _ 0 [(0, .ref (b + 0)), (1, .int x1), (2, .int x2), (3, .ref (b + 431))] []
    refine z_aload_n B dL_kind_0 rfl 3 rfl ?_
    refine z_iconst (v := 0) B dL_kind_1 (by decide) ?_
    refine z_aload_n B dL_kind_2 rfl 0 rfl ?_
    refine z_iload_n B dL_kind_3 rfl 1 rfl ?_
    refine z_iload_n B dL_kind_4 rfl 2 rfl ?_
    have hE := ei_kind E u h
    rcases hE with rfl
    · refine z_cYi (As := [.int x1, .int x2]) (rest := [.int 0, .ref (b + 431)]) B htab tc_kind_5_IndexOutOfBoundsException cw_L_60 cx_9 dL_kind_5 cx.2 hkL rfl ⟨Nat.le_of_ble_eq_true rfl, Nat.le_of_ble_eq_true rfl⟩ rfl (Nat.le_of_ble_eq_true rfl) ⟨(by show _ ≤ sx_Z u - sx_Z σ + 1; omega), (by show _ ≤ sx_S u - sx_S σ + 6; omega)⟩ (fun z q hz => ?_)
      refine z_astore (lv' := [(4, .ref q), (0, .ref (b + 0)), (1, .int x1), (2, .int x2), (3, .ref (b + 431))]) B dL_kind_13 (by decide) rfl ?_
      refine z_iconst (v := 1) B dL_kind_15 (by decide) ?_
      exact z_iret B hr (by omega) (by omega) dL_kind_16 (Or.inr ⟨z, hz, rfl⟩)
theorem tc_number_5_IndexOutOfBoundsException : tc_ RL [(0, 9, 12, 13)] 5 "java/lang/IndexOutOfBoundsException" 12 := ⟨[], [], ⟨0, 9, 12, 13⟩, "java/lang/IndexOutOfBoundsException", rfl, fun z hz => absurd hz List.not_mem_nil, rfl, by decide, wg_712, wn_723, rfl⟩
set_option maxRecDepth 100000 in
set_option maxHeartbeats 4000000 in
theorem wr_number (l : Launch) (hlt : l.stackTraces = false) {g : gx_T} {σ u : sx_T} {b : Nat} {r : Sum Int64 String} {x1 : Int32} {x2 : Int32} (h : f_X8_number σ (b + 0) x1 x2 = some (r, u)) (hT : TS g σ) (hkL : sx_K σ (b + 0) = 10) (hko : sx_K σ (b + 431) = 14) (hno : sx_N σ (b + 431) = 1) : GG g σ u ∧ Met l yL_number (.codeWith yL_number cL_number 5 (some .int) [(0, 9, 12, 13)] :: lw_g) { frames := 8, cells := sx_Z u - sx_Z σ + 1, slots := sx_S u - sx_S σ + 6, locals := 159 } (va_Pc [.ref (b + 0), .int x1, .int x2, .ref (b + 431)] (zx_w g σ)) (va_Qi (fun _ u' => WQ b u u') (zx_w g) (gx_Q g)) (sx_Z u - sx_Z σ + 1) (sx_S u - sx_S σ + 6) (gx_Q g) := by
  cases r with
  | inl r =>
    have ct := ct_X8_number l h hT hkL
    have hk2 : sx_K u (b + 431) = 14 := k_G ct.1.1 (by decide) hko
    have hn2 : sx_N u (b + 431) = 1 := (ct.1.1.2.2.1 _ (by rw [hko]; decide)).2.trans hno
    refine ⟨ct.1.1, z_metW (by decide) (Nat.le_of_ble_eq_true rfl) (fun p e s m below meth c B hr htab => ?_)⟩
    show zx p l e _ s m _ below meth c g 5 0 0 _ _ 0 [(0, .ref (b + 0)), (1, .int x1), (2, .int x2), (3, .ref (b + 431))] []
    refine z_aload_n B dL_number_0 rfl 3 rfl ?_
    refine z_iconst (v := 0) B dL_number_1 (by decide) ?_
    refine z_aload_n B dL_number_2 rfl 0 rfl ?_
    refine z_iload_n B dL_number_3 rfl 1 rfl ?_
    refine z_iload_n B dL_number_4 rfl 2 rfl ?_
    refine z_cVl (As := [.int x1, .int x2]) (rest := [.int 0, .ref (b + 431)]) B cw_L_63 cx_9 dL_number_5 ct.2 hkL rfl ⟨Nat.le_of_ble_eq_true rfl, Nat.le_of_ble_eq_true rfl⟩ rfl (Nat.le_of_ble_eq_true rfl) ⟨(by show _ ≤ sx_Z u - sx_Z σ + 1; omega), (by show _ ≤ sx_S u - sx_S σ + 6; omega)⟩ (fun r2 u2 hu => ?_)
    obtain ⟨rfl, rfl⟩ := hu
    refine z_last (j := 0) B hk2 rfl (in_of hn2 (vp_in_iff.mpr ⟨by decide, by decide⟩)) rfl dL_number_8 ?_
    refine z_goto (tgt := 16) B dL_number_9 (by decide) ?_
    refine z_iconst (v := 0) B dL_number_16 (by decide) ?_
    exact z_iret B hr (by omega) (by omega) dL_number_17 (Or.inl ⟨_, rfl⟩)
  | inr E =>
    have cx := ct_X8_numberx l hlt h hT hkL (Qc := va_Ql (S := sx_T) (fun _ _ => False) (zx_w g) (gx_Q g))
    refine ⟨cx.1, z_metW (by decide) (Nat.le_of_ble_eq_true rfl) (fun p e s m below meth c B hr htab => ?_)⟩
    show zx p l e _ s m _ below meth c g 5 0 0 _ _ 0 [(0, .ref (b + 0)), (1, .int x1), (2, .int x2), (3, .ref (b + 431))] []
    refine z_aload_n B dL_number_0 rfl 3 rfl ?_
    refine z_iconst (v := 0) B dL_number_1 (by decide) ?_
    refine z_aload_n B dL_number_2 rfl 0 rfl ?_
    refine z_iload_n B dL_number_3 rfl 1 rfl ?_
    refine z_iload_n B dL_number_4 rfl 2 rfl ?_
    have hE := ei_number E u h
    rcases hE with rfl
    · refine z_cYl (As := [.int x1, .int x2]) (rest := [.int 0, .ref (b + 431)]) B htab tc_number_5_IndexOutOfBoundsException cw_L_63 cx_9 dL_number_5 cx.2 hkL rfl ⟨Nat.le_of_ble_eq_true rfl, Nat.le_of_ble_eq_true rfl⟩ rfl (Nat.le_of_ble_eq_true rfl) ⟨(by show _ ≤ sx_Z u - sx_Z σ + 1; omega), (by show _ ≤ sx_S u - sx_S σ + 6; omega)⟩ (fun z q hz => ?_)
      refine z_astore (lv' := [(4, .ref q), (0, .ref (b + 0)), (1, .int x1), (2, .int x2), (3, .ref (b + 431))]) B dL_number_12 (by decide) rfl ?_
      refine z_iconst (v := 1) B dL_number_14 (by decide) ?_
      exact z_iret B hr (by omega) (by omega) dL_number_15 (Or.inr ⟨z, hz, rfl⟩)
theorem tc_task_5_IndexOutOfBoundsException : tc_ RL [(0, 10, 13, 13), (0, 10, 17, 15)] 5 "java/lang/IndexOutOfBoundsException" 13 := ⟨[], [⟨0, 10, 17, 15⟩], ⟨0, 10, 13, 13⟩, "java/lang/IndexOutOfBoundsException", rfl, fun z hz => absurd hz List.not_mem_nil, rfl, by decide, wg_712, wn_723, rfl⟩
theorem tc_task_5_IllegalArgumentException : tc_ RL [(0, 10, 13, 13), (0, 10, 17, 15)] 5 "java/lang/IllegalArgumentException" 17 := ⟨[⟨0, 10, 13, 13⟩], [], ⟨0, 10, 17, 15⟩, "java/lang/IllegalArgumentException", rfl, fun z hz => by
  simp only [List.mem_cons, List.not_mem_nil, or_false] at hz
  subst hz
  exact ⟨by decide, _, wg_712, by decide⟩, rfl, by decide, wg_713, wn_793, rfl⟩
set_option maxRecDepth 100000 in
set_option maxHeartbeats 4000000 in
theorem wr_task (l : Launch) (hlt : l.stackTraces = false) {g : gx_T} {σ u : sx_T} {b : Nat} {r : Sum Int32 String} {x1 : Int32} {x2 : Int32} (h : f_X8_task σ (b + 0) x1 x2 = some (r, u)) (hT : TS g σ) (hkL : sx_K σ (b + 0) = 10) (hko : sx_K σ (b + 431) = 14) (hno : sx_N σ (b + 431) = 1) : GG g σ u ∧ Met l yL_task (.codeWith yL_task cL_task 5 (some .int) [(0, 10, 13, 13), (0, 10, 17, 15)] :: lw_g) { frames := 8, cells := sx_Z u - sx_Z σ + 1, slots := sx_S u - sx_S σ + 6, locals := 159 } (va_Pc [.ref (b + 0), .int x1, .int x2, .ref (b + 431)] (zx_w g σ)) (va_Qi (fun _ u' => WQ b u u') (zx_w g) (gx_Q g)) (sx_Z u - sx_Z σ + 1) (sx_S u - sx_S σ + 6) (gx_Q g) := by
  cases r with
  | inl r =>
    have ct := ct_X8_task l h hT hkL
    have hk2 : sx_K u (b + 431) = 14 := k_G ct.1.1 (by decide) hko
    have hn2 : sx_N u (b + 431) = 1 := (ct.1.1.2.2.1 _ (by rw [hko]; decide)).2.trans hno
    refine ⟨ct.1.1, z_metW (by decide) (Nat.le_of_ble_eq_true rfl) (fun p e s m below meth c B hr htab => ?_)⟩
    show zx p l e _ s m _ below meth c g 5 0 0 _ _ 0 [(0, .ref (b + 0)), (1, .int x1), (2, .int x2), (3, .ref (b + 431))] []
    refine z_aload_n B dL_task_0 rfl 3 rfl ?_
    refine z_iconst (v := 0) B dL_task_1 (by decide) ?_
    refine z_aload_n B dL_task_2 rfl 0 rfl ?_
    refine z_iload_n B dL_task_3 rfl 1 rfl ?_
    refine z_iload_n B dL_task_4 rfl 2 rfl ?_
    refine z_cVi (As := [.int x1, .int x2]) (rest := [.int 0, .ref (b + 431)]) B cw_L_67 cx_9 dL_task_5 ct.2 hkL rfl ⟨Nat.le_of_ble_eq_true rfl, Nat.le_of_ble_eq_true rfl⟩ rfl (Nat.le_of_ble_eq_true rfl) ⟨(by show _ ≤ sx_Z u - sx_Z σ + 1; omega), (by show _ ≤ sx_S u - sx_S σ + 6; omega)⟩ (fun r2 u2 hu => ?_)
    obtain ⟨rfl, rfl⟩ := hu
    refine z_i2l B dL_task_8 rfl ?_
    refine z_last (j := 0) B hk2 rfl (in_of hn2 (vp_in_iff.mpr ⟨by decide, by decide⟩)) rfl dL_task_9 ?_
    refine z_goto (tgt := 21) B dL_task_10 (by decide) ?_
    refine z_iconst (v := 0) B dL_task_21 (by decide) ?_
    exact z_iret B hr (by omega) (by omega) dL_task_22 (Or.inl ⟨_, rfl⟩)
  | inr E =>
    have cx := ct_X8_taskx l hlt h hT hkL (Qc := va_Qi (S := sx_T) (fun _ _ => False) (zx_w g) (gx_Q g))
    refine ⟨cx.1, z_metW (by decide) (Nat.le_of_ble_eq_true rfl) (fun p e s m below meth c B hr htab => ?_)⟩
    show zx p l e _ s m _ below meth c g 5 0 0 _ _ 0 [(0, .ref (b + 0)), (1, .int x1), (2, .int x2), (3, .ref (b + 431))] []
    refine z_aload_n B dL_task_0 rfl 3 rfl ?_
    refine z_iconst (v := 0) B dL_task_1 (by decide) ?_
    refine z_aload_n B dL_task_2 rfl 0 rfl ?_
    refine z_iload_n B dL_task_3 rfl 1 rfl ?_
    refine z_iload_n B dL_task_4 rfl 2 rfl ?_
    have hE := ei_task E u h
    rcases hE with rfl | rfl
    · refine z_cYi (As := [.int x1, .int x2]) (rest := [.int 0, .ref (b + 431)]) B htab tc_task_5_IndexOutOfBoundsException cw_L_67 cx_9 dL_task_5 cx.2 hkL rfl ⟨Nat.le_of_ble_eq_true rfl, Nat.le_of_ble_eq_true rfl⟩ rfl (Nat.le_of_ble_eq_true rfl) ⟨(by show _ ≤ sx_Z u - sx_Z σ + 1; omega), (by show _ ≤ sx_S u - sx_S σ + 6; omega)⟩ (fun z q hz => ?_)
      refine z_astore (lv' := [(4, .ref q), (0, .ref (b + 0)), (1, .int x1), (2, .int x2), (3, .ref (b + 431))]) B dL_task_13 (by decide) rfl ?_
      refine z_iconst (v := 1) B dL_task_15 (by decide) ?_
      exact z_iret B hr (by omega) (by omega) dL_task_16 (Or.inr ⟨z, hz, rfl⟩)
    · refine z_cYi (As := [.int x1, .int x2]) (rest := [.int 0, .ref (b + 431)]) B htab tc_task_5_IllegalArgumentException cw_L_67 cx_9 dL_task_5 cx.2 hkL rfl ⟨Nat.le_of_ble_eq_true rfl, Nat.le_of_ble_eq_true rfl⟩ rfl (Nat.le_of_ble_eq_true rfl) ⟨(by show _ ≤ sx_Z u - sx_Z σ + 1; omega), (by show _ ≤ sx_S u - sx_S σ + 6; omega)⟩ (fun z q hz => ?_)
      refine z_astore (lv' := [(4, .ref q), (0, .ref (b + 0)), (1, .int x1), (2, .int x2), (3, .ref (b + 431))]) B dL_task_17 (by decide) rfl ?_
      refine z_iconst (v := 2) B dL_task_19 (by decide) ?_
      exact z_iret B hr (by omega) (by omega) dL_task_20 (Or.inr ⟨z, hz, rfl⟩)
