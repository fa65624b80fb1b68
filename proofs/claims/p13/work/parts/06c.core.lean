/-! the law's own wrappers: methods with a table of handlers -/
def wx_SW (own : String) (index : Nat) (y : MethodName) (bytes : ByteArray) (maxL : Nat) (ret : Option FieldType) (hh : List (Nat × Nat × Nat × Nat)) (n : Nat) : Prop := (Cond.methodLink own index y ∈ lw_g ∧ Cond.static y ∈ lw_g ∧ Cond.initialized y.cls ∈ lw_g ∧ Cond.codeWith y bytes maxL ret hh ∈ lw_g) ∧ (y.cls ≠ "java/lang/invoke/MethodHandle" ∧ y.cls ≠ "java/lang/invoke/VarHandle" ∧ (parseMethodDescriptor y.desc).map (fun d => d.parameters.length) = some n)
theorem gw_in {own : String} {index maxL n : Nat} {y : MethodName} {bytes : ByteArray} {ret : Option FieldType} {hh : List (Nat × Nat × Nat × Nat)} (h : wx_SW own index y bytes maxL ret hh n) : GoodIn lw_g (va_wsS own index y (.codeWith y bytes maxL ret hh :: lw_g)) := gi_of (by
  intro w hw
  obtain ⟨⟨h1, h2, h3, h4⟩, -⟩ := h
  simp only [va_wsS, List.cons_append, List.nil_append, List.mem_cons] at hw
  rcases hw with rfl | rfl | rfl | rfl | hw
  · exact h1
  · exact h2
  · exact h3
  · exact h4
  · exact hw)
/-- which handler takes a class that is thrown at pc -/
def tc_ (own : String) (hh : List (Nat × Nat × Nat × Nat)) (pc : Nat) (E : String) (hpc : Nat) : Prop := ∃ (pre suf : List ExceptionTableEntry) (x : ExceptionTableEntry) (nm : String), tableOf hh = pre ++ x :: suf ∧ (∀ z ∈ pre, z.catchType ≠ 0 ∧ ∃ nm : String, Cond.classLink own z.catchType nm ∈ lw_g ∧ (E, nm) ∈ lx_nc) ∧ covers x pc = true ∧ x.catchType ≠ 0 ∧ Cond.classLink own x.catchType nm ∈ lw_g ∧ Cond.castable E nm ∈ lw_n ∧ x.handlerPc = hpc
section ZWRAP
variable {p : Program} {l : Launch} {e : Env} {R : Room} {s : State} {m : MethodId} {args : Array Value} {below : List Frame} {meth : Method} {c : Code} {g : gx_T} {nL cells slots : Nat} {Q : State → Prop} {σ σ' : sx_T} {pc : Nat} {lv lv' : List (Nat × Value)} {st : List Value} {cc : ByteArray} {own : String}
theorem z_cSWi (B : zx_B p s m args meth c cc own nL g) {index maxL n fr lo mc ms : Nat} {y : MethodName} {bytes : ByteArray} {ret : Option FieldType} {hh : List (Nat × Nat × Nat × Nat)} {As rest : List Value} {post : Int32 → sx_T → Prop} (hw : wx_SW own index y bytes maxL ret hh n) (hd : decode cc pc = .ok (.invokestatic index, 3)) (hmet : Met l y (.codeWith y bytes maxL ret hh :: lw_g) { frames := fr, cells := mc, slots := ms, locals := lo } (va_Pc As (zx_w g σ)) (va_Qi post (zx_w g) (gx_Q g)) mc ms (gx_Q g)) (hn : As.length = n) (hR : fr + 1 ≤ R.frames ∧ 8 + (maxL + 11) + lo ≤ R.locals) (hst : st = As.reverse ++ rest) (hrm : (rest.map fun v => v.category).sum ≤ 8) (hf : cells + mc ≤ R.cells ∧ slots + ms ≤ R.slots) (kk : ∀ (r : Int32) (u : sx_T), post r u → zx p l e R s m args below meth c g nL (cells + mc) (slots + ms) Q u (pc + 3) lv (.int r :: rest)) : zx p l e R s m args below meth c g nL cells slots Q σ pc lv st := by
  subst hst
  intro H locs ls hM hl
  exact va_calli (vx_runSW (rest := rest) (As := As) ⟨B.1, B.2.1, B.2.2.1, B.2.2.2.1, B.2.2.2.2.1⟩ hmet (vx_cwSW n B.2.2.2.2.1 (gw_in hw) rfl rfl rfl hw.2 hR) (zp_s B.2.2.2.2.2.2.1 hM) rfl hn hl.1 rfl (lv_room hrm) hd hf) hM.2 (fun q _ h => h) (fun q h => h) (fun r u t H1 locs1 ht hvm hp hB hz hk hS => kk r u hp H1 locs1 ls ⟨ht ▸ hB.2, hS⟩ hl)
theorem z_cXi (B : zx_B p s m args meth c cc own nL g) {ci N index maxL n fr lo a hpc : Nat} {C E : String} {T : u_T} {ty0 : Nat → FieldType} {y : MethodName} {bytes : ByteArray} {ret : Option FieldType} {As rest : List Value} {hh : List (Nat × Nat × Nat × Nat)} (htab : c.exceptionTable.toList = tableOf hh) (hcat : tc_ own hh pc E hpc) (hw : wx_V own index C y bytes maxL ret n) (hC : cx_ok ci C T N ty0) (hd : decode cc pc = .ok (.invokevirtual index, 3)) (hmet : vx_Met l y (.code y bytes maxL ret :: lw_g) { frames := fr, cells := 1, slots := 6, locals := lo } (va_Pc (.ref a :: As) (zx_w g σ)) (va_Qi (S := sx_T) (fun _ _ => False) (zx_w g) (gx_Q g)) (vx_X (fun u : sx_T => ∃ z, u = wx_Z σ z) (fun E' u t => E' = E ∧ zx_h g u t.heap) (gx_Q g)) 1 6 (gx_Q g)) (hKa : sx_K σ a = ci + 1) (hn : As.length = n) (hR : fr + 1 ≤ R.frames ∧ 8 + (maxL + 11) + lo ≤ R.locals) (hst : st = As.reverse ++ .ref a :: rest) (hrm : (rest.map fun v => v.category).sum ≤ 8) (hf : cells + 1 ≤ R.cells ∧ slots + 6 ≤ R.slots) (kk : ∀ (z : Nat) (q : Nat), zx p l e R s m args below meth c g nL (cells + 1) (slots + 6) Q (wx_Z σ z) hpc lv [.ref q]) : zx p l e R s m args below meth c g nL cells slots Q σ pc lv st := by
  subst hst
  intro H locs ls hM hl
  obtain ⟨pre, suf, x, nm, hs1, hs2, hs3, hs4, hs5, hs6, rfl⟩ := hcat
  exact vx_calli (vx_runV (rest := rest) (As := As) ⟨B.1, B.2.1, B.2.2.1, B.2.2.2.1, B.2.2.2.2.1⟩ hmet (cwV n B.2.2.2.2.1 (gv_in hw) rfl rfl rfl hw.2 hR) (zp_v B.2.2.2.2.2.2.1 hM hC hKa) rfl hn hl.1 rfl (lv_room hrm) hd hf) hM.2 (fun q _ h => h) (fun q h => h) (fun q _ h => h)
    (fun E' ce q9 u t H1 locs1 ht hvm hp hB hz hk hS hce hcv hcl => by
      obtain ⟨z, rfl⟩ := hp
      obtain ⟨rfl, hh1⟩ := hB
      exact vx_catch B.2.2.2.1 pre x suf (htab.trans hs1) (fun w hw => Or.inr ⟨(hs2 w hw).1, (hs2 w hw).2.choose, B.2.2.2.2.1 _ (hs2 w hw).2.choose_spec.1, B.2.2.2.2.2.2.1.2.2.2.2.2.2.1 _ (hs2 w hw).2.choose_spec.2⟩) hs3 hs4 (B.2.2.2.2.1 _ hs5) (va_Nw.use rfl (B.2.2.2.2.2.2.1.2.1 _ hs6)) hce hcv hcl (kk z q9 H1 locs1 ls ⟨ht ▸ hh1, hS⟩ hl))
    (fun r u t H1 locs1 ht hvm hp hB hz hk hS => hp.elim)
theorem z_cXl (B : zx_B p s m args meth c cc own nL g) {ci N index maxL n fr lo a hpc : Nat} {C E : String} {T : u_T} {ty0 : Nat → FieldType} {y : MethodName} {bytes : ByteArray} {ret : Option FieldType} {As rest : List Value} {hh : List (Nat × Nat × Nat × Nat)} (htab : c.exceptionTable.toList = tableOf hh) (hcat : tc_ own hh pc E hpc) (hw : wx_V own index C y bytes maxL ret n) (hC : cx_ok ci C T N ty0) (hd : decode cc pc = .ok (.invokevirtual index, 3)) (hmet : vx_Met l y (.code y bytes maxL ret :: lw_g) { frames := fr, cells := 1, slots := 6, locals := lo } (va_Pc (.ref a :: As) (zx_w g σ)) (va_Ql (S := sx_T) (fun _ _ => False) (zx_w g) (gx_Q g)) (vx_X (fun u : sx_T => ∃ z, u = wx_Z σ z) (fun E' u t => E' = E ∧ zx_h g u t.heap) (gx_Q g)) 1 6 (gx_Q g)) (hKa : sx_K σ a = ci + 1) (hn : As.length = n) (hR : fr + 1 ≤ R.frames ∧ 8 + (maxL + 11) + lo ≤ R.locals) (hst : st = As.reverse ++ .ref a :: rest) (hrm : (rest.map fun v => v.category).sum ≤ 8) (hf : cells + 1 ≤ R.cells ∧ slots + 6 ≤ R.slots) (kk : ∀ (z : Nat) (q : Nat), zx p l e R s m args below meth c g nL (cells + 1) (slots + 6) Q (wx_Z σ z) hpc lv [.ref q]) : zx p l e R s m args below meth c g nL cells slots Q σ pc lv st := by
  subst hst
  intro H locs ls hM hl
  obtain ⟨pre, suf, x, nm, hs1, hs2, hs3, hs4, hs5, hs6, rfl⟩ := hcat
  exact vx_calll (vx_runV (rest := rest) (As := As) ⟨B.1, B.2.1, B.2.2.1, B.2.2.2.1, B.2.2.2.2.1⟩ hmet (cwV n B.2.2.2.2.1 (gv_in hw) rfl rfl rfl hw.2 hR) (zp_v B.2.2.2.2.2.2.1 hM hC hKa) rfl hn hl.1 rfl (lv_room hrm) hd hf) hM.2 (fun q _ h => h) (fun q h => h) (fun q _ h => h)
    (fun E' ce q9 u t H1 locs1 ht hvm hp hB hz hk hS hce hcv hcl => by
      obtain ⟨z, rfl⟩ := hp
      obtain ⟨rfl, hh1⟩ := hB
      exact vx_catch B.2.2.2.1 pre x suf (htab.trans hs1) (fun w hw => Or.inr ⟨(hs2 w hw).1, (hs2 w hw).2.choose, B.2.2.2.2.1 _ (hs2 w hw).2.choose_spec.1, B.2.2.2.2.2.2.1.2.2.2.2.2.2.1 _ (hs2 w hw).2.choose_spec.2⟩) hs3 hs4 (B.2.2.2.2.1 _ hs5) (va_Nw.use rfl (B.2.2.2.2.2.2.1.2.1 _ hs6)) hce hcv hcl (kk z q9 H1 locs1 ls ⟨ht ▸ hh1, hS⟩ hl))
    (fun r u t H1 locs1 ht hvm hp hB hz hk hS => hp.elim)
/-- the law's script -/
theorem z_sld (B : zx_B p s m args meth c cc own nL g) {bS L j : Nat} {xs : Nat → Int32} (hX : va_X bS L xs s s.heap) (hbl : bS < s.heap.size) (hbA : ¬ gx_b g ≤ bS) {i : Int32} (hj : i.toNatClampNeg = j) (hin : vp_in i L) {x : Int32} (hx : xs j = x) (hd : decode cc pc = .ok (.iaload, 1)) (kk : zx p l e R s m args below meth c g nL cells slots Q σ (pc + 1) lv (.int x :: st)) : zx p l e R s m args below meth c g nL cells slots Q σ pc lv (.int i :: .ref bS :: st) := by
  intro H locs ls hM hl
  refine va_sld B.1 B.2.1 hX hbl hbA hM.2 hin hd ?_
  rw [hj, hx]
  exact kk H locs ls hM hl
theorem z_slen (B : zx_B p s m args meth c cc own nL g) {bS L : Nat} {xs : Nat → Int32} (hX : va_X bS L xs s s.heap) (hbl : bS < s.heap.size) (hbA : ¬ gx_b g ≤ bS) {v : Int32} (hv : Int32.ofNat L = v) (hd : decode cc pc = .ok (.arraylength, 1)) (kk : zx p l e R s m args below meth c g nL cells slots Q σ (pc + 1) lv (.int v :: st)) : zx p l e R s m args below meth c g nL cells slots Q σ pc lv (.ref bS :: st) := by
  intro H locs ls hM hl
  refine va_slen B.1 B.2.1 hX hbl hbA hM.2 hd ?_
  rw [hv]
  exact kk H locs ls hM hl
end ZWRAP
theorem z_metW {y : MethodName} {cc : ByteArray} {maxL fr lo mc ms : Nat} {ret : Option FieldType} {hh : List (Nat × Nat × Nat × Nat)} {l : Launch} {As : List Value} {g : gx_T} {σ : sx_T} {Qc : Array Value → State → Outcome → State → Prop} (hy : plainName y.cls = true) (hlen : (lg_sl As).length ≤ maxL)
    (body : ∀ (p : Program) (e : Env) (s : State) (m : MethodId) (below : List Frame) (meth : Method) (c : Code), zx_B p s m As.toArray meth c cc y.cls maxL g → meth.sig.returnType = ret → c.exceptionTable.toList = tableOf hh → zx p l e { frames := fr, cells := mc, slots := ms, locals := lo } s m As.toArray below meth c g maxL 0 0 (MQ below Qc As.toArray s mc ms (gx_Q g)) σ 0 (lv_args 0 As) []) :
    Met l y (.codeWith y cc maxL ret hh :: lw_g) { frames := fr, cells := mc, slots := ms, locals := lo } (va_Pc As (zx_w g σ)) Qc mc ms (gx_Q g) := by
  refine MetFree.of_bodyS (code := cc) (maxLocals := maxL) (ret := ret) hy ?_ ?_
  · intro args s m h hn
    obtain ⟨m9, meth, c, hn9, h1, h2, h3, h4, -, h5, h6, -⟩ := Cond.codeWith_spec (atoms_spec (ws := .codeWith y cc maxL ret hh :: lw_g) h _ List.mem_cons_self)
    cases hn.symm.trans hn9
    exact ⟨meth, c, h1, h2, h3, h4, h5, h6⟩
  · intro p e s m args below meth c s₁ B hml hv _
    obtain ⟨rfl, hk, hh1⟩ := hv
    have hh0 : s₁.heap = s.heap := by rw [B.state]; rfl
    have hts := atoms_spec (ws := .codeWith y cc maxL ret hh :: lw_g) B.pre
    have htab := vx_table (x := y) B (hts _ List.mem_cons_self)
    have K := body p e s m below meth c ⟨B.exec, B.bytes, hml, findClass_of_methodNamed B.named, fun w hw => hts w (List.mem_cons_of_mem _ hw), B.notSynchronized, hk, hh1.2.1⟩ B.returns htab s.heap [] _ ⟨hh1, va_S.rf⟩ (lv_entry As hlen)
    rw [← lg_entry_eq] at K
    obtain ⟨t, a1, o, b1, b2, b3⟩ := K s₁ hh0 (Stand.of_body B)
    exact ⟨t, o, a1, b1, b2, ⟨b3.1, b3.2⟩⟩
/-! through the layers of a store -/
theorem ap_nil {b : Nat} {σ : sx_T} : σ = ap b σ [] [] [] := rfl
theorem hk_K {b : Nat} {σ : sx_T} (h : lay b σ) (o : Nat) {k : Nat} (ho : Nat.blt o 432 = true) (hv : lay_K o = k) : sx_K σ (b + o) = k := (h o (Nat.le_of_ble_eq_true ho)).1.trans hv
theorem hk_N {b : Nat} {σ : sx_T} (h : lay b σ) (o : Nat) {k : Nat} (ho : Nat.blt o 432 = true) (hv : lay_N o = k) : sx_N σ (b + o) = k := (h o (Nat.le_of_ble_eq_true ho)).2.trans hv
theorem lKA {b a k : Nat} {τ : sx_T} {li : List (Nat × Nat × Int32)} {lj : List (Nat × Nat × Int64)} {lr : List (Nat × Nat × Option Nat)} (h : sx_K τ a = k) : sx_K (ap b τ li lj lr) a = k := h
theorem lNA {b a k : Nat} {τ : sx_T} {li : List (Nat × Nat × Int32)} {lj : List (Nat × Nat × Int64)} {lr : List (Nat × Nat × Option Nat)} (h : sx_N τ a = k) : sx_N (ap b τ li lj lr) a = k := h
theorem lyA {b b' : Nat} {τ : sx_T} {li : List (Nat × Nat × Int32)} {lj : List (Nat × Nat × Int64)} {lr : List (Nat × Nat × Option Nat)} (h : lay b τ) : lay b (ap b' τ li lj lr) := fun o ho => h o ho
theorem lKW {a k a' i : Nat} {x : Int32} {τ : sx_T} (h : sx_K τ a = k) : sx_K (wx_I τ a' i x) a = k := h
theorem lNW {a k a' i : Nat} {x : Int32} {τ : sx_T} (h : sx_N τ a = k) : sx_N (wx_I τ a' i x) a = k := h
theorem lyW {b a' i : Nat} {x : Int32} {τ : sx_T} (h : lay b τ) : lay b (wx_I τ a' i x) := fun o ho => h o ho
theorem lKZ {a k z : Nat} {τ : sx_T} (h : sx_K τ a = k) : sx_K (wx_Z τ z) a = k := h
theorem lNZ {a k z : Nat} {τ : sx_T} (h : sx_N τ a = k) : sx_N (wx_Z τ z) a = k := h
theorem lyZ {b z : Nat} {τ : sx_T} (h : lay b τ) : lay b (wx_Z τ z) := fun o ho => h o ho
theorem lIZ {a k z : Nat} {v : Int32} {τ : sx_T} (h : sx_I τ a k = v) : sx_I (wx_Z τ z) a k = v := h
theorem lJZ {a k z : Nat} {v : Int64} {τ : sx_T} (h : sx_J τ a k = v) : sx_J (wx_Z τ z) a k = v := h
theorem lRZ {a k z : Nat} {v : Option Nat} {τ : sx_T} (h : sx_R τ a k = v) : sx_R (wx_Z τ z) a k = v := h
