set_option maxRecDepth 100000 in
theorem wt_51 : Cond.laysStatic "java/util/ArrayList" "DEFAULTCAPACITY_EMPTY_ELEMENTDATA" "[Ljava/lang/Object;" ∈ lw_tbl := List.mem_append_right _ (List.mem_of_getElem? (i := 51) rfl)
set_option maxRecDepth 100000 in
theorem wt_748 : Cond.laysStatic "java/lang/Throwable" "UNASSIGNED_STACK" "[Ljava/lang/StackTraceElement;" ∈ lw_tbl := List.mem_append_right _ (List.mem_of_getElem? (i := 748) rfl)
set_option maxRecDepth 100000 in
theorem wt_750 : Cond.laysStatic "java/lang/Throwable" "SUPPRESSED_SENTINEL" "Ljava/util/List;" ∈ lw_tbl := List.mem_append_right _ (List.mem_of_getElem? (i := 750) rfl)
set_option maxRecDepth 100000 in
theorem wt_4 : Cond.initialized "java/util/ArrayList" ∈ lw_tbl := List.mem_append_right _ (List.mem_of_getElem? (i := 4) rfl)
set_option maxRecDepth 100000 in
theorem wt_13 : Cond.initialized "java/lang/Throwable" ∈ lw_tbl := List.mem_append_right _ (List.mem_of_getElem? (i := 13) rfl)
set_option maxRecDepth 100000 in
set_option maxHeartbeats 4000000 in
theorem law_head {p : Program} {l : Launch} {e : Env} {s : State} {m : MethodId} {args : Array Value} {below : List Frame} {meth : Method} {c : Code} {g : gx_T} {Q : State → Prop} {b bS : Nat} {xs : Nat → Int32} (B : zx_B p s m args meth c code RL 8 g) {σ : sx_T} (hz : sx_Z σ = b + 0) (kk : ∀ (t : Nat) (σ' : sx_T), fz_P b t σ' → zx p l e room_1 s m args below meth c g 8 500 100000 Q σ' 23 [(4, .int 0), (3, .ref (b + 431)), (2, .ref (b + 405)), (1, .ref (b + 0)), (0, .ref bS)] []) : zx p l e room_1 s m args below meth c g 8 0 0 Q σ 0 [(0, .ref bS)] [] := by
  refine z_newo (a := b + 0) (σ' := wx_N σ 10 0) B cx_9 df_9 wg_26 (by decide) (by decide) dL_law_0 hz rfl ?_
  generalize hτ : wx_N σ 10 0 = τ
  have hz1 : sx_Z τ = b + 1 := by rw [← hτ, zz_N, hz]
  have h0 : cf τ (b + 0) 10 0 (fun _ => 0) (fun _ => none) := by
    rw [← hτ]
    exact cf_N0 hz
  refine z_dup B dL_law_3 rfl ?_
  refine z_cI (As := []) (rest := [.ref (b + 0)]) B cw_L_70 dL_law_4 (ct_main l hz1 h0) rfl (by decide) rfl (Nat.le_of_ble_eq_true rfl) (by decide) (fun u hu => ?_)
  obtain ⟨t, hP⟩ := hu
  clear hτ hz1 h0 hz
  refine z_astore_n (lv' := [(1, .ref (b + 0)), (0, .ref bS)]) B dL_law_7 rfl (by decide) rfl ?_
  refine z_newo (a := b + 405) (σ' := wx_N u 11 0) B cx_10 df_10 wg_1040 (by decide) (by decide) dL_law_8 hP.1 rfl ?_
  generalize hτ2 : wx_N u 11 0 = τ2
  have hz2 : sx_Z τ2 = b + 406 := by rw [← hτ2, zz_N, hP.1]
  have k_405 : sx_K τ2 (b + 405) = 11 := by
    rw [← hτ2]
    exact (cf_N0 (kd := 11) (n := 0) hP.1).1
  refine z_dup B dL_law_11 rfl ?_
  refine z_cI (As := []) (rest := [.ref (b + 405)]) B cw_L_73 dL_law_12 (ct_X9_init_21 l (σ := τ2) (b := b) hz2 k_405) rfl (by decide) rfl (Nat.le_of_ble_eq_true rfl) (by decide) (fun u2 hu2 => ?_)
  have hF : fz_P b t (wx_N u2 14 1) := by
    rw [hu2]
    exact fz_end hP hτ2 rfl lay_406 rfl (ml_R_eq b t) rfl rfl
  have hz3 : sx_Z u2 = b + 431 := by
    have h9 := hF.1
    rw [zz_N] at h9
    omega
  clear hu2 hτ2 hz2 k_405 hP
  refine z_astore_n (lv' := [(2, .ref (b + 405)), (1, .ref (b + 0)), (0, .ref bS)]) B dL_law_15 rfl (by decide) rfl ?_
  refine z_iconst (v := 1) B dL_law_16 (by decide) ?_
  refine z_newJ (atype := .long) (n := 1) (a := b + 431) (σ' := wx_N u2 14 1) B rfl wg_118 (by decide) (by decide) (by decide) (by decide) (by decide) dL_law_17 hz3 rfl ?_
  generalize wx_N u2 14 1 = σ' at hF
  refine z_astore_n (lv' := [(3, .ref (b + 431)), (2, .ref (b + 405)), (1, .ref (b + 0)), (0, .ref bS)]) B dL_law_19 rfl (by decide) rfl ?_
  refine z_iconst (v := 0) B dL_law_20 (by decide) ?_
  refine z_istore (lv' := [(4, .int 0), (3, .ref (b + 431)), (2, .ref (b + 405)), (1, .ref (b + 0)), (0, .ref bS)]) B dL_law_21 (by decide) rfl ?_
  exact z_widen (Nat.le_of_ble_eq_true rfl) (Nat.le_of_ble_eq_true rfl) (kk t σ' hF)
theorem law_more {p : Program} {l : Launch} {e : Env} {s : State} {m : MethodId} {args : Array Value} {below : List Frame} {meth : Method} {c : Code} {g : gx_T} {Q : State → Prop} {b bS : Nat} {xs : Nat → Int32} (B : zx_B p s m args meth c code RL 8 g) {σ : sx_T} {L cells slots : Nat} {i : Int32} {lv : List (Nat × Value)} (q4 q0 : Nat) (h4 : lv[q4]? = some (4, .int i)) (h0 : lv[q0]? = some (0, .ref bS)) (hX : va_X bS L xs s s.heap) (hbl : bS < s.heap.size) (hbA : ¬ gx_b g ≤ bS) (ky : Int32.ofNat L - 6 < i → zx p l e room_1 s m args below meth c g 8 cells slots Q σ 1401 lv []) (kn : ¬ Int32.ofNat L - 6 < i → zx p l e room_1 s m args below meth c g 8 cells slots Q σ 33 lv []) : zx p l e room_1 s m args below meth c g 8 cells slots Q σ 23 lv [] := by
  refine z_iload B dL_law_23 q4 h4 ?_
  refine z_aload_n B dL_law_25 rfl q0 h0 ?_
  refine z_slen B hX hbl hbA rfl dL_law_26 ?_
  refine z_bipush (v := 6) B dL_law_27 (by decide) ?_
  refine z_isub B dL_law_29 ?_
  exact z_icmp_gt (tgt := 1401) B dL_law_30 (by decide) ky kn
set_option maxRecDepth 100000 in
set_option maxHeartbeats 4000000 in
theorem law_switch {p : Program} {l : Launch} {e : Env} {s : State} {m : MethodId} {args : Array Value} {below : List Frame} {meth : Method} {c : Code} {g : gx_T} {Q : State → Prop} {b bS : Nat} {xs : Nat → Int32} {σ : sx_T} {t : Nat} (hlt : l.stackTraces = false) (B : zx_B p s m args meth c code RL 8 g) (hX : va_X bS 6 xs s s.heap) (hbl : bS < s.heap.size) (hbA : ¬ gx_b g ≤ bS) (hF : fz_P b t σ) (kk : ∀ σ', zx p l e room_1 s m args below meth c g 8 600002 7302232 Q σ' 1395 [(4, .int 0), (0, .ref bS)] []) : zx p l e room_1 s m args below meth c g 8 500 100000 Q σ 33 [(4, .int 0), (3, .ref (b + 431)), (2, .ref (b + 405)), (1, .ref (b + 0)), (0, .ref bS)] [] := by
  refine z_aload_n B dL_law_33 rfl 4 rfl ?_
  refine z_iload B dL_law_34 0 rfl ?_
  refine z_sld (j := 0) (x := xs 0) B hX hbl hbA (by decide) (show ¬ ((0 : Int32) < 0 ∨ 6 ≤ (0 : Int32).toNatClampNeg) by decide) rfl dL_law_36 ?_
  refine z_bipush (v := 31) B dL_law_37 (by decide) ?_
  refine z_iand B dL_law_39 ?_
  refine z_topi (fun v _ => ?_)
  by_cases hin : 0 ≤ v.toInt ∧ v.toInt ≤ 22
  · rcases (show v.toInt = 0 ∨ v.toInt = 1 ∨ v.toInt = 2 ∨ v.toInt = 3 ∨ v.toInt = 4 ∨ v.toInt = 5 ∨ v.toInt = 6 ∨ v.toInt = 7 ∨ v.toInt = 8 ∨ v.toInt = 9 ∨ v.toInt = 10 ∨ v.toInt = 11 ∨ v.toInt = 12 ∨ v.toInt = 13 ∨ v.toInt = 14 ∨ v.toInt = 15 ∨ v.toInt = 16 ∨ v.toInt = 17 ∨ v.toInt = 18 ∨ v.toInt = 19 ∨ v.toInt = 20 ∨ v.toInt = 21 ∨ v.toInt = 22 by omega) with hv | hv | hv | hv | hv | hv | hv | hv | hv | hv | hv | hv | hv | hv | hv | hv | hv | hv | hv | hv | hv | hv | hv
    · obtain rfl : v = 0 := eq_of_iv (n := 0) rfl (by omega) (by omega)
      exact z_tableIn (tgt := 148) B dL_law_40 (by decide) (by decide) (show _ = some (108 : Int) by decide) (by decide) (cs_0 hlt B hX hbl hbA hF kk)
    · obtain rfl : v = 1 := eq_of_iv (n := 1) rfl (by omega) (by omega)
      exact z_tableIn (tgt := 252) B dL_law_40 (by decide) (by decide) (show _ = some (212 : Int) by decide) (by decide) (cs_1 hlt B hX hbl hbA hF kk)
    · obtain rfl : v = 2 := eq_of_iv (n := 2) rfl (by omega) (by omega)
      exact z_tableIn (tgt := 356) B dL_law_40 (by decide) (by decide) (show _ = some (316 : Int) by decide) (by decide) (cs_2 hlt B hX hbl hbA hF kk)
    · obtain rfl : v = 3 := eq_of_iv (n := 3) rfl (by omega) (by omega)
      exact z_tableIn (tgt := 424) B dL_law_40 (by decide) (by decide) (show _ = some (384 : Int) by decide) (by decide) (cs_3 hlt B hX hbl hbA hF kk)
    · obtain rfl : v = 4 := eq_of_iv (n := 4) rfl (by omega) (by omega)
      exact z_tableIn (tgt := 511) B dL_law_40 (by decide) (by decide) (show _ = some (471 : Int) by decide) (by decide) (cs_4 hlt B hX hbl hbA hF kk)
    · obtain rfl : v = 5 := eq_of_iv (n := 5) rfl (by omega) (by omega)
      exact z_tableIn (tgt := 574) B dL_law_40 (by decide) (by decide) (show _ = some (534 : Int) by decide) (by decide) (cs_5 hlt B hX hbl hbA hF kk)
    · obtain rfl : v = 6 := eq_of_iv (n := 6) rfl (by omega) (by omega)
      exact z_tableIn (tgt := 642) B dL_law_40 (by decide) (by decide) (show _ = some (602 : Int) by decide) (by decide) (cs_6 hlt B hX hbl hbA hF kk)
    · obtain rfl : v = 7 := eq_of_iv (n := 7) rfl (by omega) (by omega)
      exact z_tableIn (tgt := 655) B dL_law_40 (by decide) (by decide) (show _ = some (615 : Int) by decide) (by decide) (cs_7 hlt B hX hbl hbA hF kk)
    · obtain rfl : v = 8 := eq_of_iv (n := 8) rfl (by omega) (by omega)
      exact z_tableIn (tgt := 668) B dL_law_40 (by decide) (by decide) (show _ = some (628 : Int) by decide) (by decide) (cs_8 hlt B hX hbl hbA hF kk)
    · obtain rfl : v = 9 := eq_of_iv (n := 9) rfl (by omega) (by omega)
      exact z_tableIn (tgt := 743) B dL_law_40 (by decide) (by decide) (show _ = some (703 : Int) by decide) (by decide) (cs_9 hlt B hX hbl hbA hF kk)
    · obtain rfl : v = 10 := eq_of_iv (n := 10) rfl (by omega) (by omega)
      exact z_tableIn (tgt := 768) B dL_law_40 (by decide) (by decide) (show _ = some (728 : Int) by decide) (by decide) (cs_10 hlt B hX hbl hbA hF kk)
    · obtain rfl : v = 11 := eq_of_iv (n := 11) rfl (by omega) (by omega)
      exact z_tableIn (tgt := 793) B dL_law_40 (by decide) (by decide) (show _ = some (753 : Int) by decide) (by decide) (cs_11 hlt B hX hbl hbA hF kk)
    · obtain rfl : v = 12 := eq_of_iv (n := 12) rfl (by omega) (by omega)
      exact z_tableIn (tgt := 849) B dL_law_40 (by decide) (by decide) (show _ = some (809 : Int) by decide) (by decide) (cs_12 hlt B hX hbl hbA hF kk)
    · obtain rfl : v = 13 := eq_of_iv (n := 13) rfl (by omega) (by omega)
      exact z_tableIn (tgt := 862) B dL_law_40 (by decide) (by decide) (show _ = some (822 : Int) by decide) (by decide) (cs_13 hlt B hX hbl hbA hF kk)
    · obtain rfl : v = 14 := eq_of_iv (n := 14) rfl (by omega) (by omega)
      exact z_tableIn (tgt := 918) B dL_law_40 (by decide) (by decide) (show _ = some (878 : Int) by decide) (by decide) (cs_14 hlt B hX hbl hbA hF kk)
    · obtain rfl : v = 15 := eq_of_iv (n := 15) rfl (by omega) (by omega)
      exact z_tableIn (tgt := 986) B dL_law_40 (by decide) (by decide) (show _ = some (946 : Int) by decide) (by decide) (cs_15 hlt B hX hbl hbA hF kk)
    · obtain rfl : v = 16 := eq_of_iv (n := 16) rfl (by omega) (by omega)
      exact z_tableIn (tgt := 1054) B dL_law_40 (by decide) (by decide) (show _ = some (1014 : Int) by decide) (by decide) (cs_16 hlt B hX hbl hbA hF kk)
    · obtain rfl : v = 17 := eq_of_iv (n := 17) rfl (by omega) (by omega)
      exact z_tableIn (tgt := 1110) B dL_law_40 (by decide) (by decide) (show _ = some (1070 : Int) by decide) (by decide) (cs_17 hlt B hX hbl hbA hF kk)
    · obtain rfl : v = 18 := eq_of_iv (n := 18) rfl (by omega) (by omega)
      exact z_tableIn (tgt := 1166) B dL_law_40 (by decide) (by decide) (show _ = some (1126 : Int) by decide) (by decide) (cs_18 hlt B hX hbl hbA hF kk)
    · obtain rfl : v = 19 := eq_of_iv (n := 19) rfl (by omega) (by omega)
      exact z_tableIn (tgt := 1234) B dL_law_40 (by decide) (by decide) (show _ = some (1194 : Int) by decide) (by decide) (cs_19 hlt B hX hbl hbA hF kk)
    · obtain rfl : v = 20 := eq_of_iv (n := 20) rfl (by omega) (by omega)
      exact z_tableIn (tgt := 1301) B dL_law_40 (by decide) (by decide) (show _ = some (1261 : Int) by decide) (by decide) (cs_20 hlt B hX hbl hbA hF kk)
    · obtain rfl : v = 21 := eq_of_iv (n := 21) rfl (by omega) (by omega)
      exact z_tableIn (tgt := 1314) B dL_law_40 (by decide) (by decide) (show _ = some (1274 : Int) by decide) (by decide) (cs_21 hlt B hX hbl hbA hF kk)
    · obtain rfl : v = 22 := eq_of_iv (n := 22) rfl (by omega) (by omega)
      exact z_tableIn (tgt := 1382) B dL_law_40 (by decide) (by decide) (show _ = some (1342 : Int) by decide) (by decide) (cs_22 hlt B hX hbl hbA hF kk)
  · refine z_tableOut (tgt := 1395) B dL_law_40 (show v.toInt < 0 ∨ 22 < v.toInt by omega) (by decide) ?_
    exact z_widen (Nat.le_of_ble_eq_true rfl) (Nat.le_of_ble_eq_true rfl) (z_sub _ [0, 4] rfl (kk _))
theorem nw_of {w : Cond} {D : Array Value} {U : State} (hl : lx_n w = true) (h : w.before D U = true) : va_Nw w U := by
  unfold lx_n at hl
  split at hl
  · exact va_Nw.of rfl h
  · exact va_Nw.of rfl h
  · exact h
  · simp only [Bool.and_eq_true] at hl
    exact va_Nw.of hl.1 h
theorem ar_p {s : State} {D : Array Value} {ty : FieldType} (h : (Cond.arrayClass ty).before D s = true) : ∃ cA, ArrOfT s cA ty ∧ s.vm.findClass ("[" ++ ty.toString) = some cA := by
  obtain ⟨cA, kA, comp, h1, h2, h3⟩ := Cond.arrayClass_spec h
  exact ⟨cA, fun n z => ⟨fun k h => (by cases h), kA, h2, comp, h3⟩, h1⟩
theorem ar_o {s : State} {D : Array Value} {C : String} (h : (Cond.arrayOver (.object C)).before D s = true) : ∃ cA, ArrOfT s cA (.object C) ∧ va_RA s cA (.object C) := by
  obtain ⟨comp, cA, kA, h1, -, h2, h3, h4⟩ := Cond.arrayOver_spec h
  exact ⟨cA, fun n z => ⟨fun k h => (by cases h), kA, h2, comp, h3⟩, kA, comp, h2, h3, h1, h4⟩
theorem kn_of {s : State} {D : Array Value} {ci N : Nat} {C : String} {T : u_T} {ty0 : Nat → FieldType} {q : vw_C} (hts : ∀ w ∈ lw_g, w.before D s = true) (h : cx_ok ci C T N ty0) (hq : vwCl[ci]? = some q) : ∃ (d : ClassId × (Nat → Nat)), u_Kn s q.1 q.2.1 q.2.2 d.1 d.2 := by
  obtain rfl : (C, T, N) = q := Option.some.inj (h.1.symm.trans hq)
  obtain ⟨c, i, hk⟩ := u_known hts h.2.1 (hts _ h.2.2.2.2.2.2.1)
  exact ⟨(c, i), hk⟩
theorem kn_all {s : State} {D : Array Value} (hts : ∀ w ∈ lw_g, w.before D s = true) (k : Nat) : ∃ (d : ClassId × (Nat → Nat)), ∀ q : vw_C, vwCl[k]? = some q → u_Kn s q.1 q.2.1 q.2.2 d.1 d.2 := by
  by_cases hn : vwCl[k]? = none
  · exact ⟨(0, fun _ => 0), fun q hq => by rw [hn] at hq; cases hq⟩
  · obtain ⟨q0, hq0⟩ := Option.ne_none_iff_exists'.mp hn
    have h : ∃ (d : ClassId × (Nat → Nat)), u_Kn s q0.1 q0.2.1 q0.2.2 d.1 d.2 := by
      have hk : k < 11 := by
        have := (List.getElem?_eq_some_iff.mp hq0).1
        exact this
      clear hn
      match k, hq0 with
      | 0, hq => exact kn_of hts cx_0 hq
      | 1, hq => exact kn_of hts cx_1 hq
      | 2, hq => exact kn_of hts cx_2 hq
      | 3, hq => exact kn_of hts cx_3 hq
      | 4, hq => exact kn_of hts cx_4 hq
      | 5, hq => exact kn_of hts cx_5 hq
      | 6, hq => exact kn_of hts cx_6 hq
      | 7, hq => exact kn_of hts cx_7 hq
      | 8, hq => exact kn_of hts cx_8 hq
      | 9, hq => exact kn_of hts cx_9 hq
      | 10, hq => exact kn_of hts cx_10 hq
      | k + 11, _ => omega
    obtain ⟨d, hd⟩ := h
    exact ⟨d, fun q hq => by rw [hq0] at hq; cases hq; exact hd⟩
def nx_fl : List Cond := flatC (Jvm.Cond.and given_1 narrow_1)
theorem nx_1 : ∀ q ∈ lx_str, Cond.stringRef q.1 q.2.1 q.2.2 ∈ lw_tbl := by decide +kernel
theorem nx_2 : ∀ q ∈ lx_str, Cond.exactly (.string q.1 q.2.1) "java/lang/String" ∈ nx_fl := by decide +kernel
theorem nx_3 : ∀ q ∈ lx_nc, Cond.not (.castable q.1 q.2) ∈ nx_fl := by decide +kernel
theorem nx_4 : Cond.exactly (.static "java/util/ArrayList" "DEFAULTCAPACITY_EMPTY_ELEMENTDATA" "[Ljava/lang/Object;") "[Ljava/lang/Object;" ∈ nx_fl := by decide +kernel
theorem nx_5 : Cond.isRef (.static "java/lang/Throwable" "UNASSIGNED_STACK" "[Ljava/lang/StackTraceElement;") ∈ nx_fl := by decide +kernel
theorem nx_6 : Cond.isRef (.static "java/lang/Throwable" "SUPPRESSED_SENTINEL" "Ljava/util/List;") ∈ nx_fl := by decide +kernel
theorem world_at {s : State} {D : Array Value} (hts : ∀ w ∈ lw_tbl, w.before D s = true) (hfl : ∀ w ∈ nx_fl, w.before D s = true) : ∃ g : gx_T, gx_b g = s.heap.size ∧ gx_H g = s.heap ∧ zx_k g s := by
  have hg : ∀ w ∈ lw_g, w.before D s = true := fun w hw => hts w (List.mem_filter.mp hw).1
  have hA : ∀ a : Nat, a < s.heap.size → ¬ (fun q : Nat => s.heap.size ≤ q) a := fun a h q => absurd q (Nat.not_le.mpr h)
  obtain ⟨a12, p12, r12⟩ := ar_p (hg _ wg_117)
  obtain ⟨a13, p13, r13⟩ := ar_p (hg _ wg_64)
  obtain ⟨a14, p14, r14⟩ := ar_p (hg _ wg_118)
  obtain ⟨a15, p15, r15⟩ := ar_o (hts _ (List.mem_filter.mp wn_37).1)
  obtain ⟨a16, p16, r16⟩ := ar_o (hts _ (List.mem_filter.mp wn_35).1)
  obtain ⟨a17, p17, r17⟩ := ar_o (hts _ (List.mem_filter.mp wn_652).1)
  refine ⟨((fun k => (Classical.choose (kn_all hg k)).1, fun k => (Classical.choose (kn_all hg k)).2), fun kd => if kd = 12 then a12 else if kd = 13 then a13 else if kd = 14 then a14 else if kd = 15 then a15 else if kd = 16 then a16 else a17, s.heap.size, s.heap), rfl, rfl, ⟨fun k q hq => Classical.choose_spec (kn_all hg k) q hq, ?_⟩, fun w hw => ?_, ?_, ?_, ?_, fun q hq => ?_, fun q hq => ?_⟩
  · intro k q hq
    match k, hq with
    | 0, hq => cases hq; exact ⟨p12, r12⟩
    | 1, hq => cases hq; exact ⟨p13, r13⟩
    | 2, hq => cases hq; exact ⟨p14, r14⟩
    | 3, hq => cases hq; exact ⟨p15, r15⟩
    | 4, hq => cases hq; exact ⟨p16, r16⟩
    | 5, hq => cases hq; exact ⟨p17, r17⟩
    | k + 6, hq => simp [gx_t] at hq
  · have h9 := List.mem_filter.mp hw
    have h8 := h9.2
    simp only [Bool.and_eq_true] at h8
    exact nw_of h8.2 (hts w h9.1)
  · exact vx_Zqof (hts _ wt_748) (hts _ wt_13) (hfl _ nx_5) hA
  · exact vx_Zqof (hts _ wt_750) (hts _ wt_13) (hfl _ nx_6) hA
  · obtain ⟨t, -, -, -, ht, -⟩ := Cond.exactly_spec (hfl _ nx_4)
    exact ⟨t, va_Zof (hts _ wt_51) (hts _ wt_4) ht hA⟩
  · obtain ⟨a, -, -, -, ha, -⟩ := Cond.exactly_spec (hfl _ (nx_2 q hq))
    exact ⟨a, vk_R.of (hts _ (nx_1 q hq)) ha⟩
  · exact va_Nc.of (hfl _ (nx_3 q hq))
theorem zh_start {g : gx_T} {s : State} (h1 : gx_b g = s.heap.size) (h2 : gx_H g = s.heap) : zx_h g (fun _ => 0, fun _ => 0, fun _ _ => 0, fun _ _ => 0, fun _ _ => none, s.heap.size) s.heap := by
  refine ⟨rfl, Nat.le_of_eq h1, fun q _ => by rw [h2], by rw [h1, h2], [], fun a => ⟨fun h => absurd h List.not_mem_nil, fun h => absurd rfl h⟩, fun k q h => ?_, ⟨fun i j p q h => ?_, fun k q h => ?_⟩⟩
  · simp [va_pl] at h
  · simp [va_pl] at h
  · simp [va_pl] at h
