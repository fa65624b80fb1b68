set_option maxRecDepth 100000 in
set_option maxHeartbeats 4000000 in
theorem law_head {p : Program} {l : Launch} {e : Env} {s : State} {m : MethodId} {args : Array Value} {below : List Frame} {meth : Method} {c : Code} {g : gx_T} {Q : State → Prop} {b bS : Nat} {xs : Nat → Int32} (B : zx_B p s m args meth c code RL 8 g) {σ : sx_T} (hz : sx_Z σ = b + 0) (hk0 : ∀ a, sx_K σ a = 0) (kk : ∀ (t : Nat) (σ' : sx_T), t = gx_e g → fz_P b t σ' → zx p l e room_1 s m args below meth c g 8 500 100000 Q σ' 23 [(4, .int 0), (3, .ref (b + 431)), (2, .ref (b + 405)), (1, .ref (b + 0)), (0, .ref bS)] []) : zx p l e room_1 s m args below meth c g 8 0 0 Q σ 0 [(0, .ref bS)] [] := by
  refine z_newo (a := b + 0) (σ' := wx_N σ 10 0) B cx_9 df_9 wg_26 (by decide) (by decide) dL_law_0 hz rfl ?_
  generalize hτ : wx_N σ 10 0 = τ
  have hz1 : sx_Z τ = b + 1 := by rw [← hτ, zz_N, hz]
  have hkz : kz b τ := by
    rw [← hτ]
    exact kz_N ⟨by omega, fun a _ => hk0 a⟩
  have h0 : cf τ (b + 0) 10 0 (fun _ => 0) (fun _ => none) := by
    rw [← hτ]
    exact cf_N0 hz
  refine z_dup B dL_law_3 rfl ?_
  refine z_cI (As := []) (rest := [.ref (b + 0)]) B cw_L_70 dL_law_4 (ct_main l hz1 h0 hkz) rfl (by decide) rfl (Nat.le_of_ble_eq_true rfl) (by decide) (fun u hu => ?_)
  obtain ⟨t, ht, hP⟩ := hu
  clear hτ hz1 h0 hz hkz
  refine z_astore_n (lv' := [(1, .ref (b + 0)), (0, .ref bS)]) B dL_law_7 rfl (by decide) rfl ?_
  refine z_newo (a := b + 405) (σ' := wx_N u 11 0) B cx_10 df_10 wg_1040 (by decide) (by decide) dL_law_8 hP.1 rfl ?_
  generalize hτ2 : wx_N u 11 0 = τ2
  have hz2 : sx_Z τ2 = b + 406 := by rw [← hτ2, zz_N, hP.1]
  have k_405 : sx_K τ2 (b + 405) = 11 := by
    rw [← hτ2]
    exact (cf_N0 (kd := 11) (n := 0) hP.1).1
  refine z_dup B dL_law_11 rfl ?_
  refine z_cI (As := []) (rest := [.ref (b + 405)]) B cw_L_73 dL_law_12 (ct_X9_init_21 l (σ := τ2) (b := b) hz2 k_405) rfl (by decide) rfl (Nat.le_of_ble_eq_true rfl) (by decide) (fun u2 hu2 => ?_)
  have hF : fz_P b t (wx_N u2 14 1) := by
    rw [hu2]
    exact fz_end hP hτ2 rfl lay_406 rfl (ml_R_eq b t) rfl rfl
  have hz3 : sx_Z u2 = b + 431 := by
    have h9 := hF.1
    rw [zz_N] at h9
    omega
  clear hu2 hτ2 hz2 k_405 hP
  refine z_astore_n (lv' := [(2, .ref (b + 405)), (1, .ref (b + 0)), (0, .ref bS)]) B dL_law_15 rfl (by decide) rfl ?_
  refine z_iconst (v := 1) B dL_law_16 (by decide) ?_
  refine z_newJ (atype := .long) (n := 1) (a := b + 431) (σ' := wx_N u2 14 1) B rfl wg_118 (by decide) (by decide) (by decide) (by decide) (by decide) dL_law_17 hz3 rfl ?_
  generalize wx_N u2 14 1 = σ' at hF
  refine z_astore_n (lv' := [(3, .ref (b + 431)), (2, .ref (b + 405)), (1, .ref (b + 0)), (0, .ref bS)]) B dL_law_19 rfl (by decide) rfl ?_
  refine z_iconst (v := 0) B dL_law_20 (by decide) ?_
  refine z_istore (lv' := [(4, .int 0), (3, .ref (b + 431)), (2, .ref (b + 405)), (1, .ref (b + 0)), (0, .ref bS)]) B dL_law_21 (by decide) rfl ?_
  exact z_widen (Nat.le_of_ble_eq_true rfl) (Nat.le_of_ble_eq_true rfl) (kk t σ' ht hF)

theorem law_more {p : Program} {l : Launch} {e : Env} {s : State} {m : MethodId} {args : Array Value} {below : List Frame} {meth : Method} {c : Code} {g : gx_T} {Q : State → Prop} {b bS : Nat} {xs : Nat → Int32} (B : zx_B p s m args meth c code RL 8 g) {σ : sx_T} {L cells slots : Nat} {i : Int32} {lv : List (Nat × Value)} (q4 q0 : Nat) (h4 : lv[q4]? = some (4, .int i)) (h0 : lv[q0]? = some (0, .ref bS)) (hX : va_X bS L xs s s.heap) (hbl : bS < s.heap.size) (hbA : ¬ gx_b g ≤ bS) (ky : Int32.ofNat L - 6 < i → zx p l e room_1 s m args below meth c g 8 cells slots Q σ 961 lv []) (kn : ¬ Int32.ofNat L - 6 < i → zx p l e room_1 s m args below meth c g 8 cells slots Q σ 33 lv []) : zx p l e room_1 s m args below meth c g 8 cells slots Q σ 23 lv [] := by
  refine z_iload B dL_law_23 q4 h4 ?_
  refine z_aload_n B dL_law_25 rfl q0 h0 ?_
  refine z_slen B hX hbl hbA rfl dL_law_26 ?_
  refine z_bipush (v := 6) B dL_law_27 (by decide) ?_
  refine z_isub B dL_law_29 ?_
  exact z_icmp_gt (tgt := 961) B dL_law_30 (by decide) ky kn

theorem aj_of {x : Int32} {q L : Nat} (hx : x.toInt = (q : Int)) (hq : q + 6 ≤ L) (hL : L ≤ 3072) : AJ x q L := by
  have g : ∀ (y : Int32) (j : Nat), y.toInt = (j : Int) → j ≤ 5 → (x + y).toNatClampNeg = q + j ∧ vp_in (x + y) L := by
    intro y j hy hj
    have e : (x + y).toInt = ((q + j : Nat) : Int) := by
      rw [n_add (by omega) (by omega), hx, hy]
      omega
    refine ⟨?_, vp_in_iff.mpr ⟨by omega, by omega⟩⟩
    show (x + y).toInt.toNat = q + j
    omega
  exact ⟨g 1 1 (by decide) (by decide), g 2 2 (by decide) (by decide), g 3 3 (by decide) (by decide), g 4 4 (by decide) (by decide), g 5 5 (by decide) (by decide)⟩
set_option maxRecDepth 100000 in
set_option maxHeartbeats 4000000 in
theorem law_switch {n0 : Nat} {p : Program} {l : Launch} {e : Env} {s : State} {m : MethodId} {args : Array Value} {below : List Frame} {meth : Method} {c : Code} {g : gx_T} {Q : State → Prop} {b bS L : Nat} {xs : Nat → Int32} {σ : sx_T} {q cells slots : Nat} {x : Int32} {C S : Int} (hn : 1000001 ≤ n0) (hlt : l.stackTraces = false) (B : zx_B p s m args meth c code RL 8 g) (hX : va_X bS L xs s s.heap) (hbl : bS < s.heap.size) (hbA : ¬ gx_b g ≤ bS) (hx : x.toInt = (q : Int)) (hq : q + 6 ≤ L) (hL : L ≤ 3072) (hJ : JD g b 0 σ) (hc : (cells : Int) ≤ C + PC b σ) (hs : (slots : Int) ≤ S + PS b σ) (hC : C ≤ 2000) (hS : S ≤ 200000) (kk : ∀ (σ' : sx_T) (cells' slots' : Nat), JD g b 0 σ' → (cells' : Int) ≤ C + 1 + PC b σ' → (slots' : Int) ≤ S + 6 + PS b σ' → zx p l e room_1 s m args below meth c g 8 cells' slots' Q σ' 955 [(4, .int x), (3, .ref (b + 431)), (2, .ref (b + 405)), (1, .ref (b + 0)), (0, .ref bS)] []) : zx p l e room_1 s m args below meth c g 8 cells slots Q σ 33 [(4, .int x), (3, .ref (b + 431)), (2, .ref (b + 405)), (1, .ref (b + 0)), (0, .ref bS)] [] := by
  have hA := aj_of hx hq hL
  refine z_aload_n B dL_law_33 rfl 4 rfl ?_
  refine z_iload B dL_law_34 0 rfl ?_
  refine z_sld (j := q) (x := xs q) B hX hbl hbA (by show x.toInt.toNat = q; omega) (vp_in_iff.mpr ⟨by omega, by omega⟩) rfl dL_law_36 ?_
  refine z_bipush (v := 31) B dL_law_37 (by decide) ?_
  refine z_iand B dL_law_39 ?_
  refine z_topi (fun v _ => ?_)
  by_cases hin : 0 ≤ v.toInt ∧ v.toInt ≤ 22
  · rcases (show v.toInt = 0 ∨ v.toInt = 1 ∨ v.toInt = 2 ∨ v.toInt = 3 ∨ v.toInt = 4 ∨ v.toInt = 5 ∨ v.toInt = 6 ∨ v.toInt = 7 ∨ v.toInt = 8 ∨ v.toInt = 9 ∨ v.toInt = 10 ∨ v.toInt = 11 ∨ v.toInt = 12 ∨ v.toInt = 13 ∨ v.toInt = 14 ∨ v.toInt = 15 ∨ v.toInt = 16 ∨ v.toInt = 17 ∨ v.toInt = 18 ∨ v.toInt = 19 ∨ v.toInt = 20 ∨ v.toInt = 21 ∨ v.toInt = 22 by omega) with hv | hv | hv | hv | hv | hv | hv | hv | hv | hv | hv | hv | hv | hv | hv | hv | hv | hv | hv | hv | hv | hv | hv
    · obtain rfl : v = 0 := eq_of_iv (n := 0) rfl (by omega) (by omega)
      exact z_tableIn (tgt := 148) B dL_law_40 (by decide) (by decide) (show _ = some (108 : Int) by decide) (by decide) (cs_0 hn hlt B hX hbl hbA hA hJ hc hs hC hS kk)
    · obtain rfl : v = 1 := eq_of_iv (n := 1) rfl (by omega) (by omega)
      exact z_tableIn (tgt := 224) B dL_law_40 (by decide) (by decide) (show _ = some (184 : Int) by decide) (by decide) (cs_1 hn hlt B hX hbl hbA hA hJ hc hs hC hS kk)
    · obtain rfl : v = 2 := eq_of_iv (n := 2) rfl (by omega) (by omega)
      exact z_tableIn (tgt := 300) B dL_law_40 (by decide) (by decide) (show _ = some (260 : Int) by decide) (by decide) (cs_2 hn hlt B hX hbl hbA hA hJ hc hs hC hS kk)
    · obtain rfl : v = 3 := eq_of_iv (n := 3) rfl (by omega) (by omega)
      exact z_tableIn (tgt := 340) B dL_law_40 (by decide) (by decide) (show _ = some (300 : Int) by decide) (by decide) (cs_3 hn hlt B hX hbl hbA hA hJ hc hs hC hS kk)
    · obtain rfl : v = 4 := eq_of_iv (n := 4) rfl (by omega) (by omega)
      exact z_tableIn (tgt := 392) B dL_law_40 (by decide) (by decide) (show _ = some (352 : Int) by decide) (by decide) (cs_4 hn hlt B hX hbl hbA hA hJ hc hs hC hS kk)
    · obtain rfl : v = 5 := eq_of_iv (n := 5) rfl (by omega) (by omega)
      exact z_tableIn (tgt := 420) B dL_law_40 (by decide) (by decide) (show _ = some (380 : Int) by decide) (by decide) (cs_5 hn hlt B hX hbl hbA hA hJ hc hs hC hS kk)
    · obtain rfl : v = 6 := eq_of_iv (n := 6) rfl (by omega) (by omega)
      exact z_tableIn (tgt := 460) B dL_law_40 (by decide) (by decide) (show _ = some (420 : Int) by decide) (by decide) (cs_6 hn hlt B hX hbl hbA hA hJ hc hs hC hS kk)
    · obtain rfl : v = 7 := eq_of_iv (n := 7) rfl (by omega) (by omega)
      exact z_tableIn (tgt := 473) B dL_law_40 (by decide) (by decide) (show _ = some (433 : Int) by decide) (by decide) (cs_7 hn hlt B hX hbl hbA hA hJ hc hs hC hS kk)
    · obtain rfl : v = 8 := eq_of_iv (n := 8) rfl (by omega) (by omega)
      exact z_tableIn (tgt := 486) B dL_law_40 (by decide) (by decide) (show _ = some (446 : Int) by decide) (by decide) (cs_8 hn hlt B hX hbl hbA hA hJ hc hs hC hS kk)
    · obtain rfl : v = 9 := eq_of_iv (n := 9) rfl (by omega) (by omega)
      exact z_tableIn (tgt := 526) B dL_law_40 (by decide) (by decide) (show _ = some (486 : Int) by decide) (by decide) (cs_9 hn hlt B hX hbl hbA hA hJ hc hs hC hS kk)
    · obtain rfl : v = 10 := eq_of_iv (n := 10) rfl (by omega) (by omega)
      exact z_tableIn (tgt := 551) B dL_law_40 (by decide) (by decide) (show _ = some (511 : Int) by decide) (by decide) (cs_10 hn hlt B hX hbl hbA hA hJ hc hs hC hS kk)
    · obtain rfl : v = 11 := eq_of_iv (n := 11) rfl (by omega) (by omega)
      exact z_tableIn (tgt := 576) B dL_law_40 (by decide) (by decide) (show _ = some (536 : Int) by decide) (by decide) (cs_11 hn hlt B hX hbl hbA hA hJ hc hs hC hS kk)
    · obtain rfl : v = 12 := eq_of_iv (n := 12) rfl (by omega) (by omega)
      exact z_tableIn (tgt := 632) B dL_law_40 (by decide) (by decide) (show _ = some (592 : Int) by decide) (by decide) (cs_12 hn hlt B hX hbl hbA hA hJ hc hs hC hS kk)
    · obtain rfl : v = 13 := eq_of_iv (n := 13) rfl (by omega) (by omega)
      exact z_tableIn (tgt := 645) B dL_law_40 (by decide) (by decide) (show _ = some (605 : Int) by decide) (by decide) (cs_13 hn hlt B hX hbl hbA hA hJ hc hs hC hS kk)
    · obtain rfl : v = 14 := eq_of_iv (n := 14) rfl (by omega) (by omega)
      exact z_tableIn (tgt := 673) B dL_law_40 (by decide) (by decide) (show _ = some (633 : Int) by decide) (by decide) (cs_14 hn hlt B hX hbl hbA hA hJ hc hs hC hS kk)
    · obtain rfl : v = 15 := eq_of_iv (n := 15) rfl (by omega) (by omega)
      exact z_tableIn (tgt := 713) B dL_law_40 (by decide) (by decide) (show _ = some (673 : Int) by decide) (by decide) (cs_15 hn hlt B hX hbl hbA hA hJ hc hs hC hS kk)
    · obtain rfl : v = 16 := eq_of_iv (n := 16) rfl (by omega) (by omega)
      exact z_tableIn (tgt := 753) B dL_law_40 (by decide) (by decide) (show _ = some (713 : Int) by decide) (by decide) (cs_16 hn hlt B hX hbl hbA hA hJ hc hs hC hS kk)
    · obtain rfl : v = 17 := eq_of_iv (n := 17) rfl (by omega) (by omega)
      exact z_tableIn (tgt := 781) B dL_law_40 (by decide) (by decide) (show _ = some (741 : Int) by decide) (by decide) (cs_17 hn hlt B hX hbl hbA hA hJ hc hs hC hS kk)
    · obtain rfl : v = 18 := eq_of_iv (n := 18) rfl (by omega) (by omega)
      exact z_tableIn (tgt := 809) B dL_law_40 (by decide) (by decide) (show _ = some (769 : Int) by decide) (by decide) (cs_18 hn hlt B hX hbl hbA hA hJ hc hs hC hS kk)
    · obtain rfl : v = 19 := eq_of_iv (n := 19) rfl (by omega) (by omega)
      exact z_tableIn (tgt := 849) B dL_law_40 (by decide) (by decide) (show _ = some (809 : Int) by decide) (by decide) (cs_19 hn hlt B hX hbl hbA hA hJ hc hs hC hS kk)
    · obtain rfl : v = 20 := eq_of_iv (n := 20) rfl (by omega) (by omega)
      exact z_tableIn (tgt := 889) B dL_law_40 (by decide) (by decide) (show _ = some (849 : Int) by decide) (by decide) (cs_20 hn hlt B hX hbl hbA hA hJ hc hs hC hS kk)
    · obtain rfl : v = 21 := eq_of_iv (n := 21) rfl (by omega) (by omega)
      exact z_tableIn (tgt := 902) B dL_law_40 (by decide) (by decide) (show _ = some (862 : Int) by decide) (by decide) (cs_21 hn hlt B hX hbl hbA hA hJ hc hs hC hS kk)
    · obtain rfl : v = 22 := eq_of_iv (n := 22) rfl (by omega) (by omega)
      exact z_tableIn (tgt := 942) B dL_law_40 (by decide) (by decide) (show _ = some (902 : Int) by decide) (by decide) (cs_22 hn hlt B hX hbl hbA hA hJ hc hs hC hS kk)
  · refine z_tableOut (tgt := 955) B dL_law_40 (show v.toInt < 0 ∨ 22 < v.toInt by omega) (by decide) ?_
    exact kk σ cells slots hJ (by omega) (by omega)
theorem law_loop {n0 : Nat} {p : Program} {l : Launch} {e : Env} {s : State} {m : MethodId} {args : Array Value} {below : List Frame} {meth : Method} {c : Code} {g : gx_T} {Q : State → Prop} {b bS L : Nat} {xs : Nat → Int32} (hn : 1000001 ≤ n0) (hlt : l.stackTraces = false) (B : zx_B p s m args meth c code RL 8 g) (hX : va_X bS L xs s s.heap) (hbl : bS < s.heap.size) (hbA : ¬ gx_b g ≤ bS) (hL : L ≤ 3072) (kd : ∀ (σ' : sx_T) (cells' slots' : Nat) (lv : List (Nat × Value)), cells' ≤ 20000 → slots' ≤ 300000 → zx p l e room_1 s m args below meth c g 8 cells' slots' Q σ' 961 lv []) : ∀ (n k : Nat) (x : Int32) (σ : sx_T) (cells slots : Nat), x.toInt = ((6 * k : Nat) : Int) → 6 * k ≤ L + 5 → L + 6 ≤ 6 * k + 6 * n → JD g b 0 σ → (cells : Int) ≤ 500 + (k : Int) + PC b σ → (slots : Int) ≤ 100000 + 6 * (k : Int) + PS b σ → zx p l e room_1 s m args below meth c g 8 cells slots Q σ 23 [(4, .int x), (3, .ref (b + 431)), (2, .ref (b + 405)), (1, .ref (b + 0)), (0, .ref bS)] [] := by
  intro n
  induction n with
  | zero => intro k x σ cells slots hx h1 h2; omega
  | succ n ih =>
    intro k x σ cells slots hx h1 h2 hJ hc hs
    have bσ := pb hJ
    have e6 : (6 : Int32).toInt = 6 := by decide
    have eL : (Int32.ofNat L).toInt = (L : Int) := n_ofNat (by omega)
    have eL6 : (Int32.ofNat L - 6).toInt = (L : Int) - 6 := by rw [n_sub (by omega) (by omega), eL, e6]
    refine law_more (xs := xs) (b := b) B 0 4 rfl rfl hX hbl hbA (fun _ => kd σ cells slots _ (by omega) (by omega)) (fun hno => ?_)
    rw [n_lt, eL6, hx] at hno
    refine law_switch (q := 6 * k) (C := 500 + (k : Int)) (S := 100000 + 6 * (k : Int)) hn hlt B hX hbl hbA hx (by omega) hL hJ hc hs (by omega) (by omega) (fun σ' cells' slots' hJ' hc' hs' => ?_)
    refine z_iinc (v := x + Int32.ofInt 6) (lv' := [(4, .int (x + Int32.ofInt 6)), (3, .ref (b + 431)), (2, .ref (b + 405)), (1, .ref (b + 0)), (0, .ref bS)]) B dL_law_955 0 rfl rfl (by decide) rfl ?_
    refine z_goto (tgt := 23) B dL_law_958 (by decide) ?_
    have e6' : (Int32.ofInt 6).toInt = 6 := by decide
    have ex : (x + Int32.ofInt 6).toInt = ((6 * (k + 1) : Nat) : Int) := by
      rw [n_add (by omega) (by omega), hx, e6']
      omega
    exact ih (k + 1) (x + Int32.ofInt 6) σ' cells' slots' ex (by omega) (by omega) hJ' (by omega) (by omega)
