def f_J9_min_7cf53 (σ : sx_T) (x0 : Int32) (x1 : Int32) : Option Int32 :=
  if x1 < x0 then
    some x1
  else
    some x0
set_option maxRecDepth 100000 in
set_option maxHeartbeats 4000000 in
theorem ct_J9_min_7cf53 (l : Launch) {g : gx_T} {σ : sx_T} {r : Int32}  {x0 : Int32} {x1 : Int32} (h : f_J9_min_7cf53 σ x0 x1 = some r) (hT : TS g σ)  : CT l g yJ9_min_7cf53 cJ9_min_7cf53 2 (some .int) 0 0 [.int x0, .int x1] (True) σ σ (Qxi g r σ) := by
  refine yc_metF (by decide +kernel) (Nat.le_of_ble_eq_true rfl) ?_
  refine yc_lv (show lv_args 0 [.int x0, .int x1] = [(0, .int x0), (1, .int x1)] from rfl) ?_
  show ZY l g _ _ _ _ _ _ _ _ _ _ _ _ _ _ σ 0 [(0, .int x0), (1, .int x1)] []
  unfold f_J9_min_7cf53 at h
  refine ym 1 (fun B k => z_iload_n B dJ9_min_7cf53_0 rfl 0 rfl k) ?_
  refine ym 2 (fun B k => z_iload_n B dJ9_min_7cf53_1 rfl 1 rfl k) ?_
  by_cases c1 : x1 < x0
  · replace h := ite_p c1 h
    refine ym 9 (fun B k => z_icmp_gt (tgt := 9) B dJ9_min_7cf53_2 (by decide) (fun _ => k) (fun q => absurd c1 q)) ?_
    refine ym 10 (fun B k => z_iload_n B dJ9_min_7cf53_9 rfl 1 rfl k) ?_
    obtain rfl := Option.some.inj h
    exact yr_i hT trivial rfl dJ9_min_7cf53_10
  · replace h := ite_n c1 h
    refine ym 5 (fun B k => z_icmp_gt (tgt := 9) B dJ9_min_7cf53_2 (by decide) (fun q => absurd q c1) (fun _ => k)) ?_
    refine ym 6 (fun B k => z_iload_n B dJ9_min_7cf53_5 rfl 0 rfl k) ?_
    refine ym 10 (fun B k => z_goto (tgt := 10) B dJ9_min_7cf53_6 (by decide) k) ?_
    obtain rfl := Option.some.inj h
    exact yr_i hT trivial rfl dJ9_min_7cf53_10
section YLIST2
variable {l : Launch} {g : gx_T} {cc : ByteArray} {own nm : String} {ret : Option FieldType} {nL fr lo dc ds : Nat} {ho : Bool} {As : Array Value} {QQ : List Frame → State → Nat → Nat → State → Prop} {X : Prop} {u σ σ' : sx_T} {pc : Nat} {lv lv' : List (Nat × Value)} {st st' : List Value}
theorem ymwR (pc' : Nat) {nf nw : Nat} (e : sx_K σ' = sx_K σ ∧ sx_N σ' = sx_N σ ∧ sx_Z σ' = sx_Z σ ∧ sx_S σ' = sx_S σ) (f : ∀ {p : Program} {e : Env} {R : Room} {s : State} {m : MethodId} {below : List Frame} {meth : Method} {c : Code} {cells slots : Nat} {Q : State → Prop}, zx_B p s m As meth c cc own nL g → nf ≤ R.frames → nw ≤ R.locals → zx p l e R s m As below meth c g nL cells slots Q σ' pc' lv' st' → zx p l e R s m As below meth c g nL cells slots Q σ pc lv st) (h1 : nf ≤ fr) (h2 : nw ≤ lo) (k : ZY l g cc own nm ret nL fr lo dc ds ho As QQ X u σ' pc' lv' st') : ZY l g cc own nm ret nL fr lo dc ds ho As QQ X u σ pc lv st :=
  ⟨⟨GG_w e k.1.1, k.1.2⟩, fun p e' s m below meth c B q1 q2 q3 cells slots mc ms hc hs => f B h1 h2 (k.2 p e' s m below meth c B q1 q2 q3 cells slots mc ms (by rw [e.2.2.1]; exact hc) (by rw [e.2.2.2]; exact hs))⟩
end YLIST2
def u_copyOf (σ : sx_T) (a : Nat) (x1 : Int32) : sx_T := wx_cp (wx_N σ 17 (ti x1)) (sx_Z σ) a (sx_N σ a)
def f_copyOf (σ : sx_T) (v0 : Option Nat) (x1 : Int32) : Option (Option Nat × sx_T) :=
  bq v0 fun a =>
  gk σ a 17 <|
  lim x1 <|
  if sx_N σ a ≤ ti x1 then
    some (some (sx_Z σ), u_copyOf σ a x1)
  else none
set_option maxRecDepth 100000 in
set_option maxHeartbeats 4000000 in
theorem ct_copyOf2 (l : Launch) {g : gx_T} {σ : sx_T} {a : Nat} {x1 : Int32} (hT : TS g σ) (hka : sx_K σ a = 17) (hx : 0 ≤ x1.toInt ∧ x1.toInt ≤ 100000) (hN : sx_N σ a ≤ ti x1) : CT l g yJ7_copyOf_6403c cJ7_copyOf_6403c 4 (some (.array (.object "java/lang/Object"))) 1 60 [.ref a, .int x1, .ref (gx_m g)] (rk (u_copyOf σ a x1) (some (sx_Z σ)) 17) (u_copyOf σ a x1) σ (Qxq g (some (sx_Z σ)) (u_copyOf σ a x1)) := by
  refine yc_met (by decide) (Nat.le_of_ble_eq_true rfl) ?_
  show ZY l g _ _ _ _ _ _ _ _ _ _ _ _ _ _ σ 0 [(0, .ref a), (1, .int x1), (2, .ref (gx_m g))] []
  have hne : a ≠ sx_Z σ := fun q => by have := (hT.2.2.1 a (by rw [hka]; decide)).1; omega
  have hkz : sx_K (wx_N σ 17 (ti x1)) (sx_Z σ) = 17 := if_pos rfl
  have hka2 : sx_K (wx_N σ 17 (ti x1)) a = 17 := (if_neg hne).trans hka
  have hNz : sx_N (wx_N σ 17 (ti x1)) (sx_Z σ) = ti x1 := if_pos rfl
  have hNa : sx_N (wx_N σ 17 (ti x1)) a = sx_N σ a := if_neg hne
  have hti : ((ti x1 : Nat) : Int) = x1.toInt := by unfold ti; omega
  have hn0 : (Int32.ofNat (sx_N σ a)).toInt = ((sx_N σ a : Nat) : Int) := Int32.toInt_ofNat_of_lt (by omega)
  have hnc : (Int32.ofNat (sx_N σ a)).toNatClampNeg = sx_N σ a := by
    show (Int32.ofNat (sx_N σ a)).toInt.toNat = _
    rw [hn0]
    omega
  have hT2 := TS_N (kd := 17) (n := ti x1) hT
  have hT3 : TS g (u_copyOf σ a x1) := TS_C hT2 hka2 hkz
  refine ym 1 (fun B k => z_aload_n B dJ7_copyOf_6403c_0 rfl 2 rfl k) ?_
  refine ym 3 (fun B k => z_ldcM B wg_651 dJ7_copyOf_6403c_1 k) ?_
  refine ym 6 (fun B k => z_acmp_ne (rx := some (gx_m g)) (ry := some (gx_m g)) (tgt := 13) B dJ7_copyOf_6403c_3 (by decide) (fun q => absurd rfl q) (fun _ => k)) ?_
  refine ym 7 (fun B k => z_iload_n B dJ7_copyOf_6403c_6 rfl 1 rfl k) ?_
  refine ymn 10 (kd := 17) (n := ti x1) hT (fun B hc hs k => z_newQ (kd := 17) (ti := 5) (n := ti x1) (a := sx_Z σ) (σ' := wx_N σ 17 (ti x1)) B wg_653 wn_652 rfl (by decide) (lim_n hx) rfl (lim_b hx) hc hs dJ7_copyOf_6403c_7 rfl rfl k) ?_
  refine ym 24 (fun B k => z_goto (tgt := 24) B dJ7_copyOf_6403c_10 (by decide) k) ?_
  refine ym 25 (fun B k => z_astore_n (lv' := [(3, .ref (sx_Z σ)), (0, .ref a), (1, .int x1), (2, .ref (gx_m g))]) B dJ7_copyOf_6403c_24 rfl (by decide) rfl k) ?_
  refine ym 26 (fun B k => z_aload_n B dJ7_copyOf_6403c_25 rfl 1 rfl k) ?_
  refine ym 27 (fun B k => z_iconst (v := 0) B dJ7_copyOf_6403c_26 (by decide) k) ?_
  refine ym 28 (fun B k => z_aload_n B dJ7_copyOf_6403c_27 rfl 0 rfl k) ?_
  refine ym 29 (fun B k => z_iconst (v := 0) B dJ7_copyOf_6403c_28 (by decide) k) ?_
  refine ym 30 (fun B k => z_aload_n B dJ7_copyOf_6403c_29 rfl 1 rfl k) ?_
  refine ym 31 (fun B k => z_alen (kd := 17) (ti := 5) (v := Int32.ofNat (sx_N σ a)) B hka2 (by decide) rfl (by rw [hNa]) dJ7_copyOf_6403c_30 k) ?_
  refine ym 32 (fun B k => z_iload_n B dJ7_copyOf_6403c_31 rfl 2 rfl k) ?_
  have hmin : f_J9_min_7cf53 (wx_N σ 17 (ti x1)) (Int32.ofNat (sx_N σ a)) x1 = some (Int32.ofNat (sx_N σ a)) := by
    unfold f_J9_min_7cf53
    rw [if_neg (fun q => by have h9 := Int32.lt_iff_toInt_lt.mp q; omega)]
  refine yc_Si (Al := [.int (Int32.ofNat (sx_N σ a)), .int x1]) (rest := [.int 0, .ref (sx_Z σ), .int 0, .ref a]) 35 rfl cw_J7_304 dJ7_copyOf_6403c_32 (ct_J9_min_7cf53 l (g := g) hmin hT2) rfl (by decide) rfl (Nat.le_of_ble_eq_true rfl) ?_
  refine ymwR (σ' := u_copyOf σ a x1) (nf := 1) (nw := nativeFrameWords "java/lang/System" "arraycopy" 5 + 11) 38 ⟨rfl, rfl, rfl, rfl⟩ (fun B hF hL k => z_copyq B hT2 hka2 hkz wg_657 wg_659 wg_658 wg_22 wn_1461 (fun q => by have h9 := Int32.lt_iff_toInt_lt.mp q; have h8 : (0 : Int32).toInt = 0 := (by decide); omega) (by rw [hnc, hNa]; exact Nat.le_refl _) (by rw [hnc, hNz]; exact hN) hF (by simpa using hL) dJ7_copyOf_6403c_35 (by rw [hnc]; rfl) k) (by decide) (by decide) ?_
  refine ym 39 (fun B k => z_aload_n B dJ7_copyOf_6403c_38 rfl 0 rfl k) ?_
  exact yr_qA (v := some (sx_Z σ)) hT3 (rk_a hkz) rfl dJ7_copyOf_6403c_39
set_option maxRecDepth 100000 in
set_option maxHeartbeats 4000000 in
theorem ct_copyOf (l : Launch) {g : gx_T} {σ : sx_T} {u : sx_T} {r : Option Nat} {v0 : Option Nat} {x1 : Int32} (h : f_copyOf σ v0 x1 = some (r, u)) (hT : TS g σ) : CT l g yJ7_copyOf_1904c cJ7_copyOf_1904c 2 (some (.array (.object "java/lang/Object"))) 3 100 [va_rf v0, .int x1] (rk u r 17) u σ (Qxq g r u) := by
  unfold f_copyOf at h
  obtain ⟨a, rfl, h⟩ := bq_e h
  obtain ⟨hka, h⟩ := gk_e h
  obtain ⟨hx, h⟩ := lim_e h
  by_cases hN : sx_N σ a ≤ ti x1
  · replace h := ite_p hN h
    obtain ⟨rfl, rfl⟩ := Prod.mk.inj (Option.some.inj h)
    refine yc_met (by decide) (Nat.le_of_ble_eq_true rfl) ?_
    show ZY l g _ _ _ _ _ _ _ _ _ _ _ _ _ _ σ 0 [(0, .ref a), (1, .int x1)] []
    refine ym 1 (fun B k => z_aload_n B dJ7_copyOf_1904c_0 rfl 0 rfl k) ?_
    refine ym 2 (fun B k => z_iload_n B dJ7_copyOf_1904c_1 rfl 1 rfl k) ?_
    refine ym 3 (fun B k => z_aload_n B dJ7_copyOf_1904c_2 rfl 0 rfl k) ?_
    refine ymR (nf := 1) (nw := 16) 6 (fun B hF hL k => z_getC B hka wg_630 wg_1466 wg_631 wg_647 hF hL dJ7_copyOf_1904c_3 k) (by decide) (by decide) ?_
    have h9 := ct_copyOf2 l (g := g) hT hka hx hN
    refine yc_Sq (Al := [.ref a, .int x1, .ref (gx_m g)]) (rest := []) 9 rfl cw_J7_300 dJ7_copyOf_1904c_6 h9 rfl (by decide) rfl (Nat.le_of_ble_eq_true rfl) ?_
    exact yr_qA (v := some (sx_Z σ)) h9.1.1.2.2.2 h9.1.2 rfl dJ7_copyOf_1904c_9
  · exact nomatch (ite_n hN h)
