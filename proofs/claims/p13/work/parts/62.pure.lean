section M13
variable {m w i : Nat} {σ σ' v v' u u' : sx_T} {s : Int} {n0 : Nat} {x1 x2 x2' x3 x3' : Int32} {x4 x5 x6 x8 x9 x10 : Int32}
def VD (m : Nat) (r r' : Int32 × sx_T) : Prop := VE m r.2 r'.2
theorem de_1085 (h : VE m σ σ') : OO (fb_X9_steps_1085 n0 σ m x8 x10) (fb_X9_steps_1085 n0 σ' m x8 x10) (VD m) := by
  unfold fb_X9_steps_1085
  rw [h.1 26 rfl, h.1 38 rfl]
  exact oo_ite Iff.rfl (fun _ _ => oo_ite Iff.rfl (fun _ _ => oo_some h) (fun _ _ => oo_some (ve_m (ve_m h (by decide) rfl) (by decide) rfl))) (fun _ _ => oo_some h)
/-- what both starts and drawings give -/
theorem de_starts {y4 y5 y6 y7 y5' y6' y7' : Int32} (h : DD m x1 i x2 x2' σ σ') : OO (f_X9_starts σ m x1 x2 x3 y4 y5 y6 y7) (f_X9_starts σ' m x1 x2' x3' y4 y5' y6' y7') (DM m x1) := by
  obtain ⟨eA, e27⟩ := dd_A h
  have a5 := h.2.2.2.2.1
  have c1 : ¬ x2 ≤ sx_I σ m 27 := by rw [n_le]; unfold mA at a5; omega
  have c2 : ¬ x2' ≤ sx_I σ' m 27 := by rw [e27, n_le]; unfold mA at a5; omega
  unfold f_X9_starts
  rw [if_neg c1, if_neg c2]
  exact oo_bd (de_meets h (fun e => absurd e (by decide))) (fun a u b v q => oo_some q)
theorem de_draws (h : DD m x1 i x2 x2' σ σ') : OO (f_X9_draws σ m x1 x2 x3 x4) (f_X9_draws σ' m x1 x2' x3' x4) (fun r r' => r.1 = r'.1 ∧ VE m r.2 r'.2) := by
  obtain ⟨eA, e27⟩ := dd_A h
  have a5 := h.2.2.2.2.1
  have c1 : sx_I σ m 27 < x2 := by rw [n_lt]; unfold mA at a5; omega
  have c2 : sx_I σ' m 27 < x2' := by rw [e27, n_lt]; unfold mA at a5; omega
  unfold f_X9_draws
  rw [if_pos c1, if_pos c2]
  unfold fb_X9_draws_29 fb_X9_draws_70
  refine oo_nz (oo_bd (de_meets h (fun e => absurd e (by decide))) (fun a u b v q => ?_))
  obtain ⟨q1, q2, q3, -⟩ := q
  have q1 : a = b := q1
  subst q1
  have q2 : VE m u v := q2
  have q3 : f_X9_latestNumber u m x1 = f_X9_latestNumber v m x1 := q3
  refine oo_ite Iff.rfl (fun _ _ => oo_some ⟨rfl, ve_m q2 (by decide) (q2.1 29 rfl)⟩) (fun _ _ => ?_)
  rw [q3]
  exact oo_br (Q := fun a b => a = b) (fun r1 r2 e1 e2 => by rw [e1] at e2; cases e2; rfl) (fun a b e => by subst e; exact oo_some ⟨rfl, ve_m q2 (by decide) rfl⟩)
theorem oo_eq {α : Type} {x : Option α} : OO x x (fun a b => a = b) := fun r1 r2 e1 e2 => by rw [e1] at e2; cases e2; rfl
/-- fields that are written behind a meeting -/
theorem dm_lat {r r' : Int32 × sx_T} (h : DM m x1 r r') (w1 : VW m r.2 v) (w2 : VW m r'.2 v') : f_X9_latestNumber v m x1 = f_X9_latestNumber v' m x1 := h.2.2.2 v v' w1.1 w2.1 (w1.2.2.2 27 (by omega)) (w2.2.2.2 27 (by omega))
theorem de_359 {y0 y1 y0' y1' : Int32} (h : DD m x1 i x2 x2' σ σ') : OO (fb_X9_steps_359 n0 σ m x1 x8 y0 y1 4 x3 x2 x1) (fb_X9_steps_359 n0 σ' m x1 x8 y0' y1' 4 x3' x2' x1) (VD m) := by
  unfold fb_X9_steps_359 fb_X9_steps_378 fb_X9_steps_397
  refine oo_bd (de_meets h (fun e => absurd e (by decide))) (fun a u b v q => ?_)
  have q' := q
  obtain ⟨q1, q2, q3, -⟩ := q
  have q1 : a = b := q1
  subst q1
  have q2 : VE m u v := q2
  have g : ∀ y : Int32, OO (if a = 0 then fb_X9_steps_1085 n0 (wx_I (wx_I (wx_I u m 30 y) m 31 0) m 49 0) m x8 a else br (f_X9_latestNumber (wx_I u m 30 y) m x1) fun r4 => fb_X9_steps_1085 n0 (wx_I (wx_I (wx_I u m 30 y) m 31 r4.toInt32) m 49 r4.toInt32) m x8 a) (if a = 0 then fb_X9_steps_1085 n0 (wx_I (wx_I (wx_I v m 30 y) m 31 0) m 49 0) m x8 a else br (f_X9_latestNumber (wx_I v m 30 y) m x1) fun r4 => fb_X9_steps_1085 n0 (wx_I (wx_I (wx_I v m 30 y) m 31 r4.toInt32) m 49 r4.toInt32) m x8 a) (VD m) := fun y => by
    have w := ve_m (k := 30) (x := y) q2 (by decide) rfl
    refine oo_ite Iff.rfl (fun _ _ => de_1085 (ve_m (ve_m w (by decide) rfl) (by decide) rfl)) (fun _ _ => ?_)
    rw [dm_lat (v := wx_I u m 30 y) (v' := wx_I v m 30 y) q' (vw_m vw_r rfl) (vw_m vw_r rfl)]
    exact oo_br oo_eq (fun r r' e => by subst e; exact de_1085 (ve_m (ve_m w (by decide) rfl) (by decide) rfl))
  exact oo_ite Iff.rfl (fun _ _ => g 0) (fun _ _ => g 2)
theorem de_510 {y0 y1 y0' y1' : Int32} (h : DD m x1 i x2 x2' σ σ') : OO (fb_X9_steps_510 n0 σ m x1 x6 x8 y0 y1 4 x3 x2 x1) (fb_X9_steps_510 n0 σ' m x1 x6 x8 y0' y1' 4 x3' x2' x1) (VD m) := by
  unfold fb_X9_steps_510 fb_X9_steps_529 fb_X9_steps_548
  refine oo_bd (de_meets h (fun e => absurd e (by decide))) (fun a u b v q => ?_)
  have q' := q
  obtain ⟨q1, q2, q3, -⟩ := q
  have q1 : a = b := q1
  subst q1
  have q2 : VE m u v := q2
  have g : ∀ y : Int32, OO (if a = 0 then fb_X9_steps_1085 n0 (wx_I (wx_I (wx_I u m 30 y) m 49 0) m 31 x6) m x8 a else br (f_X9_latestNumber (wx_I u m 30 y) m x1) fun r4 => fb_X9_steps_1085 n0 (wx_I (wx_I (wx_I u m 30 y) m 49 r4.toInt32) m 31 x6) m x8 a) (if a = 0 then fb_X9_steps_1085 n0 (wx_I (wx_I (wx_I v m 30 y) m 49 0) m 31 x6) m x8 a else br (f_X9_latestNumber (wx_I v m 30 y) m x1) fun r4 => fb_X9_steps_1085 n0 (wx_I (wx_I (wx_I v m 30 y) m 49 r4.toInt32) m 31 x6) m x8 a) (VD m) := fun y => by
    have w := ve_m (k := 30) (x := y) q2 (by decide) rfl
    refine oo_ite Iff.rfl (fun _ _ => de_1085 (ve_m (ve_m w (by decide) rfl) (by decide) rfl)) (fun _ _ => ?_)
    rw [dm_lat (v := wx_I u m 30 y) (v' := wx_I v m 30 y) q' (vw_m vw_r rfl) (vw_m vw_r rfl)]
    exact oo_br oo_eq (fun r r' e => by subst e; exact de_1085 (ve_m (ve_m w (by decide) rfl) (by decide) rfl))
  exact oo_ite Iff.rfl (fun _ _ => g 0) (fun _ _ => g 4)
/-- behind a meeting, with fields beside it -/
def DW (m : Nat) (x1 : Int32) (σ σ' : sx_T) : Prop := VE m σ σ' ∧ ∀ v v', VW m σ v → VW m σ' v' → f_X9_latestNumber v m x1 = f_X9_latestNumber v' m x1
theorem dw_m {k : Nat} {x y : Int32} (h : DW m x1 σ σ') (hk : vk k = true) (e : x = y) : DW m x1 (wx_I σ m k x) (wx_I σ' m k y) := by
  have k39 : k ≠ 39 := fun q => by rw [q] at hk; cases hk
  refine ⟨ve_m h.1 k39 e, fun v v' w1 w2 => h.2 v v' ?_ ?_⟩
  · have a := vw_m (x := x) (vw_r (m := m) (σ := σ)) hk
    exact ⟨kp_t a.1 w1.1, xs_t a.2.1 w1.2.1, w1.2.2.1.trans a.2.2.1, fun j hj => (w1.2.2.2 j hj).trans (a.2.2.2 j hj)⟩
  · have a := vw_m (x := y) (vw_r (m := m) (σ := σ')) hk
    exact ⟨kp_t a.1 w2.1, xs_t a.2.1 w2.2.1, w2.2.2.1.trans a.2.2.1, fun j hj => (w2.2.2.2 j hj).trans (a.2.2.2 j hj)⟩
theorem dw_l (h : DW m x1 σ σ') : f_X9_latestNumber σ m x1 = f_X9_latestNumber σ' m x1 := h.2 _ _ vw_r vw_r
theorem dw_dm {r r' : Int32 × sx_T} (h : DM m x1 r r') : DW m x1 r.2 r'.2 := ⟨h.2.1, fun v v' w1 w2 => dm_lat h w1 w2⟩
theorem de_711 {y0 : Int32} (h : DW m x1 σ σ') : OO (fb_X9_steps_711 n0 σ m x8 x10 y0) (fb_X9_steps_711 n0 σ' m x8 x10 y0) (VD m) := by
  unfold fb_X9_steps_711
  exact de_1085 (dw_m h (k := 31) rfl rfl).1
theorem de_692 {y0 y0' : Int32} (h : DW m x1 σ σ') (e : y0 = y0') : OO (fb_X9_steps_692 n0 σ m x1 x8 x10 y0) (fb_X9_steps_692 n0 σ' m x1 x8 x10 y0') (VD m) := by
  subst e
  have g := dw_m (k := 36) (x := y0) h rfl rfl
  unfold fb_X9_steps_692
  rw [dw_l g]
  exact oo_ite Iff.rfl (fun _ _ => de_711 g) (fun _ _ => oo_br oo_eq (fun r r' e => by subst e; exact de_711 g))
theorem de_665 {y0 : Int32} (h : DW m x1 σ σ') : OO (fb_X9_steps_665 n0 σ m x1 x8 x10 y0) (fb_X9_steps_665 n0 σ' m x1 x8 x10 y0) (VD m) := by
  have g := dw_m (k := 30) (x := y0) h rfl rfl
  have e36 := g.1.1 36 rfl
  unfold fb_X9_steps_665 fb_X9_steps_688
  rw [dw_l g]
  exact oo_ite Iff.rfl (fun _ _ => de_692 g e36) (fun _ _ => oo_br oo_eq (fun r r' e => by subst e; exact oo_ite Iff.rfl (fun _ _ => de_692 g e36) (fun _ _ => de_692 g rfl)))
theorem de_791 {y0 y0' : Int32} (h : VE m σ σ') (e : y0 = y0') : OO (fb_X9_steps_791 n0 σ m x8 x10 y0) (fb_X9_steps_791 n0 σ' m x8 x10 y0') (VD m) := by
  unfold fb_X9_steps_791
  exact de_1085 (ve_m h (by decide) e)
theorem de_759 {y0 y0' : Int32} (h : DW m x1 σ σ') (e : y0 = y0') : OO (fb_X9_steps_759 n0 σ m x1 x8 x10 y0) (fb_X9_steps_759 n0 σ' m x1 x8 x10 y0') (VD m) := by
  subst e
  have g := dw_m (k := 36) (x := y0) h rfl rfl
  have e29 := g.1.1 29 rfl
  unfold fb_X9_steps_759 fb_X9_steps_787
  rw [dw_l g]
  exact oo_ite Iff.rfl (fun _ _ => de_791 g.1 e29) (fun _ _ => oo_br oo_eq (fun r r' e => by subst e; exact oo_ite Iff.rfl (fun _ _ => de_791 g.1 e29) (fun _ _ => oo_br oo_eq (fun r r' e => by subst e; exact de_791 g.1 rfl))))
theorem de_1049 {y0 y1 y2 y0' y1' y2' : Int32} (h : DD m x1 i x2 x2' σ σ') : OO (fb_X9_steps_1049 n0 σ m x1 x8 y0 y1 y2 14 x3 x2 x1) (fb_X9_steps_1049 n0 σ' m x1 x8 y0' y1' y2' 14 x3' x2' x1) (VD m) := by
  unfold fb_X9_steps_1049 fb_X9_steps_1082
  refine oo_bd (de_starts h) (fun a u b v q => ?_)
  have g := dw_dm q
  have g : DW m x1 u v := g
  have q1 : a = b := q.1
  subst q1
  rw [dw_l g]
  exact oo_ite Iff.rfl (fun _ _ => de_1085 (ve_m g.1 (by decide) (g.1.1 36 rfl))) (fun _ _ => oo_br oo_eq (fun r r' e => by subst e; exact oo_ite Iff.rfl (fun _ _ => de_1085 (ve_m g.1 (by decide) rfl)) (fun _ _ => de_1085 (ve_m g.1 (by decide) rfl))))
theorem de_898 {y0 : Int32} (h : VE m σ σ') : OO (fb_X9_steps_898 n0 σ m x8 x10 y0) (fb_X9_steps_898 n0 σ' m x8 x10 y0) (VD m) := by
  unfold fb_X9_steps_898 fb_X9_steps_915 fb_X9_steps_930
  rw [h.1 27 rfl]
  exact oo_ite Iff.rfl (fun _ _ => oo_ite Iff.rfl (fun _ _ => de_1085 (ve_m (ve_m h (by decide) rfl) (by decide) rfl)) (fun _ _ => de_1085 (ve_m (ve_m h (by decide) rfl) (by decide) rfl))) (fun _ _ => oo_ite Iff.rfl (fun _ _ => de_1085 (ve_m (ve_m h (by decide) rfl) (by decide) rfl)) (fun _ _ => de_1085 (ve_m (ve_m h (by decide) rfl) (by decide) rfl)))
theorem de_164 (h : DD m x1 i x2 x2' σ σ') (p9 : x5 = 3 ∨ x5 = 4 → x9 = -1 ∨ (0 ≤ x9.toInt ∧ x9.toInt < (sx_I σ m 39).toInt)) : OO (fb_X9_steps_164 n0 σ m x1 x2 x3 x4 x5 x6 0 x8 x9) (fb_X9_steps_164 n0 σ' m x1 x2' x3' x4 x5 x6 0 x8 x9) (VD m) := by
  have h' := h
  obtain ⟨eA, e27⟩ := dd_A h
  obtain ⟨hs, hs', a3, a4, a5, a6, hv⟩ := h
  have a4' : 1 ≤ (sx_I σ m 27).toInt ∧ (sx_I σ m 27).toInt ≤ 134 := a4
  have i2 := ti_160 (w := x1) (a := sx_I σ m 27) a3.1 a3.2 (by omega) (by omega)
  have hi : ti (sx_I σ m 27) ≤ i := by
    have := a5.2.2
    unfold mA at this
    unfold ti
    omega
  have hq := a6.2.2 _ hi
  have e29 := hv.1 29 rfl
  have e28 := hv.1 28 rfl
  have e36 := hv.1 36 rfl
  unfold fb_X9_steps_164
  refine oo_ite Iff.rfl (fun _ _ => ?_) (fun _ _ => oo_ite Iff.rfl (fun _ _ => ?_) (fun _ _ => oo_ite Iff.rfl (fun _ _ => oo_ite Iff.rfl (fun _ _ => de_359 h') (fun _ _ => de_359 h')) (fun _ _ => oo_ite Iff.rfl (fun c3 _ => ?_) (fun _ _ => oo_ite Iff.rfl (fun c4 _ => ?_) (fun _ _ => oo_ite Iff.rfl (fun _ _ => ?_) (fun _ _ => oo_ite Iff.rfl (fun _ _ => oo_some (ve_m hv (by decide) rfl)) (fun _ _ => oo_ite Iff.rfl (fun _ _ => oo_some (ve_m hv (by decide) (by rw [e29]))) (fun _ _ => oo_ite Iff.rfl (fun _ _ => oo_some (ve_m hv (by decide) (by rw [e29]))) (fun _ _ => oo_ite Iff.rfl (fun _ _ => ?_) (fun _ _ => oo_ite Iff.rfl (fun _ _ => ?_) (fun _ _ => oo_ite Iff.rfl (fun _ _ => ?_) (fun _ _ => oo_ite Iff.rfl (fun _ _ => ?_) (fun _ _ => oo_ite Iff.rfl (fun _ _ => oo_some (ve_m hv (by decide) rfl)) (fun _ _ => oo_ite Iff.rfl (fun _ _ => ?_) (fun _ _ => oo_ite Iff.rfl (fun _ _ => oo_some (ve_m hv (by decide) rfl)) (fun _ _ => oo_ite Iff.rfl (fun _ _ => ?_) (fun _ _ => ?_)))))))))))))))))
  · refine oo_bd (de_meets h' (fun _ => by rw [e29])) (fun a u b v q => ?_)
    have q1 : a = b := q.1
    subst q1
    have q2 : VE m u v := q.2.1
    unfold fb_X9_steps_286
    exact oo_ite Iff.rfl (fun _ _ => de_1085 (ve_m q2 (by decide) rfl)) (fun _ _ => de_1085 (ve_m q2 (by decide) rfl))
  · refine oo_bd (de_meets h' (fun _ => rfl)) (fun a u b v q => ?_)
    have q1 : a = b := q.1
    subst q1
    have q2 : VE m u v := q.2.1
    refine oo_ite Iff.rfl (fun _ _ => de_1085 q2) (fun _ _ => ?_)
    exact oo_ite Iff.rfl (fun _ _ => de_1085 (ve_m (ve_m q2 (by decide) rfl) (by decide) rfl)) (fun c _ => absurd rfl c)
  · unfold fb_X9_steps_431 fb_X9_steps_446
    refine oo_ite Iff.rfl (fun _ _ => oo_ite Iff.rfl (fun _ _ => de_1085 (ve_m (ve_m (ve_m hv (by decide) e29) (by decide) rfl) (by decide) rfl)) (fun c c' => absurd (by assumption) c)) (fun c9 _ => ?_)
    have p := (p9 (Or.inl c3)).resolve_left c9
    refine oo_bd (de_uses hv hs hs' p.1 p.2) (fun a u b v q => ?_)
    have q1 : a = b := q.1
    subst q1
    have q2 : VE m u v := q.2
    exact oo_ite Iff.rfl (fun c _ => absurd c c9) (fun _ _ => de_1085 (ve_m (ve_m (ve_m q2 (by decide) rfl) (by decide) rfl) (by decide) rfl))
  · refine oo_ite Iff.rfl (fun _ _ => oo_qb hs.r5 hs'.r5 (oo_ck ?_)) (fun c9 _ => ?_)
    · rw [a6.1 3 (by decide) (by decide)]
      exact oo_ite Iff.rfl (fun _ _ => oo_qb hs.r5 hs'.r5 (oo_ck (de_510 h'))) (fun _ _ => de_510 h')
    · have p := (p9 (Or.inr c4)).resolve_left c9
      refine oo_bd (de_uses hv hs hs' p.1 p.2) (fun a u b v q => ?_)
      exact oo_some (ve_m q.2 (by decide) rfl)
  · unfold fb_X9_steps_580
    exact oo_ite (by rw [e29]) (fun _ _ => de_1085 (ve_m hv (by decide) rfl)) (fun _ _ => de_1085 (ve_m hv (by decide) e28))
  · refine oo_bd (de_starts h') (fun a u b v q => ?_)
    have g : DW m x1 u v := dw_dm q
    have q1 : a = b := q.1
    subst q1
    unfold fb_X9_steps_664
    rw [dw_l g]
    exact oo_ite Iff.rfl (fun _ _ => de_665 g) (fun _ _ => oo_br oo_eq (fun r r' e => by subst e; exact oo_ite Iff.rfl (fun _ _ => de_665 g) (fun _ _ => de_665 g)))
  · refine oo_bd (de_starts h') (fun a u b v q => ?_)
    have g : DW m x1 u v := dw_dm q
    have q1 : a = b := q.1
    subst q1
    unfold fb_X9_steps_755
    have g36 := g.1.1 36 rfl
    rw [dw_l g]
    exact oo_ite Iff.rfl (fun _ _ => de_759 g g36) (fun _ _ => oo_br oo_eq (fun r r' e => by subst e; exact oo_ite Iff.rfl (fun _ _ => de_759 g g36) (fun _ _ => de_759 g rfl)))
  · refine oo_bd (de_draws h') (fun a u b v q => ?_)
    have q1 : a = b := q.1
    subst q1
    exact de_1085 q.2
  · refine oo_qb hs.r33 hs'.r33 (oo_ck (oo_some ?_))
    rw [← hv.1 32 rfl]
    exact ve_m (ve_s (ve_b (ve_s (ve_b hv (by decide) (by decide) (by decide))) (by decide) (by decide) (by decide))) (by decide) rfl
  · have c1 : ¬ x2 ≤ sx_I σ m 27 := by rw [n_le]; unfold mA at a5; omega
    have c2 : ¬ x2' ≤ sx_I σ' m 27 := by rw [e27, n_le]; unfold mA at a5; omega
    rw [if_neg c1, if_neg c2, e27]
    refine oo_qb hs.r14 hs'.r14 (oo_ck ?_)
    rw [i2, ← hq.1]
    have f97 : OO (fb_X9_steps_897 n0 σ m x8 1) (fb_X9_steps_897 n0 σ' m x8 1) (VD m) := de_898 hv
    refine oo_ite Iff.rfl (fun _ _ => oo_qb hs.r15 hs'.r15 (oo_ck ?_)) (fun _ _ => f97)
    rw [← hq.2]
    exact oo_ite Iff.rfl (fun _ _ => de_898 hv) (fun _ _ => f97)
  · unfold fb_X9_steps_1000
    exact oo_ite (by rw [hv.1 35 rfl]) (fun _ _ => de_1085 (ve_m (ve_m (ve_m hv (by decide) rfl) (by decide) e36) (by decide) rfl)) (fun _ _ => de_1085 (ve_m (ve_m (ve_m hv (by decide) rfl) (by decide) rfl) (by decide) rfl))
  · refine oo_qb hs.r7 hs'.r7 (oo_ck (oo_qb hs.r8 hs'.r8 (oo_ck (oo_qb hs.r8 hs'.r8 (oo_ck ?_)))))
    have hL : ∀ (y : Option (Int32 × sx_T)), (∀ y0 y1 y2 : Int32, OO (fb_X9_steps_1049 n0 σ m x1 x8 y0 y1 y2 14 x3 x2 x1) y (VD m)) → OO (if (sx_I σ (m + 5) (ti x1)) = (-1) then fb_X9_steps_1049 n0 σ m x1 x8 (-1) (sx_I σ (m + 5) (ti x1)) (sx_I σ (m + 4) (ti x1)) 14 x3 x2 x1 else qv (sx_R σ m 9) fun w113 => bq w113 fun a114 => ck x1 (sx_N σ a114) <| fb_X9_steps_1049 n0 σ m x1 x8 (sx_I σ a114 (ti x1)) (sx_I σ (m + 5) (ti x1)) (sx_I σ (m + 4) (ti x1)) 14 x3 x2 x1) y (VD m) := fun y hy => oo_lite (hy _ _ _) (oo_lqb hs.r9 (oo_l (hy _ _ _)))
    have hR : ∀ (y : Option (Int32 × sx_T)), (∀ y0 y1 y2 : Int32, OO (fb_X9_steps_1049 n0 σ' m x1 x8 y0 y1 y2 14 x3' x2' x1) y (fun a b => VD m b a)) → OO (if (sx_I σ' (m + 5) (ti x1)) = (-1) then fb_X9_steps_1049 n0 σ' m x1 x8 (-1) (sx_I σ' (m + 5) (ti x1)) (sx_I σ' (m + 4) (ti x1)) 14 x3' x2' x1 else qv (sx_R σ' m 9) fun w113 => bq w113 fun a114 => ck x1 (sx_N σ' a114) <| fb_X9_steps_1049 n0 σ' m x1 x8 (sx_I σ' a114 (ti x1)) (sx_I σ' (m + 5) (ti x1)) (sx_I σ' (m + 4) (ti x1)) 14 x3' x2' x1) y (fun a b => VD m b a) := fun y hy => oo_lite (hy _ _ _) (oo_lqb hs'.r9 (oo_l (hy _ _ _)))
    refine hL _ (fun y0 y1 y2 r1 r2 e1 e2 => hR _ (fun y0' y1' y2' => fun r2 r1 e2 e1 => de_1049 (y0 := y0) (y1 := y1) (y2 := y2) (y0' := y0') (y1' := y1') (y2' := y2') h' r1 r2 e1 e2) r2 r1 e2 e1)
end M13
