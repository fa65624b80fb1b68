/-! an event comes to one that waits -/
def RQ (A P S Kp Pl Wt En O c1 c2 : Int) : Prop :=
  (1 ≤ A ∧ A ≤ 134 ∧ 0 ≤ P ∧ P ≤ 20 ∧ 0 ≤ S ∧ S ≤ 60 ∧ 0 ≤ Kp ∧ Kp ≤ A ∧ Kp ≤ 90 ∧ 0 ≤ Pl ∧ Pl ≤ 19 ∧ 0 ≤ O ∧ 0 ≤ En ∧ 0 ≤ c1 ∧ 0 ≤ c2 ∧ c2 ≤ 20) ∧
  (Wt = 1 → 2 * c1 ≤ A) ∧ (Wt ≠ 1 → 2 * c1 ≤ A - 1) ∧
  (O = 0 → En = 0 → A ≤ 91 ∧ c2 = 0 ∧ (Wt = 0 ∨ Wt = 3 ∨ ((Wt = 1 ∨ Wt = 2 ∨ Wt = 4 ∨ Wt = 5) ∧ A ≤ 90))) ∧
  (O = 0 → En ≠ 0 → ((Wt = 0 ∧ A + 2 * P ≤ 132) ∨ (Wt = 6 ∧ A + 2 * P + 1 ≤ 132)) ∧ c2 + P ≤ 20)
def RM (m w : Nat) (σ : sx_T) : Prop := RQ (mA m σ) (sx_I σ m 32).toInt (sx_I σ m 38).toInt (sx_I σ m 39).toInt (sx_I σ m 28).toInt (sx_I σ m 30).toInt (sx_I σ m 36).toInt (sx_I σ m 37).toInt (cn m σ 1 w (ti (sx_I σ m 27))) (cn m σ 11 w (ti (sx_I σ m 27)))
theorem lg_eq {x y : Int64} (h : lg_cmp x y = 0) : x = y := by
  unfold lg_cmp at h
  split at h
  · exact absurd h (by decide)
  · split at h
    · assumption
    · exact absurd h (by decide)
section M4
variable {m : Nat} {σ v u : sx_T} {s : Int} {n0 : Nat}
/-- fields 29, 30, 36 alone -/
def TL (m : Nat) (σ u : sx_T) : Prop := KP m σ u ∧ (∀ k, k ≠ 29 → k ≠ 30 → k ≠ 36 → sx_I u m k = sx_I σ m k) ∧ (∀ j k, 1 ≤ j → sx_I u (m + j) k = sx_I σ (m + j) k) ∧ sx_I u m 30 = 0 ∧ (sx_I u m 36 = sx_I σ m 36 ∨ sx_I u m 36 = 2)
def T0 (m : Nat) (σ u : sx_T) : Prop := KP m σ u ∧ (∀ k, k ≠ 29 → k ≠ 30 → k ≠ 36 → sx_I u m k = sx_I σ m k) ∧ (∀ j k, 1 ≤ j → sx_I u (m + j) k = sx_I σ (m + j) k) ∧ (sx_I u m 36 = sx_I σ m 36 ∨ sx_I u m 36 = 2)
theorem t0_r : T0 m σ σ := ⟨kp_r, fun _ _ _ _ => rfl, fun _ _ _ => rfl, Or.inl rfl⟩
theorem t0_29 {x : Int32} (h : T0 m σ u) : T0 m σ (wx_I u m 29 x) := ⟨kp_m h.1 rfl, fun k a b c => by rw [gI_I, if_neg (by omega)]; exact h.2.1 k a b c, fun j k a => by rw [gI_I, if_neg (by omega)]; exact h.2.2.1 j k a, by rw [gI_I, if_neg (by omega)]; exact h.2.2.2⟩
theorem t0_36 {x : Int32} (h : T0 m σ u) (hx : x = sx_I u m 36 ∨ x = 2) : T0 m σ (wx_I u m 36 x) := ⟨kp_m h.1 rfl, fun k a b c => by rw [gI_I, if_neg (by omega)]; exact h.2.1 k a b c, fun j k a => by rw [gI_I, if_neg (by omega)]; exact h.2.2.1 j k a, by
  rw [gI_I, if_pos ⟨rfl, rfl⟩]
  rcases hx with rfl | rfl
  · exact h.2.2.2
  · exact Or.inr rfl⟩
theorem tl_30 (h : T0 m σ u) : TL m σ (wx_I u m 30 0) := ⟨kp_m h.1 rfl, fun k a b c => by rw [gI_I, if_neg (by omega)]; exact h.2.1 k a b c, fun j k a => by rw [gI_I, if_neg (by omega)]; exact h.2.2.1 j k a, by rw [gI_I, if_pos ⟨rfl, rfl⟩], by rw [gI_I, if_neg (by omega)]; exact h.2.2.2⟩
theorem tl_496 {x7 : Int64} {y0 : Int32} (h : T0 m σ u) : Ok (fb_X9_comes_496 n0 u m x7 y0) (TL m σ) := by
  unfold fb_X9_comes_496 fb_X9_comes_515 fb_X9_comes_518
  refine ok_ite (fun _ => ok_some (tl_30 (t0_36 (t0_29 h) (Or.inl ?_)))) (fun _ => ok_some (tl_30 (t0_36 (t0_29 h) (Or.inr rfl))))
  rw [gI_I, if_neg (by omega)]
theorem tl_470 {x3 y0 : Int64} (h : T0 m σ u) : Ok (fb_X9_comes_470 n0 u m x3 y0) (TL m σ) := by
  unfold fb_X9_comes_470
  exact ok_ite (fun _ => tl_496 h) (fun _ => tl_496 h)
theorem tl_434 {x2 y0 : Int32} {x3 : Int64} (h : T0 m σ u) (hy : y0 = sx_I u m 36 ∨ y0 = 2) : Ok (fb_X9_comes_434 n0 u m x2 x3 y0) (TL m σ) := by
  unfold fb_X9_comes_434 fb_X9_comes_518
  exact ok_ite (fun _ => ok_ite (fun _ => tl_470 (t0_36 h hy)) (fun _ => tl_470 (t0_36 h hy))) (fun _ => ok_some (tl_30 (t0_36 h hy)))
theorem tl_409 {x2 y0 : Int32} {x3 : Int64} (h : T0 m σ u) : Ok (fb_X9_comes_409 n0 u m x2 x3 y0) (TL m σ) := by
  unfold fb_X9_comes_409 fb_X9_comes_430
  exact ok_ite (fun _ => ok_ite (fun _ => tl_434 (t0_29 h) (Or.inr rfl)) (fun _ => tl_434 (t0_29 h) (Or.inl rfl))) (fun _ => tl_434 (t0_29 h) (Or.inl rfl))
theorem tl_388 {x2 : Int32} {x3 : Int64} (h : T0 m σ u) : Ok (fb_X9_comes_388 n0 u m x2 x3) (TL m σ) := by
  unfold fb_X9_comes_388 fb_X9_comes_405
  exact ok_ite (fun _ => ok_ite (fun _ => tl_409 h) (fun _ => tl_409 h)) (fun _ => tl_409 h)
def TG (m w : Nat) (σ : sx_T) : Prop := sx_I σ (m + 11) (160 * w + ti (sx_I σ m 27)) = 12 ∧ sx_I σ m 34 = 0 ∧ sx_I σ m 36 = 0 ∧ sx_I σ m 30 = 5 ∧ sx_I σ m 47 ≠ 0 ∧ (sx_I σ (m + 9) w).toInt < mA m σ + 1
/-- what is counted of the children that are asked -/
def CM (m w : Nat) (σ u : sx_T) : Prop := KP m σ u ∧ (∀ k, 46 ≤ k → sx_I u m k = sx_I σ m k) ∧ (sx_I u m 26 = 0 ∨ (sx_I u m 26 = sx_I σ m 26 ∧ mA m u = mA m σ + 1 ∧ RM m w u)) ∧
  ((sx_I u m 45 = sx_I σ m 45 ∧ ∀ k, sx_I u (m + 9) k = sx_I σ (m + 9) k) ∨ (TG m w σ ∧ (sx_I u m 45).toInt = (sx_I σ m 45).toInt + 1 ∧ (∀ k, k ≠ w → sx_I u (m + 9) k = sx_I σ (m + 9) k) ∧ (sx_I u (m + 9) w).toInt = mA m σ + 1 ∧ sx_I u m 36 ≠ 0)) ∧ (sx_I σ m 36 ≠ 0 → sx_I u m 36 ≠ 0)
theorem kp_cn {x : Int32} {w n : Nat} (h : KP m σ u) : cn m u x w n = cn m σ x w n := cn_e n (fun k _ => h.2.2.1 11 rfl _)
theorem ok_comes136 {x1 x2 : Int32} {x3 : Int64} (hn : 1000001 ≤ n0) (h : MI m s σ) (h0 : 0 ≤ x1.toInt) (h1 : x1.toInt ≤ 40) (hr : RM m (ti x1) σ) (hf : sx_I σ m 26 ≠ 0) (hO : (sx_I σ m 37).toInt = 0) (hW : (sx_I σ m 30).toInt ≠ 0) (hlt : mA m σ < mE m σ (ti x1)) (hx : x2 = sx_I σ (m + 11) (160 * ti x1 + ti (sx_I σ m 27))) (hq : sx_I σ m 47 ≠ 0 → 0 ≤ (sx_I σ m 45).toInt ∧ (sx_I σ m 45).toInt < 400) (hk : (x2.toInt = 6 ∨ x2.toInt = 12) ∨ ((x2.toInt = 2 ∨ x2.toInt = 3) ∧ ((sx_I σ m 30).toInt = 1 ∨ (sx_I σ m 30).toInt = 6)) ∨ (x2.toInt = 5 ∧ ((sx_I σ m 30).toInt = 2 ∨ (sx_I σ m 30).toInt = 4)) ∨ (x2.toInt = 8 ∧ (sx_I σ m 30).toInt = 5)) : Ok (fb_X9_comes_136 n0 σ m x1 x2 x3) (CM m (ti x1) σ) := by
  have hs := h.st
  have tw := ti_of h0
  have hE := h.eb (ti x1) (by omega)
  have hA : 1 ≤ (sx_I σ m 27).toInt ∧ (sx_I σ m 27).toInt ≤ 134 := ⟨hr.1.1, hr.1.2.1⟩
  have ta := ti_of (x := sx_I σ m 27) (by omega)
  have e1 : (sx_I σ m 27 + 1).toInt = (sx_I σ m 27).toInt + 1 := n_add1 (by omega) (by omega)
  have tn : ti (sx_I σ m 27 + 1) = ti (sx_I σ m 27) + 1 := by unfold ti at ta ⊢; omega
  have h90 : x2.toInt = 6 ∨ x2.toInt = 12 → mA m σ < 90 := by
    intro e
    have := (h.pw (ti x1) (by omega)).2.2.2.1 (ti (sx_I σ m 27)) (by unfold mA at hlt; omega) (by rw [← hx]; exact e.imp (fun e => q_6.mpr e) (fun e => q_12.mpr e))
    unfold mA
    omega
  have c1n : x2.toInt ≠ 1 → cn m σ 1 (ti x1) (ti (sx_I σ m 27) + 1) = cn m σ 1 (ti x1) (ti (sx_I σ m 27)) := by
    intro e
    show _ + (if sx_I σ (m + 11) (160 * ti x1 + ti (sx_I σ m 27)) = 1 then 1 else 0) = _
    rw [← hx, if_neg (fun q => e (q_1.mp q)), Int.add_zero]
  have c11n : x2.toInt ≠ 11 → cn m σ 11 (ti x1) (ti (sx_I σ m 27) + 1) = cn m σ 11 (ti x1) (ti (sx_I σ m 27)) := by
    intro e
    show _ + (if sx_I σ (m + 11) (160 * ti x1 + ti (sx_I σ m 27)) = 11 then 1 else 0) = _
    rw [← hx, if_neg (fun q => e (q_11.mp q)), Int.add_zero]
  have c1n := c1n (by omega)
  have c11n := c11n (by omega)
  have kp2 : KP m σ (wx_I (wx_I σ m 27 (sx_I σ m 27 + 1)) m 38 0) := kp_m (kp_m kp_r rfl) rfl
  have j2 : ∀ j k, 1 ≤ j → sx_I (wx_I (wx_I σ m 27 (sx_I σ m 27 + 1)) m 38 0) (m + j) k = sx_I σ (m + j) k := fun j k a => by rw [gI_I, if_neg (by omega), gI_I, if_neg (by omega)]
  have m2 : ∀ k, k ≠ 27 → k ≠ 38 → sx_I (wx_I (wx_I σ m 27 (sx_I σ m 27 + 1)) m 38 0) m k = sx_I σ m k := fun k a b => by rw [gI_I, if_neg (by omega), gI_I, if_neg (by omega)]
  have m27 : sx_I (wx_I (wx_I σ m 27 (sx_I σ m 27 + 1)) m 38 0) m 27 = sx_I σ m 27 + 1 := by rw [gI_I, if_neg (by omega), gI_I, if_pos ⟨rfl, rfl⟩]
  have m38 : sx_I (wx_I (wx_I σ m 27 (sx_I σ m 27 + 1)) m 38 0) m 38 = 0 := by rw [gI_I, if_pos ⟨rfl, rfl⟩]
  -- what is left of it when the fields are known
  have fin : ∀ (u : sx_T), KP m σ u → (∀ k, 46 ≤ k → sx_I u m k = sx_I σ m k) → sx_I u m 26 = sx_I σ m 26 → sx_I u m 27 = sx_I σ m 27 + 1 → sx_I u m 38 = 0 → sx_I u m 32 = sx_I σ m 32 → sx_I u m 28 = sx_I σ m 28 → sx_I u m 37 = sx_I σ m 37 → RQ (mA m σ + 1) (sx_I σ m 32).toInt 0 (sx_I u m 39).toInt (sx_I σ m 28).toInt (sx_I u m 30).toInt (sx_I u m 36).toInt (sx_I σ m 37).toInt (cn m σ 1 (ti x1) (ti (sx_I σ m 27))) (cn m σ 11 (ti x1) (ti (sx_I σ m 27))) → KP m σ u ∧ (∀ k, 46 ≤ k → sx_I u m k = sx_I σ m k) ∧ (sx_I u m 26 = 0 ∨ (sx_I u m 26 = sx_I σ m 26 ∧ mA m u = mA m σ + 1 ∧ RM m (ti x1) u)) := by
    intro u q1 q2 q3 q4 q5 q6 q7 q8 q9
    have eA : mA m u = mA m σ + 1 := by unfold mA; rw [q4, e1]
    refine ⟨q1, q2, Or.inr ⟨q3, eA, ?_⟩⟩
    unfold RM
    rw [eA, q5, q6, q7, q8, q4, tn, kp_cn q1, kp_cn q1, c1n, c11n]
    exact q9
  unfold RM RQ at hr
  have hrA : mA m σ = (sx_I σ m 27).toInt := rfl
  -- the last ones
  have last : ∀ u, (x2.toInt ≠ 6 ∧ x2.toInt ≠ 12) → TL m (wx_I (wx_I σ m 27 (sx_I σ m 27 + 1)) m 38 0) u → CM m (ti x1) σ u := by
    intro u hx6 hu
    obtain ⟨t1, t2, t3, t4, t5⟩ := hu
    have a45 : sx_I u m 45 = sx_I σ m 45 := (t2 45 (by decide) (by decide) (by decide)).trans (m2 45 (by decide) (by decide))
    have g := fin u (kp_t kp2 t1) (fun k hk => (t2 k (by omega) (by omega) (by omega)).trans (m2 k (by omega) (by omega))) ((t2 26 (by decide) (by decide) (by decide)).trans (m2 26 (by decide) (by decide))) ((t2 27 (by decide) (by decide) (by decide)).trans m27) ((t2 38 (by decide) (by decide) (by decide)).trans m38) ((t2 32 (by decide) (by decide) (by decide)).trans (m2 32 (by decide) (by decide))) ((t2 28 (by decide) (by decide) (by decide)).trans (m2 28 (by decide) (by decide))) ((t2 37 (by decide) (by decide) (by decide)).trans (m2 37 (by decide) (by decide))) (by
      rw [t4, (t2 39 (by decide) (by decide) (by decide)).trans (m2 39 (by decide) (by decide)), l_0]
      rw [m2 36 (by decide) (by decide)] at t5
      unfold RQ
      rcases t5 with t5 | t5
      · rw [t5]; omega
      · rw [t5, show (2 : Int32).toInt = 2 from rfl]; omega)
    exact ⟨g.1, g.2.1, g.2.2, Or.inl ⟨a45, fun k => (t3 9 k (by decide)).trans (j2 9 k (by decide))⟩, fun e => by
      rcases t5 with q | q
      · rw [q, m2 36 (by decide) (by decide)]; exact e
      · rw [q]; decide⟩
  unfold fb_X9_comes_136
  refine ok_ite (fun c6 => ?_) (fun c6 => ok_ite (fun c12 => ?_) (fun c12 => ok_ite (fun c2 => ?_) (fun c2 => ?_)))
  · -- a signal
    have c6' := q_6.mp c6
    have hA90 := h90 (Or.inl c6')
    have hK : 0 ≤ (sx_I σ m 39).toInt ∧ (sx_I σ m 39).toInt < ((160 : Nat) : Int) := by omega
    have e39 : (sx_I σ m 39 + 1).toInt = (sx_I σ m 39).toInt + 1 := n_add1 (by omega) (by omega)
    have tk := ti_of hK.1
    refine ok_qb hs.r40 (ok_ck (by rw [hs.n21]; exact hK) (ok_qb hs.r41 (ok_ck (by rw [hs.n22]; exact hK) ?_)))
    generalize hv : wx_I (wx_I (wx_I (wx_I (wx_I σ m 27 (sx_I σ m 27 + 1)) m 38 0) (m + 21) (ti (sx_I σ m 39)) ((x3 / 100).toInt32)) (m + 22) (ti (sx_I σ m 39)) ((jreml x3 100).toInt32)) m 39 (sx_I σ m 39 + 1) = v
    have kv : KP m σ v := by rw [← hv]; exact kp_m (kp_a (kp_a kp2 rfl (by decide) (by decide)) rfl (by decide) (by decide)) rfl
    have vm : ∀ k, k ≠ 27 → k ≠ 38 → k ≠ 39 → sx_I v m k = sx_I σ m k := fun k a b c => by rw [← hv, gI_I, if_neg (by omega), gI_I, if_neg (by omega), gI_I, if_neg (by omega)]; exact m2 k a b
    have v27 : sx_I v m 27 = sx_I σ m 27 + 1 := by rw [← hv, gI_I, if_neg (by omega), gI_I, if_neg (by omega), gI_I, if_neg (by omega)]; exact m27
    have v38 : sx_I v m 38 = 0 := by rw [← hv, gI_I, if_neg (by omega), gI_I, if_neg (by omega), gI_I, if_neg (by omega)]; exact m38
    have v39 : sx_I v m 39 = sx_I σ m 39 + 1 := by rw [← hv, gI_I, if_pos ⟨rfl, rfl⟩]
    have v9 : ∀ k, sx_I v (m + 9) k = sx_I σ (m + 9) k := fun k => by rw [← hv, gI_I, if_neg (by omega), gI_I, if_neg (by omega), gI_I, if_neg (by omega)]; exact j2 9 k (by decide)
    have v21 : sx_I v (m + 21) (ti (sx_I σ m 39)) = (x3 / 100).toInt32 := by rw [← hv, gI_I, if_neg (by omega), gI_I, if_neg (by omega), gI_I, if_pos ⟨rfl, rfl⟩]
    have stay : CM m (ti x1) σ v := by
      have g := fin v kv (fun k hk => vm k (by omega) (by omega) (by omega)) (vm 26 (by decide) (by decide) (by decide)) v27 v38 (vm 32 (by decide) (by decide) (by decide)) (vm 28 (by decide) (by decide) (by decide)) (vm 37 (by decide) (by decide) (by decide)) (by
        rw [v39, e39, vm 30 (by decide) (by decide) (by decide), vm 36 (by decide) (by decide) (by decide)]
        unfold RQ
        omega)
      exact ⟨g.1, g.2.1, g.2.2, Or.inl ⟨vm 45 (by decide) (by decide) (by decide), v9⟩, fun e => by rw [vm 36 (by decide) (by decide) (by decide)]; exact e⟩
    have use : (sx_I σ m 30).toInt ≠ 6 → (sx_I σ m 30).toInt ≠ 1 → Ok (fb_X9_comes_213 n0 v m x3) (CM m (ti x1) σ) := by
      intro n6 n1
      unfold fb_X9_comes_213
      refine ok_ite (fun c3 => ?_) (fun _ => ok_some stay)
      have c3' := lg_eq c3
      refine ok_br (ok_keptOf hn (st_f kv.1 hs) (by rw [v39, e39]; omega)) (fun r hr2 => ?_)
      have hr3 : 0 ≤ r.toInt ∧ r.toInt < (sx_I v m 39).toInt := by
        rcases hr2 with ⟨-, q⟩ | q
        · exfalso
          refine q (ti (sx_I σ m 39)) (by rw [v39, e39]; omega) ?_
          rw [v21, c3', Int32.toInt32_toInt64]
        · exact q
      refine ok_bd (ok_uses hn (st_f kv.1 hs) (by rw [v39, e39]; omega) hr3.1 hr3.2) (fun y u7 hu7 => ?_)
      obtain ⟨⟨k7, f7, j7⟩, e7⟩ := hu7
      have k7 : KP m v u7 := k7
      have f7 : ∀ k, k ≠ 39 → sx_I u7 m k = sx_I v m k := f7
      have j7 : ∀ j k, 1 ≤ j → j ≠ 21 → j ≠ 22 → sx_I u7 (m + j) k = sx_I v (m + j) k := j7
      have e7 : (sx_I u7 m 39).toInt = (sx_I v m 39).toInt - 1 := e7
      have done : ∀ y0, CM m (ti x1) σ (wx_I (wx_I u7 m 29 y0) m 30 0) := by
        intro y0
        have wk : ∀ k, k ≠ 29 → k ≠ 30 → sx_I (wx_I (wx_I u7 m 29 y0) m 30 0) m k = sx_I u7 m k := fun k a b => by rw [gI_I, if_neg (by omega), gI_I, if_neg (by omega)]
        have w30 : sx_I (wx_I (wx_I u7 m 29 y0) m 30 0) m 30 = 0 := by rw [gI_I, if_pos ⟨rfl, rfl⟩]
        have wj : ∀ k, sx_I (wx_I (wx_I u7 m 29 y0) m 30 0) (m + 9) k = sx_I u7 (m + 9) k := fun k => by rw [gI_I, if_neg (by omega), gI_I, if_neg (by omega)]
        have g := fin (wx_I (wx_I u7 m 29 y0) m 30 0) (kp_m (kp_m (kp_t kv k7) rfl) rfl) (fun k hk => by rw [wk k (by omega) (by omega), f7 k (by omega), vm k (by omega) (by omega) (by omega)]) (by rw [wk 26 (by decide) (by decide), f7 26 (by decide), vm 26 (by decide) (by decide) (by decide)]) (by rw [wk 27 (by decide) (by decide), f7 27 (by decide), v27]) (by rw [wk 38 (by decide) (by decide), f7 38 (by decide), v38]) (by rw [wk 32 (by decide) (by decide), f7 32 (by decide), vm 32 (by decide) (by decide) (by decide)]) (by rw [wk 28 (by decide) (by decide), f7 28 (by decide), vm 28 (by decide) (by decide) (by decide)]) (by rw [wk 37 (by decide) (by decide), f7 37 (by decide), vm 37 (by decide) (by decide) (by decide)]) (by
          rw [wk 39 (by decide) (by decide), e7, v39, e39, w30, l_0, wk 36 (by decide) (by decide), f7 36 (by decide), vm 36 (by decide) (by decide) (by decide)]
          unfold RQ
          omega)
        refine ⟨g.1, g.2.1, g.2.2, Or.inl ⟨by rw [wk 45 (by decide) (by decide), f7 45 (by decide), vm 45 (by decide) (by decide) (by decide)], fun k => by rw [wj, j7 9 k (by decide) (by decide) (by decide), v9]⟩, fun e => by rw [wk 36 (by decide) (by decide), f7 36 (by decide), vm 36 (by decide) (by decide) (by decide)]; exact e⟩
      unfold fb_X9_comes_256
      exact ok_ite (fun _ => ok_some (done 1)) (fun _ => ok_some (done y))
    exact ok_ite (fun c => use (by rw [q_3] at c; omega) (by rw [q_3] at c; omega)) (fun _ => ok_ite (fun c => use (by rw [q_4] at c; omega) (by rw [q_4] at c; omega)) (fun _ => ok_some stay))
  · -- asked
    have c12' := q_12.mp c12
    have hA90 := h90 (Or.inr c12')
    have f356 : ∀ u, KP m σ u → (∀ k, 46 ≤ k → sx_I u m k = sx_I σ m k) → (∀ k, k ≠ 27 → k ≠ 38 → k < 45 → sx_I u m k = sx_I σ m k) → sx_I u m 27 = sx_I σ m 27 + 1 → sx_I u m 38 = 0 → sx_I σ m 36 = 0 → KP m σ (wx_I (wx_I u m 30 0) m 36 3) ∧ (∀ k, 46 ≤ k → sx_I (wx_I (wx_I u m 30 0) m 36 3) m k = sx_I σ m k) ∧ (sx_I (wx_I (wx_I u m 30 0) m 36 3) m 26 = 0 ∨ (sx_I (wx_I (wx_I u m 30 0) m 36 3) m 26 = sx_I σ m 26 ∧ mA m (wx_I (wx_I u m 30 0) m 36 3) = mA m σ + 1 ∧ RM m (ti x1) (wx_I (wx_I u m 30 0) m 36 3))) := by
      intro u q1 q2 q3 q4 q5 q6
      have wk : ∀ k, k ≠ 30 → k ≠ 36 → sx_I (wx_I (wx_I u m 30 0) m 36 3) m k = sx_I u m k := fun k a b => by rw [gI_I, if_neg (by omega), gI_I, if_neg (by omega)]
      have w30 : sx_I (wx_I (wx_I u m 30 0) m 36 3) m 30 = 0 := by rw [gI_I, if_neg (by omega), gI_I, if_pos ⟨rfl, rfl⟩]
      have w36 : sx_I (wx_I (wx_I u m 30 0) m 36 3) m 36 = 3 := by rw [gI_I, if_pos ⟨rfl, rfl⟩]
      refine fin _ (kp_m (kp_m q1 rfl) rfl) (fun k hk => by rw [wk k (by omega) (by omega)]; exact q2 k hk) ?_ ?_ ?_ ?_ ?_ ?_ ?_
      · rw [wk 26 (by decide) (by decide)]; exact q3 26 (by decide) (by decide) (by decide)
      · rw [wk 27 (by decide) (by decide)]; exact q4
      · rw [wk 38 (by decide) (by decide)]; exact q5
      · rw [wk 32 (by decide) (by decide)]; exact q3 32 (by decide) (by decide) (by decide)
      · rw [wk 28 (by decide) (by decide)]; exact q3 28 (by decide) (by decide) (by decide)
      · rw [wk 37 (by decide) (by decide)]; exact q3 37 (by decide) (by decide) (by decide)
      · rw [wk 39 (by decide) (by decide), q3 39 (by decide) (by decide) (by decide), w30, w36, l_0, show (3 : Int32).toInt = 3 from rfl]
        have := q_0.mp q6
        unfold RQ
        omega
    have s356 : sx_I σ m 36 = 0 → Ok (fb_X9_comes_356 n0 (wx_I (wx_I σ m 27 (sx_I σ m 27 + 1)) m 38 0) m) (CM m (ti x1) σ) := by
      intro c36
      unfold fb_X9_comes_356
      have g := f356 _ kp2 (fun k hk => m2 k (by omega) (by omega)) (fun k a b _ => m2 k a b) m27 m38 c36
      refine ok_some ⟨g.1, g.2.1, g.2.2, Or.inl ⟨by rw [gI_I, if_neg (by omega), gI_I, if_neg (by omega)]; exact m2 45 (by decide) (by decide), fun k => by rw [gI_I, if_neg (by omega), gI_I, if_neg (by omega)]; exact j2 9 k (by decide)⟩, fun e => absurd c36 e⟩
    refine ok_ite (fun c34 => ok_ite (fun c36 => ok_ite (fun c30 => ok_ite (fun _ => s356 c36) (fun c47 => ?_)) (fun _ => s356 c36)) (fun c36 => ok_some ?_)) (fun c34 => ok_some ?_)
    · have b1 : 0 ≤ x1.toInt ∧ x1.toInt < ((sx_N σ (m + 9) : Nat) : Int) := by rw [hs.n9]; omega
      have hq' := hq c47
      refine ok_qb hs.r12 (ok_ck b1 (ok_ite (fun _ => s356 c36) (fun cg => ok_qb hs.r12 (ok_ck b1 (ok_qb hs.r46 (ok_ck (by rw [hs.n25]; omega) ?_))))))
      rw [n_le] at cg
      unfold fb_X9_comes_356
      have e45 : (sx_I σ m 45 + 1).toInt = (sx_I σ m 45).toInt + 1 := n_add1 (by omega) (by omega)
      generalize hv : wx_I (wx_I (wx_I (wx_I (wx_I σ m 27 (sx_I σ m 27 + 1)) m 38 0) (m + 9) (ti x1) (sx_I σ m 27 + 1)) (m + 25) (ti (sx_I σ m 45)) (sx_I σ m 31)) m 45 (sx_I σ m 45 + 1) = v
      have kv : KP m σ v := by rw [← hv]; exact kp_m (kp_a (kp_a kp2 rfl (by decide) (by decide)) rfl (by decide) (by decide)) rfl
      have vm : ∀ k, k ≠ 27 → k ≠ 38 → k ≠ 45 → sx_I v m k = sx_I σ m k := fun k a b c => by rw [← hv, gI_I, if_neg (by omega), gI_I, if_neg (by omega), gI_I, if_neg (by omega)]; exact m2 k a b
      have v27 : sx_I v m 27 = sx_I σ m 27 + 1 := by rw [← hv, gI_I, if_neg (by omega), gI_I, if_neg (by omega), gI_I, if_neg (by omega)]; exact m27
      have v38 : sx_I v m 38 = 0 := by rw [← hv, gI_I, if_neg (by omega), gI_I, if_neg (by omega), gI_I, if_neg (by omega)]; exact m38
      have v45 : sx_I v m 45 = sx_I σ m 45 + 1 := by rw [← hv, gI_I, if_pos ⟨rfl, rfl⟩]
      have v9 : ∀ k, sx_I v (m + 9) k = if k = ti x1 then sx_I σ m 27 + 1 else sx_I σ (m + 9) k := fun k => by
        rw [← hv, gI_I, if_neg (by omega), gI_I, if_neg (by omega), gI_I]
        by_cases e : k = ti x1
        · rw [if_pos ⟨rfl, e⟩, if_pos e]
        · rw [if_neg (fun q => e q.2), if_neg e]
          exact j2 9 k (by decide)
      have g := f356 v kv (fun k hk => vm k (by omega) (by omega) (by omega)) (fun k a b c => vm k a b (by omega)) v27 v38 c36
      refine ok_some ⟨g.1, g.2.1, g.2.2, Or.inr ⟨⟨by rw [← hx]; exact c12, c34, c36, c30, c47, by unfold mA; omega⟩, ?_, fun k hk => ?_, ?_, ?_⟩, fun e => absurd c36 e⟩
      · rw [gI_I, if_neg (by omega), gI_I, if_neg (by omega), v45, e45]
      · rw [gI_I, if_neg (by omega), gI_I, if_neg (by omega), v9, if_neg hk]
      · rw [gI_I, if_neg (by omega), gI_I, if_neg (by omega), v9, if_pos rfl, e1]
        rfl
      · rw [gI_I, if_pos ⟨rfl, rfl⟩]
        decide
    · have g := fin _ kp2 (fun k hk => m2 k (by omega) (by omega)) (m2 26 (by decide) (by decide)) m27 m38 (m2 32 (by decide) (by decide)) (m2 28 (by decide) (by decide)) (m2 37 (by decide) (by decide)) (by
        rw [m2 39 (by decide) (by decide), m2 30 (by decide) (by decide), m2 36 (by decide) (by decide)]
        rw [q_0] at c36
        unfold RQ
        omega)
      exact ⟨g.1, g.2.1, g.2.2, Or.inl ⟨m2 45 (by decide) (by decide), fun k => j2 9 k (by decide)⟩, fun e => by rw [m2 36 (by decide) (by decide)]; exact e⟩
    · have wk : ∀ k, k ≠ 35 → sx_I (wx_I (wx_I (wx_I σ m 27 (sx_I σ m 27 + 1)) m 38 0) m 35 1) m k = sx_I (wx_I (wx_I σ m 27 (sx_I σ m 27 + 1)) m 38 0) m k := fun k a => by rw [gI_I, if_neg (by omega)]
      have g := fin (wx_I (wx_I (wx_I σ m 27 (sx_I σ m 27 + 1)) m 38 0) m 35 1) (kp_m kp2 rfl) (fun k hk => by rw [wk k (by omega)]; exact m2 k (by omega) (by omega)) (by rw [wk 26 (by decide)]; exact m2 26 (by decide) (by decide)) (by rw [wk 27 (by decide)]; exact m27) (by rw [wk 38 (by decide)]; exact m38) (by rw [wk 32 (by decide)]; exact m2 32 (by decide) (by decide)) (by rw [wk 28 (by decide)]; exact m2 28 (by decide) (by decide)) (by rw [wk 37 (by decide)]; exact m2 37 (by decide) (by decide)) (by
        rw [wk 39 (by decide), wk 30 (by decide), wk 36 (by decide), m2 39 (by decide) (by decide), m2 30 (by decide) (by decide), m2 36 (by decide) (by decide)]
        unfold RQ
        omega)
      refine ⟨g.1, g.2.1, g.2.2, Or.inl ⟨by rw [wk 45 (by decide)]; exact m2 45 (by decide) (by decide), fun k => by rw [gI_I, if_neg (by omega)]; exact j2 9 k (by decide)⟩, fun e => by rw [wk 36 (by decide), m2 36 (by decide) (by decide)]; exact e⟩
  · have hx6 : x2.toInt ≠ 6 ∧ x2.toInt ≠ 12 := ⟨fun e => c6 (q_6.mpr e), fun e => c12 (q_12.mpr e)⟩
    exact ok_ite (fun _ => ok_m (tl_409 t0_r) (fun u hu => last u hx6 hu)) (fun _ => ok_m (tl_388 t0_r) (fun u hu => last u hx6 hu))
  · have hx6 : x2.toInt ≠ 6 ∧ x2.toInt ≠ 12 := ⟨fun e => c6 (q_6.mpr e), fun e => c12 (q_12.mpr e)⟩
    exact ok_m (tl_388 t0_r) (fun u hu => last u hx6 hu)
theorem ok_comes {x1 : Int32} (hn : 1000001 ≤ n0) (h : MI m s σ) (h0 : 0 ≤ x1.toInt) (h1 : x1.toInt ≤ 40) (hr : RM m (ti x1) σ) (hf : sx_I σ m 26 ≠ 0) (hO : (sx_I σ m 37).toInt = 0) (hW : (sx_I σ m 30).toInt ≠ 0) (hlt : mA m σ < mE m σ (ti x1)) (hq : sx_I σ m 47 ≠ 0 → 0 ≤ (sx_I σ m 45).toInt ∧ (sx_I σ m 45).toInt < 400) : Ok (f_X9_comes n0 σ m x1) (CM m (ti x1) σ) := by
  have hs := h.st
  have hA : 1 ≤ (sx_I σ m 27).toInt ∧ (sx_I σ m 27).toInt ≤ 134 := ⟨hr.1.1, hr.1.2.1⟩
  have i1 := n_160 (w := x1) (a := sx_I σ m 27) h0 h1 (by omega) (by omega)
  have i2 := ti_160 (w := x1) (a := sx_I σ m 27) h0 h1 (by omega) (by omega)
  have ik : 0 ≤ (160 * x1 + sx_I σ m 27).toInt ∧ (160 * x1 + sx_I σ m 27).toInt < ((6560 : Nat) : Int) := by omega
  have out : CM m (ti x1) σ (wx_I σ m 26 0) := by
    refine ⟨kp_m kp_r rfl, fun k hk => by rw [gI_I, if_neg (by omega)], Or.inl (by rw [gI_I, if_pos ⟨rfl, rfl⟩]), Or.inl ⟨by rw [gI_I, if_neg (by omega)], fun k => by rw [gI_I, if_neg (by omega)]⟩, fun e => by rw [gI_I, if_neg (by omega)]; exact e⟩
  generalize hx : sx_I σ (m + 11) (ti (160 * x1 + sx_I σ m 27)) = x2
  have hx2 : x2 = sx_I σ (m + 11) (160 * ti x1 + ti (sx_I σ m 27)) := by rw [← hx, i2]
  have g136 : ∀ x3, _ → Ok (fb_X9_comes_136 n0 σ m x1 x2 x3) (CM m (ti x1) σ) := fun x3 hk => ok_comes136 (x3 := x3) hn h h0 h1 hr hf hO hW hlt hx2 hq hk
  have g104 : ∀ x3, Ok (fb_X9_comes_104 n0 σ m x1 x2 x3) (CM m (ti x1) σ) := fun x3 => by
    unfold fb_X9_comes_104
    exact ok_ite (fun c => ok_ite (fun c2 => g136 x3 (Or.inr (Or.inr (Or.inr ⟨q_8.mp c, q_5.mp c2⟩)))) (fun _ => ok_some out)) (fun _ => ok_some out)
  have g83 : ∀ x3, Ok (fb_X9_comes_83 n0 σ m x1 x2 x3) (CM m (ti x1) σ) := fun x3 => by
    unfold fb_X9_comes_83
    exact ok_ite (fun c => ok_ite (fun c2 => g136 x3 (Or.inr (Or.inr (Or.inl ⟨q_5.mp c, Or.inl (q_2.mp c2)⟩)))) (fun _ => ok_ite (fun c2 => g136 x3 (Or.inr (Or.inr (Or.inl ⟨q_5.mp c, Or.inr (q_4.mp c2)⟩)))) (fun _ => g104 x3))) (fun _ => g104 x3)
  have g54 : ∀ x3 y0, (y0 ≠ 0 → (sx_I σ m 30).toInt = 1 ∨ (sx_I σ m 30).toInt = 6) → Ok (fb_X9_comes_54 n0 σ m x1 x2 x3 y0) (CM m (ti x1) σ) := fun x3 y0 hy => by
    unfold fb_X9_comes_54
    exact ok_ite (fun c => g136 x3 (Or.inl (Or.inl (q_6.mp c)))) (fun _ => ok_ite (fun c => g136 x3 (Or.inl (Or.inr (q_12.mp c)))) (fun _ => ok_ite (fun _ => g83 x3) (fun cy => ok_ite (fun c => g136 x3 (Or.inr (Or.inl ⟨Or.inl (q_2.mp c), hy cy⟩))) (fun _ => ok_ite (fun c => g136 x3 (Or.inr (Or.inl ⟨Or.inr (q_3.mp c), hy cy⟩))) (fun _ => g83 x3)))))
  unfold f_X9_comes fb_X9_comes_49
  refine ok_qb hs.r14 (ok_ck (by rw [hs.n11]; exact ik) (ok_qb hs.r15 (ok_ck (by rw [hs.n12]; exact ik) (ok_ite (fun c => ?_) (fun _ => ok_ite (fun c => ?_) (fun _ => ?_))))))
  · rw [hx]; exact g54 _ _ (fun _ => Or.inl (q_1.mp c))
  · rw [hx]; exact g54 _ _ (fun _ => Or.inr (q_6.mp c))
  · rw [hx]; exact g54 _ _ (fun e => absurd rfl e)
end M4
