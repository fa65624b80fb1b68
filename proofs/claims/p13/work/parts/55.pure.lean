section M6
variable {m : Nat} {σ σ1 v u : sx_T} {s : Int} {n0 w : Nat} {x2 x3 : Int32}
/-- writes of fields that are spoken of afterwards -/
def vk (k : Nat) : Bool := k == 29 || k == 30 || k == 31 || k == 34 || k == 35 || k == 36 || k == 37 || k == 49
def VW (m : Nat) (σ u : sx_T) : Prop := KP m σ u ∧ XS m σ u ∧ sx_I u m 48 = sx_I σ m 48 ∧ ∀ k, k = 26 ∨ k = 27 ∨ k = 28 ∨ k = 32 ∨ k = 38 ∨ k = 39 → sx_I u m k = sx_I σ m k
theorem vw_r : VW m σ σ := ⟨kp_r, xs_r, rfl, fun _ _ => rfl⟩
theorem vw_m {k : Nat} {x : Int32} (h : VW m σ u) (hk : vk k = true) : VW m σ (wx_I u m k x) := by
  have h1 : k ≠ 1 ∧ k ≠ 6 ∧ k ≠ 16 ∧ k ≠ 43 ∧ k ≠ 45 ∧ k ≠ 47 ∧ k ≠ 48 ∧ k ≠ 26 ∧ k ≠ 27 ∧ k ≠ 28 ∧ k ≠ 32 ∧ k ≠ 38 ∧ k ≠ 39 := by
    refine ⟨?_, ?_, ?_, ?_, ?_, ?_, ?_, ?_, ?_, ?_, ?_, ?_, ?_⟩ <;> (intro e; rw [e] at hk; cases hk)
  have h0 : k ≠ 0 := by
    intro e
    rw [e] at hk
    cases hk
  have h2 : kpf k = false := by
    unfold kpf
    simp [h0, h1.1, h1.2.1, h1.2.2.1, h1.2.2.2.1]
  exact ⟨kp_m h.1 h2, xs_m h.2.1 (by omega), by rw [gI_I, if_neg (by omega)]; exact h.2.2.1, fun j hj => by rw [gI_I, if_neg (by omega)]; exact h.2.2.2 j hj⟩
theorem ke {k : Nat} {x : Int32} : sx_I (wx_I σ m k x) m k = x := by rw [gI_I, if_pos ⟨rfl, rfl⟩]
theorem kn {k k' : Nat} {x : Int32} (h : k' ≠ k) : sx_I (wx_I σ m k x) m k' = sx_I σ m k' := by rw [gI_I, if_neg (by omega)]
def mz (m : Nat) (σ : sx_T) : Int := 300 * (140 - mA m σ) + (if (sx_I σ m 36).toInt = 0 then 4 * (62 - (sx_I σ m 38).toInt) else 0)
/-- what a step leaves -/
def ZP (m : Nat) (s : Int) (w : Nat) (x2 x3 : Int32) (σ : sx_T) (r : Int32 × sx_T) : Prop := MI m s r.2 ∧ LR m σ r.2 ∧ XS m σ r.2 ∧ BW m x3 σ r.2 ∧ (sx_I r.2 m 26 = 0 ∨ (RM m w r.2 ∧ RB m w x2 r.2 ∧ (r.1 = 0 → x2.toInt ≤ mA m r.2) ∧ (r.1 ≠ 0 → mz m r.2 < mz m σ)))
/-- a step has begun -/
def S1 (m : Nat) (s : Int) (w : Nat) (x2 : Int32) (σ σ1 : sx_T) : Prop := MI m s σ1 ∧ KP m σ σ1 ∧ XS m σ σ1 ∧ sx_I σ1 m 48 = -1 ∧ RM m w σ1 ∧ RB m w x2 σ1 ∧ sx_I σ1 m 26 ≠ 0 ∧ mA m σ1 = mA m σ ∧ (sx_I σ m 36).toInt = 0 ∧ (sx_I σ1 m 38).toInt = (sx_I σ m 38).toInt + 1 ∧ (sx_I σ1 m 30).toInt = 0 ∧ (sx_I σ1 m 36).toInt = 0 ∧ (sx_I σ1 m 37).toInt = 0 ∧ 1 ≤ (sx_I σ1 m 38).toInt
theorem mz_lt (h36 : (sx_I σ m 36).toInt = 0) (hS : (sx_I σ m 38).toInt ≤ 60) (h : (mA m u = mA m σ + 1 ∧ 0 ≤ (sx_I u m 38).toInt) ∨ (mA m u = mA m σ ∧ ((sx_I u m 36).toInt ≠ 0 ∨ (sx_I u m 38).toInt = (sx_I σ m 38).toInt + 1))) : mz m u < mz m σ := by
  unfold mz
  rw [if_pos h36]
  split <;> omega
theorem bw_kp (h : BW m x3 σ u) (kp : KP m u v) (e : sx_I v m 48 = sx_I u m 48) : BW m x3 σ v := by
  unfold BW at h ⊢
  rw [e, kp_W kp]
  exact h
theorem bw_l (kp : KP m σ σ1) (h : BW m x3 σ1 v) : BW m x3 σ v := by
  unfold BW at h ⊢
  rw [← kp_W kp]
  exact h
theorem lfE {b : Int} {r : Int32} (h : S1 m s w x2 σ σ1) (hu : ET m s w x2 x3 b σ1 u) (vw : VW m u v) (hr : r ≠ 0) (hw : 0 ≤ (sx_I v m 36).toInt ∧ 0 ≤ (sx_I v m 37).toInt ∧ (b = 0 ∨ (b = 1 ∧ (sx_I v m 30).toInt = 1)) ∧ ((sx_I v m 37).toInt = 0 → mA m σ1 ≤ 59 ∧ (((sx_I v m 36).toInt = 0 ∧ ((sx_I v m 30).toInt = 0 ∨ (sx_I v m 30).toInt = 1 ∨ (sx_I v m 30).toInt = 2 ∨ (sx_I v m 30).toInt = 4 ∨ (sx_I v m 30).toInt = 5)) ∨ ((sx_I v m 36).toInt ≠ 0 ∧ (sx_I v m 30).toInt = 0)))) : ZP m s w x2 x3 σ (r, v) := by
  obtain ⟨-, k1, xs1, -, rm, -, -, eA1, h36, h38, a30, a36, a37, -⟩ := h
  obtain ⟨m1, l1, xu, bw, n26, eA, rb, c1, c11, fs⟩ := hu
  obtain ⟨kp, xv, e48, ev⟩ := vw
  have eAv : mA m v = mA m u := by unfold mA; rw [ev 27 (by omega)]
  refine ⟨mi_kp m1 kp, lr_t (lr_kp k1) (lr_t l1 (lr_kp kp)), xs_t xs1 (xs_t xu xv), bw_l k1 (bw_kp bw kp e48), Or.inr ⟨?_, rb_e rb eAv (kp_E kp w), fun e => absurd e hr, fun _ => ?_⟩⟩
  · unfold RM at rm ⊢
    show RQ (mA m v) (sx_I v m 32).toInt (sx_I v m 38).toInt (sx_I v m 39).toInt (sx_I v m 28).toInt (sx_I v m 30).toInt (sx_I v m 36).toInt (sx_I v m 37).toInt (cn m v 1 w (ti (sx_I v m 27))) (cn m v 11 w (ti (sx_I v m 27)))
    rw [kp_cn kp, kp_cn kp, eAv, eA, ev 27 (by omega), c1, c11, ev 28 (by omega), ev 32 (by omega), ev 38 (by omega), ev 39 (by omega), fs 28 (by omega), fs 32 (by omega), fs 38 (by omega), fs 39 (by omega)]
    rw [a30, a36, a37] at rm
    unfold RQ at rm ⊢
    omega
  · unfold RM RQ at rm
    refine mz_lt h36 (by omega) (Or.inl ⟨by show mA m v = _; omega, ?_⟩)
    show 0 ≤ (sx_I v m 38).toInt
    rw [ev 38 (by omega), fs 38 (by omega)]
    omega
theorem lfN (h : S1 m s w x2 σ σ1) (kp : KP m σ1 v) (xs : XS m σ1 v) (e : ∀ k, k = 26 ∨ k = 27 ∨ k = 48 ∨ k = 37 ∨ k = 38 → sx_I v m k = sx_I σ1 m k) (p28 : 0 ≤ (sx_I v m 28).toInt ∧ (sx_I v m 28).toInt ≤ 19) (p32 : 0 ≤ (sx_I v m 32).toInt ∧ (sx_I v m 32).toInt ≤ 20) (p39 : 0 ≤ (sx_I v m 39).toInt ∧ (sx_I v m 39).toInt ≤ (sx_I σ1 m 39).toInt) (hw : ((sx_I v m 36).toInt = 0 ∧ ((sx_I v m 30).toInt = 0 ∨ (sx_I v m 30).toInt = 3)) ∨ (0 < (sx_I v m 36).toInt ∧ (sx_I v m 30).toInt = 0)) : ZP m s w x2 x3 σ (1, v) := by
  obtain ⟨m1, k1, xs1, h48, rm, rb, n26, eA1, h36, h38, a30, a36, a37, -⟩ := h
  have eAv : mA m v = mA m σ1 := by unfold mA; rw [e 27 (by omega)]
  refine ⟨mi_kp m1 kp, lr_t (lr_kp k1) (lr_kp kp), xs_t xs1 xs, Or.inl ⟨(e 48 (by omega)).trans h48, (kp_W kp).trans (kp_W k1)⟩, Or.inr ⟨?_, rb_e rb eAv (kp_E kp w), fun e => absurd e (by decide : ¬ (1 : Int32) = 0), fun _ => ?_⟩⟩
  · unfold RM at rm ⊢
    show RQ (mA m v) (sx_I v m 32).toInt (sx_I v m 38).toInt (sx_I v m 39).toInt (sx_I v m 28).toInt (sx_I v m 30).toInt (sx_I v m 36).toInt (sx_I v m 37).toInt (cn m v 1 w (ti (sx_I v m 27))) (cn m v 11 w (ti (sx_I v m 27)))
    rw [kp_cn kp, kp_cn kp, eAv, e 27 (by omega), e 38 (by omega), e 37 (by omega)]
    rw [a30, a36, a37] at rm
    rw [a37]
    unfold RQ at rm ⊢
    omega
  · unfold RM RQ at rm
    refine mz_lt h36 (by omega) (Or.inr ⟨by show mA m v = _; omega, ?_⟩)
    show (sx_I v m 36).toInt ≠ 0 ∨ (sx_I v m 38).toInt = _
    rw [e 38 (by omega)]
    exact Or.inr h38
theorem lfF {x8 x10 : Int32} (h : S1 m s w x2 σ σ1) (hu : EF m x2 σ1 u) (vw : VW m u v) (h8 : 0 ≤ x8.toInt ∧ x8.toInt ≤ 19) (hr : x10 = 0) (hw : sx_I u m 26 ≠ 0 → (sx_I v m 30).toInt = 0 ∧ (sx_I v m 36).toInt = 0 ∧ (sx_I v m 37).toInt = 0) : Ok (fb_X9_steps_1085 n0 v m x8 x10) (ZP m s w x2 x3 σ) := by
  obtain ⟨m1, k1, xs1, h48, rm, rb, n26, eA1, h36, h38, a30, a36, a37, S1'⟩ := h
  obtain ⟨ku, xu, u48, fu⟩ := hu
  obtain ⟨kp, xv, e48, ev⟩ := vw
  have kv := kp_t ku kp
  unfold fb_X9_steps_1085
  refine ok_p hr (ok_ite (fun c => ok_some ⟨mi_kp m1 kv, lr_t (lr_kp k1) (lr_kp kv), xs_t xs1 (xs_t xu xv), Or.inl ⟨e48.trans (u48.trans h48), (kp_W kv).trans (kp_W k1)⟩, Or.inl c⟩) (fun c => ok_some ?_))
  rw [ev 26 (by omega)] at c
  rcases fu with e | ⟨fu, hx⟩
  · exact absurd e c
  obtain ⟨b30, b36, b37⟩ := hw c
  have e38 : (sx_I v m 38 - 1).toInt = (sx_I v m 38).toInt - 1 := n_sub1 (by rw [ev 38 (by omega), fu 38 (by decide) (by decide) (by decide)]; omega)
  have e27 : sx_I v m 27 = sx_I σ1 m 27 := (ev 27 (by omega)).trans (fu 27 (by decide) (by decide) (by decide))
  have kz : KP m v (wx_I (wx_I v m 28 x8) m 38 (sx_I v m 38 - 1)) := kp_m (kp_m kp_r rfl) rfl
  have eA : mA m (wx_I (wx_I v m 28 x8) m 38 (sx_I v m 38 - 1)) = mA m σ1 := by unfold mA; rw [kn (by decide), kn (by decide), e27]
  refine ⟨mi_kp m1 (kp_t kv kz), lr_t (lr_kp k1) (lr_kp (kp_t kv kz)), xs_t xs1 (xs_t xu (xs_t xv (xs_m (xs_m xs_r (by decide)) (by decide)))), Or.inl ⟨by show sx_I (wx_I (wx_I v m 28 x8) m 38 (sx_I v m 38 - 1)) m 48 = -1; rw [kn (by decide), kn (by decide)]; exact e48.trans (u48.trans h48), (kp_W (kp_t kv kz)).trans (kp_W k1)⟩, Or.inr ⟨?_, rb_e rb eA (kp_E (kp_t kv kz) w), fun _ => by show x2.toInt ≤ mA m (wx_I (wx_I v m 28 x8) m 38 (sx_I v m 38 - 1)); omega, fun e => absurd hr e⟩⟩
  unfold RM at rm ⊢
  show RQ (mA m (wx_I (wx_I v m 28 x8) m 38 (sx_I v m 38 - 1))) (sx_I (wx_I (wx_I v m 28 x8) m 38 (sx_I v m 38 - 1)) m 32).toInt (sx_I (wx_I (wx_I v m 28 x8) m 38 (sx_I v m 38 - 1)) m 38).toInt (sx_I (wx_I (wx_I v m 28 x8) m 38 (sx_I v m 38 - 1)) m 39).toInt (sx_I (wx_I (wx_I v m 28 x8) m 38 (sx_I v m 38 - 1)) m 28).toInt (sx_I (wx_I (wx_I v m 28 x8) m 38 (sx_I v m 38 - 1)) m 30).toInt (sx_I (wx_I (wx_I v m 28 x8) m 38 (sx_I v m 38 - 1)) m 36).toInt (sx_I (wx_I (wx_I v m 28 x8) m 38 (sx_I v m 38 - 1)) m 37).toInt (cn m (wx_I (wx_I v m 28 x8) m 38 (sx_I v m 38 - 1)) 1 w (ti (sx_I (wx_I (wx_I v m 28 x8) m 38 (sx_I v m 38 - 1)) m 27))) (cn m (wx_I (wx_I v m 28 x8) m 38 (sx_I v m 38 - 1)) 11 w (ti (sx_I (wx_I (wx_I v m 28 x8) m 38 (sx_I v m 38 - 1)) m 27)))
  rw [kp_cn (kp_t kv kz), kp_cn (kp_t kv kz), eA, ke]
  have g : ∀ k, k ≠ 28 → k ≠ 38 → sx_I (wx_I (wx_I v m 28 x8) m 38 (sx_I v m 38 - 1)) m k = sx_I v m k := fun k a b => by rw [kn b, kn a]
  rw [g 27 (by decide) (by decide), g 32 (by decide) (by decide), g 39 (by decide) (by decide), g 30 (by decide) (by decide), g 36 (by decide) (by decide), g 37 (by decide) (by decide), kn (by decide : 28 ≠ 38), ke, e38, e27, b30, b36, b37, ev 32 (by omega), ev 39 (by omega), ev 38 (by omega), fu 32 (by decide) (by decide) (by decide), fu 39 (by decide) (by decide) (by decide), fu 38 (by decide) (by decide) (by decide)]
  rw [a30, a36, a37] at rm
  unfold RQ at rm ⊢
  omega
/-- a step's end that was made -/
theorem l1085 {x8 x10 : Int32} (hr : x10 ≠ 0) (h : ZP m s w x2 x3 σ (x10, v)) : Ok (fb_X9_steps_1085 n0 v m x8 x10) (ZP m s w x2 x3 σ) := by
  unfold fb_X9_steps_1085
  exact ok_n hr (ok_some h)
/-- a drawing -/
theorem ok_draws {x1 x3 x4 : Int32} (h : MI m s σ) (h0 : 0 ≤ x1.toInt) (h1 : x1.toInt ≤ 40) (hlv : x3 ≠ 0 → x1.toInt < mW m σ) (hA : 1 ≤ mA m σ ∧ mA m σ ≤ 134) (hB : RB m (ti x1) x2 σ) (hf : sx_I σ m 26 ≠ 0) (h48 : sx_I σ m 48 = -1) (p4 : 0 ≤ x4.toInt ∧ x4.toInt ≤ 99) : Ok (f_X9_draws σ m x1 x2 x3 x4) (fun r => (r.1 = 0 ∧ EF m x2 σ r.2) ∨ (r.1 ≠ 0 ∧ ET m s (ti x1) x2 x3 0 σ r.2 ∧ E3 m σ r.2)) := by
  have nz4 : ¬ x4 + 1 = 0 := fun e => by
    have := n_add1 (x := x4) (by omega) (by omega)
    rw [e, l_0] at this
    omega
  have go : ∀ (z : sx_T), KP m σ z → (∀ k, 3 ≤ k → sx_I z m k = sx_I σ m k) → (∀ j k, 1 ≤ j → sx_I z (m + j) k = sx_I σ (m + j) k) → Ok (fb_X9_draws_29 z m x1 x2 x3 x4) (fun r => (r.1 = 0 ∧ EF m x2 σ r.2) ∨ (r.1 ≠ 0 ∧ ET m s (ti x1) x2 x3 0 σ r.2 ∧ E3 m σ r.2)) := by
    intro z kz fz jz
    have eA : mA m z = mA m σ := by unfold mA; rw [fz 27 (by decide)]
    have xz : XS m σ z := ⟨fz 45 (by decide), fz 47 (by decide), fun k => jz 9 k (by decide)⟩
    unfold fb_X9_draws_29 fb_X9_draws_70
    refine ok_nz nz4 (ok_bd (ok_meets (x4 := 9) (mi_kp h kz) h0 h1 (by rw [kp_W kz]; exact hlv) (by rw [eA]; exact hA) (rb_e hB eA (kp_E kz _)) (by rw [fz 26 (by decide)]; exact hf) (by decide) (fun e => absurd e (by decide)) (fun e => absurd e (by decide))) (fun r u hu => ?_))
    rcases hu with ⟨a, b⟩ | ⟨a, b, d⟩
    · have a : r = 0 := a
      refine ok_p a (ok_some (Or.inl ⟨a, ?_⟩))
      have b := ef_mf b
      obtain ⟨b1, b2, b3, b4⟩ := b
      refine ⟨kp_m (kp_t kz b1) rfl, xs_m (xs_t xz b2) (by decide), by rw [kn (by decide)]; exact b3.trans (fz 48 (by decide)), ?_⟩
      rcases b4 with e | ⟨e, e2⟩
      · left
        show sx_I (wx_I u m 29 (sx_I u m 29)) m 26 = 0
        rw [kn (by decide)]; exact e
      · right
        refine ⟨fun k q1 q2 q3 => ?_, by rw [eA] at e2; exact e2⟩
        show sx_I (wx_I u m 29 (sx_I u m 29)) m k = _
        rw [kn q3]
        exact (e k q1 q2 q3).trans (fz k (by omega))
    · have a : r ≠ 0 := a
      have d := et_mt (b := 0) (x3 := x3) (by rw [eA]; omega) (by rw [fz 48 (by decide)]; exact h48) d (by decide) rfl d.1
      obtain ⟨⟨d1, d2, d3, d4, d5, d6, d7, d8, d9, d10⟩, dE⟩ := d
      have uA : 1 ≤ (sx_I u m 27).toInt ∧ (sx_I u m 27).toInt ≤ 140 := by
        have d6 : mA m u = _ := d6
        unfold mA at d6 eA hA
        omega
      refine ok_n a (ok_bre (ok_latest d1.st h0 h1 uA) (ok_some (Or.inr ⟨a, ?_⟩)))
      generalize (sx_J u (m + 12) (160 * ti x1 + ti (sx_I u m 27) - 1)).toInt32 = y
      have kq : KP m u (wx_I u m 29 y) := kp_m kp_r rfl
      have eq : mA m (wx_I u m 29 y) = mA m u := by unfold mA; rw [kn (by decide)]
      refine ⟨⟨mi_kp d1 kq, lr_t (lr_kp kz) (lr_t d2 (lr_kp kq)), xs_t xz (xs_t d3 (xs_m xs_r (by decide))), bw_l kz (bw_kp d4 kq (kn (by decide))), by rw [kn (by decide)]; exact d5, by rw [eq, ← eA]; exact d6, rb_e d7 eq (kp_E kq _), ?_, ?_, fun k q1 => ?_⟩, fun k q1 => ?_⟩
      · rw [kn (by decide), kp_cn kq, d8, kp_cn kz, fz 27 (by decide)]
      · rw [kn (by decide), kp_cn kq, d9, kp_cn kz, fz 27 (by decide)]
      · rw [kn (by omega), d10 k q1, fz k (by omega)]
      · show sx_I (wx_I u m 29 y) m k = _
        rw [kn (by omega), dE k q1, fz k (by omega)]
  unfold f_X9_draws
  refine ok_ite (fun _ => go σ kp_r (fun _ _ => rfl) (fun _ _ _ => rfl)) (fun _ => ok_ite (fun _ => go σ kp_r (fun _ _ => rfl) (fun _ _ _ => rfl)) (fun _ => go _ (kp_m kp_r rfl) (fun k hk => kn (by omega)) (fun j k hj => by rw [gI_I, if_neg (by omega)])))
end M6
