section M10
variable {m w : Nat} {σ σ1 v u : sx_T} {s : Int} {n0 : Nat} {x2 : Int32} {x1 x3 : Int32}
theorem ok_isBounded {x : Int32} : ∃ r, f_X9_isBounded σ x = some r ∧ (r = 0 → x.toInt ≠ 1 ∧ x.toInt ≠ 2 ∧ x.toInt ≠ 4 ∧ x.toInt ≠ 9 ∧ x.toInt ≠ 10 ∧ x.toInt ≠ 11 ∧ x.toInt ≠ 14 ∧ x.toInt ≠ 17) := by
  have n1 : ¬ (1 : Int32) = 0 := by decide
  have k : Ok (f_X9_isBounded σ x) (fun r => r = 0 → x.toInt ≠ 1 ∧ x.toInt ≠ 2 ∧ x.toInt ≠ 4 ∧ x.toInt ≠ 9 ∧ x.toInt ≠ 10 ∧ x.toInt ≠ 11 ∧ x.toInt ≠ 14 ∧ x.toInt ≠ 17) := by
    unfold f_X9_isBounded
    refine ok_ite (fun _ => ok_some (fun e => absurd e n1)) (fun c1 => ok_ite (fun _ => ok_some (fun e => absurd e n1)) (fun c2 => ok_ite (fun _ => ok_some (fun e => absurd e n1)) (fun c3 => ok_ite (fun _ => ok_some (fun e => absurd e n1)) (fun c4 => ok_ite (fun _ => ok_some (fun e => absurd e n1)) (fun c5 => ok_ite (fun _ => ok_some (fun e => absurd e n1)) (fun c6 => ok_ite (fun _ => ok_some (fun e => absurd e n1)) (fun c7 => ok_ite (fun _ => ok_some (fun e => absurd e n1)) (fun c8 => ok_some (fun _ => ?_)))))))))
    rw [q_1] at c1
    rw [q_2] at c2
    rw [q_4] at c3
    rw [q_9] at c4
    rw [q_10] at c5
    rw [q_11] at c6
    rw [q_14] at c7
    rw [q_17] at c8
    exact ⟨c1, c2, c3, c4, c5, c6, c7, c8⟩
  exact k
/-- what a replaying holds as it goes on -/
def RG (m w : Nat) (x2 : Int32) (σ : sx_T) : Prop := RM m w σ ∧ RB m w x2 σ ∧ sx_I σ m 26 ≠ 0 ∧ sx_I σ m 48 = -1 ∧ (sx_I σ m 37).toInt = 0
theorem ok_steps (hn : 1000001 ≤ n0) (h : MI m s σ) (h0 : 0 ≤ x1.toInt) (h1 : x1.toInt ≤ 40) (hlv : x3 ≠ 0 → x1.toInt < mW m σ) (hg : RG m (ti x1) x2 σ) (h30 : (sx_I σ m 30).toInt = 0) (h36 : (sx_I σ m 36).toInt = 0) : Ok (f_X9_steps n0 σ m x1 x2 x3) (ZP m s (ti x1) x2 x3 σ) := by
  obtain ⟨rm, rb, n26, h48, h37⟩ := hg
  have hs := h.st
  have hwf := h.wf
  have tw := ti_of h0
  have hA := rq_a rm
  have rm' := rm
  unfold RM RQ at rm'
  have l2 : (2 : Int32).toInt = 2 := rfl
  have b41 : 0 ≤ x1.toInt ∧ x1.toInt < ((41 : Nat) : Int) := by omega
  obtain ⟨g1, -⟩ := h.pw (ti x1) (by omega)
  unfold f_X9_steps
  refine ok_ite (fun c => ok_some ?_) (fun c => ?_)
  · rw [q_60] at c
    have kp : KP m σ (wx_I σ m 36 2) := kp_m kp_r rfl
    have eA : mA m (wx_I σ m 36 2) = mA m σ := by unfold mA; rw [kn (by decide)]
    refine ⟨mi_kp h kp, lr_kp kp, xs_m xs_r (by decide), Or.inl ⟨by show sx_I (wx_I σ m 36 2) m 48 = -1; rw [kn (by decide)]; exact h48, kp_W kp⟩, Or.inr ⟨?_, rb_e rb eA (kp_E kp _), fun e => absurd e (by decide : ¬ (1 : Int32) = 0), fun _ => mz_lt h36 (by omega) (Or.inr ⟨eA, Or.inl ?_⟩)⟩⟩
    · unfold RM at rm ⊢
      show RQ (mA m (wx_I σ m 36 2)) (sx_I (wx_I σ m 36 2) m 32).toInt (sx_I (wx_I σ m 36 2) m 38).toInt (sx_I (wx_I σ m 36 2) m 39).toInt (sx_I (wx_I σ m 36 2) m 28).toInt (sx_I (wx_I σ m 36 2) m 30).toInt (sx_I (wx_I σ m 36 2) m 36).toInt (sx_I (wx_I σ m 36 2) m 37).toInt (cn m (wx_I σ m 36 2) 1 (ti x1) (ti (sx_I (wx_I σ m 36 2) m 27))) (cn m (wx_I σ m 36 2) 11 (ti x1) (ti (sx_I (wx_I σ m 36 2) m 27)))
      rw [kp_cn kp, kp_cn kp, eA, ke, kn (by decide), kn (by decide), kn (by decide), kn (by decide), kn (by decide), kn (by decide), kn (by decide), l2]
      rw [h30, h36, h37] at rm
      rw [h30, h37]
      unfold RQ at rm ⊢
      omega
    · show (sx_I (wx_I σ m 36 2) m 36).toInt ≠ 0
      rw [ke]
      decide
  · rw [q_60] at c
    have i1 := n_20 (w := sx_I σ (m + 4) (ti x1)) (a := sx_I σ m 28) g1.1 (by omega) (by omega) (by omega)
    have b120 : 0 ≤ (20 * sx_I σ (m + 4) (ti x1) + sx_I σ m 28).toInt ∧ (20 * sx_I σ (m + 4) (ti x1) + sx_I σ m 28).toInt < ((120 : Nat) : Int) := by omega
    refine ok_qb hs.r7 (ok_ck (by rw [hs.n4]; exact b41) (ok_qb hs.r3 (ok_ck (by rw [hs.n1]; exact b120) (ok_qb hs.r4 (ok_ck (by rw [hs.n2]; exact b120) ?_)))))
    generalize 20 * sx_I σ (m + 4) (ti x1) + sx_I σ m 28 = x4 at i1 b120
    have t4 := ti_of b120.1
    have hfi := h.fi (ti x4) (by omega)
    generalize sx_I σ (m + 1) (ti x4) = x5 at hfi
    generalize sx_I σ (m + 2) (ti x4) = x6 at hfi
    have eS : (sx_I σ m 38 + 1).toInt = (sx_I σ m 38).toInt + 1 := n_add1 (by omega) (by omega)
    have eP : (sx_I σ m 28 + 1).toInt = (sx_I σ m 28).toInt + 1 := n_add1 (by omega) (by omega)
    have jr := jr_20 (x := sx_I σ m 28 + 1) (by omega) (by omega)
    generalize hv : wx_I (wx_I σ m 38 (sx_I σ m 38 + 1)) m 28 (jrem (sx_I σ m 28 + 1) 20) = v
    have kp : KP m σ v := by rw [← hv]; exact kp_m (kp_m kp_r rfl) rfl
    have xv : XS m σ v := by rw [← hv]; exact xs_m (xs_m xs_r (by decide)) (by decide)
    have f : ∀ k, k ≠ 38 → k ≠ 28 → sx_I v m k = sx_I σ m k := fun k a b => by rw [← hv, kn b, kn a]
    have v38 : sx_I v m 38 = sx_I σ m 38 + 1 := by rw [← hv, kn (by decide), ke]
    have v28 : sx_I v m 28 = jrem (sx_I σ m 28 + 1) 20 := by rw [← hv, ke]
    have eA : mA m v = mA m σ := by unfold mA; rw [f 27 (by decide) (by decide)]
    have h2 : S2 m s x1 x2 x3 σ v := by
      refine ⟨⟨mi_kp h kp, kp, xv, by rw [f 48 (by decide) (by decide)]; exact h48, ?_, rb_e rb eA (kp_E kp _), by rw [f 26 (by decide) (by decide)]; exact n26, eA, h36, by rw [v38, eS], by rw [f 30 (by decide) (by decide)]; exact h30, by rw [f 36 (by decide) (by decide)]; exact h36, by rw [f 37 (by decide) (by decide)]; exact h37, by rw [v38, eS]; omega⟩, h0, h1, by rw [kp_W kp]; exact hlv⟩
      unfold RM at rm ⊢
      rw [kp_cn kp, kp_cn kp, eA, f 27 (by decide) (by decide), f 32 (by decide) (by decide), f 39 (by decide) (by decide), f 30 (by decide) (by decide), f 36 (by decide) (by decide), f 37 (by decide) (by decide), v38, v28, eS]
      unfold RQ at rm ⊢
      omega
    have s63 : ∀ y0, ((y0 = 0 ∧ mA m v < x2.toInt) ∨ (y0 ≠ 0 ∧ x2.toInt ≤ mA m v)) → Ok (fb_X9_steps_63 n0 σ m x1 x2 x3 x4 x5 x6 y0) (ZP m s (ti x1) x2 x3 σ) := by
      intro y0 hy
      unfold fb_X9_steps_63 fb_X9_steps_106
      rw [hv]
      have s116 : ∀ x9, (x5.toInt = 3 ∨ x5.toInt = 4 → x9 = -1 ∨ (0 ≤ x9.toInt ∧ x9.toInt < (sx_I v m 39).toInt)) → (x5.toInt ≠ 4 → x5.toInt ≠ 3 → x9 = -1) → Ok (fb_X9_steps_116 n0 v m x1 x2 x3 x4 x5 x6 y0 (sx_I σ m 28) x9) (ZP m s (ti x1) x2 x3 σ) := by
        intro x9 hx9 hx9'
        obtain ⟨r, hr, hr2⟩ := ok_isBounded (σ := v) (x := x5)
        have g141 : (x5.toInt = 1 ∨ x5.toInt = 2 ∨ x5.toInt = 9 ∨ x5.toInt = 10 ∨ x5.toInt = 11 ∨ x5.toInt = 14 ∨ x5.toInt = 17 → mA m v ≤ 59) → (x5.toInt = 4 → x9 = -1 → mA m v ≤ 59) → Ok (fb_X9_steps_141 n0 v m x1 x2 x3 x4 x5 x6 y0 (sx_I σ m 28) x9) (ZP m s (ti x1) x2 x3 σ) := by
          intro q1 q2
          have g164 : (x5.toInt = 12 → (sx_I v m 32).toInt ≤ 19) → Ok (fb_X9_steps_164 n0 v m x1 x2 x3 x4 x5 x6 y0 (sx_I σ m 28) x9) (ZP m s (ti x1) x2 x3 σ) := fun q3 => ok_164 hn h2 ⟨b120.1, by omega⟩ hfi.2 hfi.1 hy (by omega) hx9 q1 q2 q3
          unfold fb_X9_steps_141 fb_X9_steps_157
          refine ok_ite (fun c12 => ok_ite (fun c20 => ok_some ?_) (fun c20 => g164 (fun _ => ?_))) (fun c12 => g164 (fun e => absurd (q_12.mpr e) c12))
          · refine lfN h2.1 (kp_m kp_r rfl) (xs_m xs_r (by decide)) (fun k hk => kn (by omega)) ?_ ?_ ?_ ?_
            · rw [kn (by decide), v28]; exact jr
            · rw [kn (by decide), f 32 (by decide) (by decide)]; omega
            · rw [kn (by decide), f 39 (by decide) (by decide)]; omega
            · simp only [gI_I, eq_self, true_and, Nat.reduceEqDiff, reduceIte, true_or, or_true, and_true]; rw [l2, f 30 (by decide) (by decide)]; omega
          · rw [q_20] at c20
            rw [f 32 (by decide) (by decide)] at c20 ⊢
            omega
        unfold fb_X9_steps_116 fb_X9_steps_157
        refine ok_bre hr (ok_ite (fun c0 => ?_) (fun c0 => ok_ite (fun c9 => ok_ite (fun c60 => ok_some ?_) (fun c60 => ?_)) (fun c9 => ?_)))
        · have := hr2 c0
          exact g141 (fun e => by omega) (fun e => by omega)
        · refine lfN h2.1 (kp_m kp_r rfl) (xs_m xs_r (by decide)) (fun k hk => kn (by omega)) ?_ ?_ ?_ ?_
          · rw [kn (by decide), v28]; exact jr
          · rw [kn (by decide), f 32 (by decide) (by decide)]; omega
          · rw [kn (by decide), f 39 (by decide) (by decide)]; omega
          · simp only [gI_I, eq_self, true_and, Nat.reduceEqDiff, reduceIte, true_or, or_true, and_true]; rw [l2, f 30 (by decide) (by decide)]; omega
        · rw [n_le, l_60] at c60
          have : mA m v ≤ 59 := by unfold mA; omega
          exact g141 (fun _ => this) (fun _ _ => this)
        · refine g141 (fun e => absurd (hx9' (by omega) (by omega)) c9) (fun _ e => absurd e c9)
      have s106 : x5.toInt = 3 ∨ x5.toInt = 4 → Ok (br (f_X9_keptOf n0 v m x6) fun r2 => fb_X9_steps_116 n0 v m x1 x2 x3 x4 x5 x6 y0 (sx_I σ m 28) r2) (ZP m s (ti x1) x2 x3 σ) := by
        intro e
        refine ok_br (ok_keptOf hn (st_f kp.1 hs) (by rw [f 39 (by decide) (by decide)]; omega)) (fun r hr => s116 r (fun _ => hr.imp (fun q => q.1) id) (fun a b => by omega))
      exact ok_ite (fun c => s106 (Or.inl (q_3.mp c))) (fun c3 => ok_ite (fun c => s106 (Or.inr (q_4.mp c))) (fun c4 => s116 (-1) (fun _ => Or.inl rfl) (fun _ _ => rfl)))
    refine ok_ite (fun c => s63 0 (Or.inl ⟨rfl, ?_⟩)) (fun c => s63 1 (Or.inr ⟨by decide, ?_⟩))
    · rw [n_lt] at c
      rw [eA]
      exact c
    · rw [n_lt] at c
      rw [eA]
      unfold mA
      omega
/-! undoing -/
theorem mz_u (h1 : (sx_I σ m 36).toInt ≠ 0) (h2 : (sx_I u m 36).toInt ≠ 0) (h3 : mA m u = mA m σ + 1) : mz m u < mz m σ := by
  unfold mz
  rw [if_neg h1, if_neg h2]
  omega
def ZQ (m : Nat) (s : Int) (w : Nat) (x2 x3 : Int32) (σ : sx_T) (r : Int32 × sx_T) : Prop := ZP m s w x2 x3 σ r ∧ (sx_I r.2 m 26 = 0 ∨ (sx_I r.2 m 36).toInt = (sx_I σ m 36).toInt) ∧ sx_I r.2 m 48 = -1
theorem zF (h : MI m s σ) (hg : RG m w x2 σ) (h30 : (sx_I σ m 30).toInt = 0) (hu : EF m x2 σ u) (vw : VW m u v) (hw : sx_I u m 26 ≠ 0 → (sx_I v m 30).toInt = (sx_I u m 30).toInt ∧ (sx_I v m 36).toInt = (sx_I u m 36).toInt ∧ (sx_I v m 37).toInt = (sx_I u m 37).toInt) : ZQ m s w x2 x3 σ (0, v) := by
  obtain ⟨rm, rb, n26, h48, h37⟩ := hg
  obtain ⟨ku, xu, u48, fu⟩ := hu
  obtain ⟨kp, xv, e48, ev⟩ := vw
  have kv := kp_t ku kp
  have z0 : sx_I u m 26 = 0 → sx_I v m 26 = 0 := fun e => (ev 26 (by omega)).trans e
  refine ⟨⟨mi_kp h kv, lr_kp kv, xs_t xu xv, Or.inl ⟨e48.trans (u48.trans h48), kp_W kv⟩, ?_⟩, ?_, e48.trans (u48.trans h48)⟩
  rotate_left
  · rcases fu with e | ⟨fu, hx⟩
    · exact Or.inl (z0 e)
    · right
      have hw := hw (by rw [fu 26 (by decide) (by decide) (by decide)]; exact n26)
      rw [fu 36 (by decide) (by decide) (by decide)] at hw
      exact hw.2.1
  rcases fu with e | ⟨fu, hx⟩
  · exact Or.inl (z0 e)
  · right
    have f : ∀ k, k = 27 ∨ k = 28 ∨ k = 32 ∨ k = 38 ∨ k = 39 → sx_I v m k = sx_I σ m k := fun k hk => (ev k (by omega)).trans (fu k (by omega) (by omega) (by omega))
    have eA : mA m v = mA m σ := by unfold mA; rw [f 27 (by omega)]
    have hw := hw (by rw [fu 26 (by decide) (by decide) (by decide)]; exact n26)
    rw [fu 30 (by decide) (by decide) (by decide), fu 36 (by decide) (by decide) (by decide), fu 37 (by decide) (by decide) (by decide)] at hw
    refine ⟨?_, rb_e rb eA (kp_E kv _), fun _ => by show x2.toInt ≤ mA m v; omega, fun e => absurd rfl e⟩
    unfold RM at rm ⊢
    show RQ (mA m v) (sx_I v m 32).toInt (sx_I v m 38).toInt (sx_I v m 39).toInt (sx_I v m 28).toInt (sx_I v m 30).toInt (sx_I v m 36).toInt (sx_I v m 37).toInt (cn m v 1 w (ti (sx_I v m 27))) (cn m v 11 w (ti (sx_I v m 27)))
    rw [kp_cn kv, kp_cn kv, eA, f 27 (by omega), f 28 (by omega), f 32 (by omega), f 38 (by omega), f 39 (by omega), hw.1, hw.2.1, hw.2.2]
    exact rm
theorem ok_undoes (h : MI m s σ) (h0 : 0 ≤ x1.toInt) (h1 : x1.toInt ≤ 40) (hlv : x3 ≠ 0 → x1.toInt < mW m σ) (hg : RG m (ti x1) x2 σ) (h30 : (sx_I σ m 30).toInt = 0) (h36 : (sx_I σ m 36).toInt ≠ 0) : Ok (f_X9_undoes σ m x1 x2 x3) (ZQ m s (ti x1) x2 x3 σ) := by
  have hg' := hg
  obtain ⟨rm, rb, n26, h48, h37⟩ := hg
  have hs := h.st
  have hwf := h.wf
  have tw := ti_of h0
  have hA := rq_a rm
  have hA' : 1 ≤ (sx_I σ m 27).toInt ∧ (sx_I σ m 27).toInt ≤ 134 := hA
  have rm' := rm
  unfold RM RQ at rm'
  have l6 : (6 : Int32).toInt = 6 := rfl
  have tn : ∀ u : sx_T, mA m u = mA m σ + 1 → ti (sx_I u m 27) = ti (sx_I σ m 27) + 1 := fun u e => by unfold mA at e; unfold ti; omega
  have fin : Ok (fb_X9_undoes_15 σ m x1 x2 x3) (ZQ m s (ti x1) x2 x3 σ) := by
    unfold fb_X9_undoes_15
    refine ok_bd (ok_meets (x4 := 13) h h0 h1 hlv hA rb n26 (by decide) (fun e => absurd e (by decide)) (fun e => absurd e (by decide))) (fun r u hu => ?_)
    unfold fb_X9_undoes_56
    refine ok_ite (fun e => ok_some ?_) (fun e => ok_some ?_)
    · rcases hu with ⟨a, b⟩ | ⟨a, -⟩
      · have e' : r = 0 := e
        rw [e']
        have b := ef_mf b
        refine zF h hg' h30 b (vw_m vw_r rfl) (fun c => ?_)
        have : sx_I u m 37 = sx_I σ m 37 := by
          rcases b.2.2.2 with q | q
          · exact absurd q c
          · exact q.1 37 (by decide) (by decide) (by decide)
        simp only [gI_I, eq_self, true_and, Nat.reduceEqDiff, reduceIte, true_or, or_true, and_true]; rw [this, h37, l_0]
      · exact absurd e a
    · rcases hu with ⟨a, b⟩ | ⟨a, -, d⟩
      · exact absurd a e
      · obtain ⟨d1, -, d3, d4, d5, d6, d7, d8, d9⟩ := d
        have d4 : SF m 28 σ u := d4
        have d6 : mA m u = mA m σ + 1 := d6
        have e36 : sx_I u m 36 = sx_I σ m 36 := d4.1 36 (by decide)
        rw [e36]
        have kp : KP m u (wx_I u m 37 (sx_I σ m 36)) := kp_m kp_r rfl
        have eA : mA m (wx_I u m 37 (sx_I σ m 36)) = mA m u := by unfold mA; rw [kn (by decide)]
        refine ⟨⟨mi_kp d1 kp, lr_t d3 (lr_kp kp), xs_t (xs_sf d4 (by decide)) (xs_m xs_r (by decide)), Or.inl ⟨?_, (kp_W kp).trans d9⟩, Or.inr ⟨?_, rb_e d7 eA (kp_E kp _), fun q => absurd q e, fun _ => mz_u h36 ?_ (eA.trans d6)⟩⟩, Or.inr (by show (sx_I (wx_I u m 37 (sx_I σ m 36)) m 36).toInt = _; rw [kn (by decide), e36]), by show sx_I (wx_I u m 37 (sx_I σ m 36)) m 48 = -1; rw [kn (by decide), d4.1 48 (by decide)]; exact h48⟩
        · show sx_I (wx_I u m 37 (sx_I σ m 36)) m 48 = -1
          rw [kn (by decide), d4.1 48 (by decide)]
          exact h48
        · unfold RM at rm ⊢
          show RQ (mA m (wx_I u m 37 (sx_I σ m 36))) (sx_I (wx_I u m 37 (sx_I σ m 36)) m 32).toInt (sx_I (wx_I u m 37 (sx_I σ m 36)) m 38).toInt (sx_I (wx_I u m 37 (sx_I σ m 36)) m 39).toInt (sx_I (wx_I u m 37 (sx_I σ m 36)) m 28).toInt (sx_I (wx_I u m 37 (sx_I σ m 36)) m 30).toInt (sx_I (wx_I u m 37 (sx_I σ m 36)) m 36).toInt (sx_I (wx_I u m 37 (sx_I σ m 36)) m 37).toInt (cn m (wx_I u m 37 (sx_I σ m 36)) 1 (ti x1) (ti (sx_I (wx_I u m 37 (sx_I σ m 36)) m 27))) (cn m (wx_I u m 37 (sx_I σ m 36)) 11 (ti x1) (ti (sx_I (wx_I u m 37 (sx_I σ m 36)) m 27)))
          have d8a := d8 1
          have d8b := d8 11
          rw [kp_cn kp, kp_cn kp, eA, ke, kn (by decide), kn (by decide), kn (by decide), kn (by decide), kn (by decide), kn (by decide), kn (by decide), tn u d6, d8a, d8b, if_neg (by decide), if_neg (by decide), d6, d4.1 32 (by decide), d4.1 38 (by decide), d4.1 39 (by decide), d4.1 28 (by decide), d4.1 30 (by decide), e36]
          rw [h37] at rm
          unfold RQ at rm ⊢
          omega
        · show (sx_I (wx_I u m 37 (sx_I σ m 36)) m 36).toInt ≠ 0
          rw [kn (by decide), e36]
          exact h36
  have und : ∀ x4 y0 : Int32, 1 ≤ (sx_I σ m 32).toInt → ((y0 = 0 ∧ mA m σ < x2.toInt) ∨ (y0 ≠ 0 ∧ x2.toInt ≤ mA m σ)) → Ok (fb_X9_undoes_88 σ m x1 x2 x3 x4 y0) (ZQ m s (ti x1) x2 x3 σ) := by
    intro x4 y0 hP hy
    unfold fb_X9_undoes_88
    refine ok_bd (ok_meets (x4 := 11) h h0 h1 hlv hA rb n26 (by decide) (fun e => absurd e (by decide)) (fun _ => by omega)) (fun r u hu => ?_)
    refine ok_ite (fun e => ok_some ?_) (fun e => ?_)
    · rcases hu with ⟨a, b⟩ | ⟨a, -⟩
      · exact zF h hg' h30 (ef_mf b) vw_r (fun _ => ⟨rfl, rfl, rfl⟩)
      · exact absurd e a
    · rcases hu with ⟨a, b⟩ | ⟨a, b, d⟩
      · exact absurd a e
      · obtain ⟨d1, d2, d3, d4, d5, d6, d7, d8, d9⟩ := d
        have d1 : MI m s u := d1
        have d3 : LR m σ u := d3
        have d4 : SF m 28 σ u := d4
        have d6 : mA m u = mA m σ + 1 := d6
        have d9 : mW m u = mW m σ := d9
        have e32 : (sx_I u m 32 - 1).toInt = (sx_I σ m 32).toInt - 1 := by rw [d4.1 32 (by decide), n_sub1 (by omega)]
        generalize hv : wx_I (wx_I (wx_I u m 32 (sx_I u m 32 - 1)) m 30 6) m 31 x4 = v
        have kv : KP m u v := by rw [← hv]; exact kp_m (kp_m (kp_m kp_r rfl) rfl) rfl
        have xv : XS m u v := by rw [← hv]; exact xs_m (xs_m (xs_m xs_r (by decide)) (by decide)) (by decide)
        have f : ∀ k, k ≠ 32 → k ≠ 30 → k ≠ 31 → sx_I v m k = sx_I u m k := fun k a b c => by rw [← hv, kn c, kn b, kn a]
        have v32 : (sx_I v m 32).toInt = (sx_I σ m 32).toInt - 1 := by rw [← hv, kn (by decide), kn (by decide), ke]; exact e32
        have v30 : sx_I v m 30 = 6 := by rw [← hv, kn (by decide), ke]
        have n1 : (1 : Int32) ≠ 0 := by decide
        have key : ∀ z : sx_T, MI m s z → LR m v z → XS m v z → mW m z = mW m v → (∀ w, mE m z w = mE m v w) → (∀ x n, cn m z x (ti x1) n = cn m v x (ti x1) n) → (∀ k, 17 ≤ k → sx_I z m k = sx_I v m k) → ZQ m s (ti x1) x2 x3 σ (1, z) := by
          intro z z1 z2 z3 z4 z5 z6 z7
          have eA : mA m z = mA m u := by unfold mA; rw [z7 27 (by decide), f 27 (by decide) (by decide) (by decide)]
          refine ⟨⟨z1, lr_t d3 (lr_t (lr_kp kv) z2), xs_t (xs_sf d4 (by decide)) (xs_t xv z3), Or.inl ⟨?_, z4.trans ((kp_W kv).trans d9)⟩, Or.inr ⟨?_, rb_e d7 eA ((z5 _).trans (kp_E kv _)), fun q => absurd q n1, fun _ => mz_u h36 ?_ (eA.trans d6)⟩⟩, Or.inr (by show (sx_I z m 36).toInt = _; rw [z7 36 (by decide), f 36 (by decide) (by decide) (by decide), d4.1 36 (by decide)]), by show sx_I z m 48 = -1; rw [z7 48 (by decide), f 48 (by decide) (by decide) (by decide), d4.1 48 (by decide)]; exact h48⟩
          · show sx_I z m 48 = -1
            rw [z7 48 (by decide), f 48 (by decide) (by decide) (by decide), d4.1 48 (by decide)]
            exact h48
          · unfold RM at rm ⊢
            show RQ (mA m z) (sx_I z m 32).toInt (sx_I z m 38).toInt (sx_I z m 39).toInt (sx_I z m 28).toInt (sx_I z m 30).toInt (sx_I z m 36).toInt (sx_I z m 37).toInt (cn m z 1 (ti x1) (ti (sx_I z m 27))) (cn m z 11 (ti x1) (ti (sx_I z m 27)))
            have d8a := d8 1
            have d8b := d8 11
            rw [z6, z6, kp_cn kv, kp_cn kv, z7 27 (by decide), f 27 (by decide) (by decide) (by decide), eA, tn u d6, d8a, d8b, if_neg (by decide), if_pos rfl, d6, z7 32 (by decide), v32, z7 38 (by decide), z7 39 (by decide), z7 28 (by decide), z7 30 (by decide), z7 36 (by decide), z7 37 (by decide), v30, l6, f 38 (by decide) (by decide) (by decide), f 39 (by decide) (by decide) (by decide), f 28 (by decide) (by decide) (by decide), f 36 (by decide) (by decide) (by decide), f 37 (by decide) (by decide) (by decide), d4.1 38 (by decide), d4.1 39 (by decide), d4.1 28 (by decide), d4.1 36 (by decide), d4.1 37 (by decide)]
            rw [h30, h37] at rm
            rw [h37]
            unfold RQ at rm ⊢
            omega
          · show (sx_I z m 36).toInt ≠ 0
            rw [z7 36 (by decide), f 36 (by decide) (by decide) (by decide), d4.1 36 (by decide)]
            exact h36
        refine ok_ite (fun c0 => ok_some (key v (mi_kp d1 kv) lr_r xs_r rfl (fun _ => rfl) (fun _ _ => rfl) (fun _ _ => rfl))) (fun c0 => ?_)
        have hx : x2.toInt ≤ mA m σ := by
          rcases hy with q | q
          · exact absurd q.1 c0
          · exact q.2
        have hlt := hlv (b hx)
        have hm := d2 hx (Or.inr rfl)
        refine ok_bd (ok_makesTask (d := 0) (mi_kp hm kv) h0 (by rw [kp_W kv]; omega) (Or.inl rfl) (by have := h.tk; omega)) (fun r2 z hz => ok_some ?_)
        obtain ⟨z1, z2, z3, z4, z5, z6⟩ := hz
        have z1 : MI m (s + 1 + 0 - 1) z := z1
        rw [show s + 1 + 0 - 1 = s by omega] at z1
        have z2 : LR m v z := z2
        have z3 : SF m 17 v z := z3
        have z4 : ∀ w, mE m z w = mE m v w := z4
        have z5 : ∀ k, sx_I z (m + 11) k = sx_I v (m + 11) k := z5
        have z6 : sx_I z m 6 = sx_I v m 6 := z6
        exact key z z1 z2 (xs_sf z3 (by decide)) (by unfold mW; rw [z6]) z4 (fun x n => cn_e n (fun k _ => z5 _)) z3.1
  unfold f_X9_undoes
  refine ok_ite (fun _ => fin) (fun cP => ok_ite (fun _ => fin) (fun _ => ?_))
  rw [q_0] at cP
  have e1 : (sx_I σ m 32 - 1).toInt = (sx_I σ m 32).toInt - 1 := n_sub1 (by omega)
  refine ok_qb hs.r33 (ok_ck (by rw [hs.n20]; omega) (ok_ite (fun c => und _ 0 (by omega) (Or.inl ⟨rfl, ?_⟩)) (fun c => und _ 1 (by omega) (Or.inr ⟨by decide, ?_⟩))))
  · rw [n_lt] at c
    exact c
  · rw [n_lt] at c
    unfold mA
    omega
end M10
