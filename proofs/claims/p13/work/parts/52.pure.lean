section M3
variable {m : Nat} {σ v u : sx_T} {s : Int} {n0 : Nat}
/-- a workflow is made -/
theorem mi_new {x1 x3 y0 : Int32} (h : MI m s σ) (hW : mW m σ < 40) (p1 : 0 ≤ x1.toInt ∧ x1.toInt ≤ 5) (p3 : -1 ≤ x3.toInt ∧ x3.toInt ≤ mW m σ ∧ x3.toInt ≤ 39) {w : Nat} (hw : (w : Int) = mW m σ) : MI m s (wx_I (wx_I (wx_I (wx_I (wx_I σ m 6 (sx_I σ m 6 + 1)) (m + 4) w x1) (m + 5) w x3) (m + 6) w y0) (m + 10) w (-1)) ∧ LR0 m σ (wx_I (wx_I (wx_I (wx_I (wx_I σ m 6 (sx_I σ m 6 + 1)) (m + 4) w x1) (m + 5) w x3) (m + 6) w y0) (m + 10) w (-1)) ∧ SF m 7 σ (wx_I (wx_I (wx_I (wx_I (wx_I σ m 6 (sx_I σ m 6 + 1)) (m + 4) w x1) (m + 5) w x3) (m + 6) w y0) (m + 10) w (-1)) ∧ mW m (wx_I (wx_I (wx_I (wx_I (wx_I σ m 6 (sx_I σ m 6 + 1)) (m + 4) w x1) (m + 5) w x3) (m + 6) w y0) (m + 10) w (-1)) = mW m σ + 1 ∧ (∀ w', mE m (wx_I (wx_I (wx_I (wx_I (wx_I σ m 6 (sx_I σ m 6 + 1)) (m + 4) w x1) (m + 5) w x3) (m + 6) w y0) (m + 10) w (-1)) w' = mE m σ w') := by
  have hwf := h.wf
  generalize hu : wx_I (wx_I (wx_I (wx_I (wx_I σ m 6 (sx_I σ m 6 + 1)) (m + 4) w x1) (m + 5) w x3) (m + 6) w y0) (m + 10) w (-1) = u
  have e1 : (sx_I σ m 6 + 1).toInt = (sx_I σ m 6).toInt + 1 := n_add1 (by unfold mW at hwf; omega) (by unfold mW at hwf; omega)
  have fm : ∀ k, k ≠ 6 → sx_I u m k = sx_I σ m k := fun k hk => by
    rw [← hu, gI_I, if_neg (by omega), gI_I, if_neg (by omega), gI_I, if_neg (by omega), gI_I, if_neg (by omega), gI_I, if_neg (by omega)]
  have f6 : sx_I u m 6 = sx_I σ m 6 + 1 := by
    rw [← hu, gI_I, if_neg (by omega), gI_I, if_neg (by omega), gI_I, if_neg (by omega), gI_I, if_neg (by omega), gI_I, if_pos ⟨rfl, rfl⟩]
  have fj : ∀ j k, 1 ≤ j → j ≠ 4 → j ≠ 5 → j ≠ 6 → j ≠ 10 → sx_I u (m + j) k = sx_I σ (m + j) k := fun j k q0 q1 q2 q3 q4 => by
    rw [← hu, gI_I, if_neg (by omega), gI_I, if_neg (by omega), gI_I, if_neg (by omega), gI_I, if_neg (by omega), gI_I, if_neg (by omega)]
  have fk : ∀ j k, 1 ≤ j → k ≠ w → sx_I u (m + j) k = sx_I σ (m + j) k := fun j k q0 q1 => by
    rw [← hu, gI_I, if_neg (by omega), gI_I, if_neg (by omega), gI_I, if_neg (by omega), gI_I, if_neg (by omega), gI_I, if_neg (by omega)]
  have f4 : sx_I u (m + 4) w = x1 := by
    rw [← hu, gI_I, if_neg (by omega), gI_I, if_neg (by omega), gI_I, if_neg (by omega), gI_I, if_pos ⟨rfl, rfl⟩]
  have f5 : sx_I u (m + 5) w = x3 := by
    rw [← hu, gI_I, if_neg (by omega), gI_I, if_neg (by omega), gI_I, if_pos ⟨rfl, rfl⟩]
  have f10 : sx_I u (m + 10) w = -1 := by rw [← hu, gI_I, if_pos ⟨rfl, rfl⟩]
  have hJ : ∀ a k, sx_J u a k = sx_J σ a k := fun a k => by rw [← hu]; rfl
  have hf : FA (MC m) σ u := by
    rw [← hu]
    exact fa_t (fa_I mc_0) (fa_t (fa_I (mc_j (by omega))) (fa_t (fa_I (mc_j (by omega))) (fa_t (fa_I (mc_j (by omega))) (fa_I (mc_j (by omega))))))
  have eW : mW m u = mW m σ + 1 := by unfold mW; rw [f6, e1]
  have eT : mT m u = mT m σ := by unfold mT; rw [fm 16 (by decide)]
  have eE : ∀ w, mE m u w = mE m σ w := fun w => by unfold mE; rw [fj 8 w (by decide) (by decide) (by decide) (by decide) (by decide)]
  have ev : ∀ k, sx_I u (m + 11) k = sx_I σ (m + 11) k := fun k => fj 11 k (by decide) (by decide) (by decide) (by decide) (by decide)
  have ec : ∀ x w n, cn m u x w n = cn m σ x w n := fun x w n => cn_e n (fun k _ => ev _)
  have hw40 : w < 40 := by omega
  refine ⟨⟨st_f hf h.st, by omega, fun w' hw' => ?_, ?_, ?_, ?_, ?_, ?_⟩, ⟨⟨hf, fun k hk => fm k (by omega), fun j p q k => fj j k (by omega) (by omega) (by omega) (by omega) (by omega), ⟨by omega, by omega⟩, fun w' hw' j p q => fk j w' (by omega) (by omega), fun w' _ => by rw [eE]; exact Int.le_refl _, fun w' _ k _ => ⟨ev _, hJ _ _⟩, fun t ht => fj 13 t (by decide) (by decide) (by decide) (by decide) (by decide)⟩, fm 43 (by decide), fun j hj k => fj j k (by omega) (by omega) (by omega) (by omega) (by omega)⟩, ⟨fun k hk => fm k (by omega), fun j p q k => fj j k (by omega) (by omega) (by omega) (by omega) (by omega)⟩, eW, eE⟩
  · have hp := h.pw w' hw'
    unfold PW at hp ⊢
    rw [eE, ec, ec]
    refine ⟨?_, ?_, hp.2.2.1, fun k => by rw [ev]; exact hp.2.2.2.1 k, hp.2.2.2.2⟩
    · by_cases e : w' = w
      · rw [e, f4]; exact p1
      · rw [fk 4 w' (by decide) e]; exact hp.1
    · by_cases e : w' = w
      · rw [e, f5]; exact ⟨p3.1, p3.2.2⟩
      · rw [fk 5 w' (by decide) e]; exact hp.2.1
  · intro w' hw'
    rw [eW] at hw' ⊢
    by_cases e : w' = w
    · rw [e, f5]; omega
    · rw [fk 5 w' (by decide) e]
      have := h.pa w' (by omega)
      omega
  · intro w' h2 h3
    rw [eW] at h3
    rw [eE]
    exact h.e0 w' h2 (by omega)
  · rw [eT, eW]
    have hn : (mW m σ + 1).toNat = (mW m σ).toNat + 1 := by omega
    have hwn : (mW m σ).toNat = w := by omega
    have h0 := h.e0 w hw40 (by omega)
    rw [hn]
    show _ ∧ _ ∧ _ ≤ sumC (wt m u) (mW m σ).toNat + wt m u (mW m σ).toNat
    have e3 : sumC (wt m u) (mW m σ).toNat = sumC (wt m σ) (mW m σ).toNat := sumC_e _ (fun i hi => by
      unfold wt
      rw [eE, ec, ec, fk 10 i (by decide) (by omega)])
    have e4 : wt m u (mW m σ).toNat = 0 := by
      rw [hwn]
      unfold wt
      rw [eE, ec, ec, h0, f10]
      rfl
    have := h.tk
    omega
  · intro t ht
    rw [eT] at ht
    rw [eW, fj 13 t (by decide) (by decide) (by decide) (by decide) (by decide)]
    have := h.ow t ht
    omega
  · intro k hk
    rw [fj 2 k (by decide) (by decide) (by decide) (by decide) (by decide), fj 1 k (by decide) (by decide) (by decide) (by decide) (by decide)]
    exact h.fi k hk
def BG (m : Nat) (s : Int) (σ : sx_T) (r : Int32 × sx_T) : Prop := (r = (-1, σ) ∧ mW m σ = 40) ∨ (MI m s r.2 ∧ LR m σ r.2 ∧ SF m 7 σ r.2 ∧ mW m r.2 = mW m σ + 1 ∧ r.1.toInt = mW m σ ∧ mE m r.2 (ti r.1) = 1 ∧ (∀ w', w' ≠ ti r.1 → mE m r.2 w' = mE m σ w') ∧ sx_I r.2 (m + 11) (160 * ti r.1) = 0)
theorem ok_begets {x1 x2 x3 x4 : Int32} (h : MI m s σ) (p1 : 0 ≤ x1.toInt ∧ x1.toInt ≤ 5) (p3 : -1 ≤ x3.toInt ∧ x3.toInt ≤ mW m σ ∧ x3.toInt ≤ 39) : Ok (f_X9_begets σ m x1 x2 x3 x4) (fun r => BG m s σ r) := by
  have hwf := h.wf
  have hs := h.st
  have e40 : (40 : Int32).toInt = 40 := by decide
  unfold f_X9_begets
  refine ok_ite (fun c => ok_some (Or.inl ⟨rfl, by unfold mW; rw [c]; rfl⟩)) (fun c => ?_)
  rw [n_eq, e40] at c
  have hW : mW m σ < 40 := by unfold mW at hwf ⊢; omega
  have hi : 0 ≤ (sx_I σ m 6).toInt ∧ (sx_I σ m 6).toInt < ((41 : Nat) : Int) := by unfold mW at hwf hW; omega
  have ht := ti_of hi.1
  refine ok_qb hs.r7 (ok_ck (by rw [hs.n4]; exact hi) (ok_qb hs.r8 (ok_ck (by rw [hs.n5]; exact hi) (ok_qv ?_))))
  rw [hs.r9]
  have fin : ∀ y0, Ok (fb_X9_begets_62 (wx_I (wx_I (wx_I σ m 6 (sx_I σ m 6 + 1)) (m + 4) (ti (sx_I σ m 6)) x1) (m + 5) (ti (sx_I σ m 6)) x3) m x2 (sx_I σ m 6) y0 (sx_I σ m 6) (some (m + 6))) (fun r => BG m s σ r) := by
    intro y0
    obtain ⟨q1, q2, q3, q4, q5⟩ := mi_new (x1 := x1) (x3 := x3) (y0 := y0) h hW p1 p3 (w := ti (sx_I σ m 6)) ht
    unfold fb_X9_begets_62
    have hs' := hs
    refine ok_bq rfl (ok_ck (by rw [show sx_N (wx_I (wx_I (wx_I σ m 6 (sx_I σ m 6 + 1)) (m + 4) (ti (sx_I σ m 6)) x1) (m + 5) (ti (sx_I σ m 6)) x3) (m + 6) = 41 from hs.n6]; exact hi) (ok_qb hs.r13 (ok_ck (by rw [show sx_N (wx_I (wx_I (wx_I σ m 6 (sx_I σ m 6 + 1)) (m + 4) (ti (sx_I σ m 6)) x1) (m + 5) (ti (sx_I σ m 6)) x3) (m + 10) = 41 from hs.n10]; exact hi) ?_)))
    generalize hv : wx_I (wx_I (wx_I (wx_I (wx_I σ m 6 (sx_I σ m 6 + 1)) (m + 4) (ti (sx_I σ m 6)) x1) (m + 5) (ti (sx_I σ m 6)) x3) (m + 6) (ti (sx_I σ m 6)) y0) (m + 10) (ti (sx_I σ m 6)) (-1) = v at q1 q2 q3 q4 q5 ⊢
    have hE : mE m v (ti (sx_I σ m 6)) = 0 := by
      rw [q5]
      exact h.e0 _ (by omega) (by unfold mW; omega)
    have eW : (sx_I σ m 6).toInt = mW m σ := rfl
    refine ok_bre (ok_addsM q1.st hi.1 (by omega) (by omega) (by omega)) (ok_some (Or.inr ?_))
    have a1 := mi_adds (x4 := 0) (x5 := x2.toInt64) (d := 0) q1 (w := ti (sx_I σ m 6)) (by omega) (by omega) (fun e => by rcases e with e | e <;> exact absurd e (by decide)) (fun e => absurd e (by decide)) (fun e => absurd e (by decide)) (Or.inl rfl)
    rw [Int.add_zero] at a1
    refine ⟨a1, lr0_t q2 (lr_ax q1.eb (by omega)) (fun w' _ z1 z2 => ?_), sf_t q3 (sf_le sf_ax (by decide)), ?_, rfl, ?_, fun w' hw' => ?_, ?_⟩
    · have z3 : mW m (AX m (ti (sx_I σ m 6)) 0 x2.toInt64 v) = mW m v := by unfold mW; rw [ax_m]
      have z2 : (w' : Int) < mW m (AX m (ti (sx_I σ m 6)) 0 x2.toInt64 v) := z2
      have z4 : w' = ti (sx_I σ m 6) := by omega
      show 1 ≤ mE m (AX m (ti (sx_I σ m 6)) 0 x2.toInt64 v) w'
      rw [z4, ax_E (by omega) (by omega)]
      omega
    · show mW m (AX m _ 0 _ v) = _
      rw [← q4]
      unfold mW
      rw [ax_m]
    · show mE m (AX m _ 0 _ v) _ = 1
      rw [ax_E (by omega) (by omega), hE]
      rfl
    · show mE m (AX m _ 0 _ v) _ = _
      rw [ax_E' hw', q5]
    · show sx_I (AX m (ti (sx_I σ m 6)) 0 _ v) (m + 11) (160 * ti (sx_I σ m 6)) = 0
      rw [ax_v, hE]
      exact if_pos rfl
  exact ok_ite (fun _ => fin _) (fun _ => fin _)
/-! an event is met -/
def mA (m : Nat) (σ : sx_T) : Int := (sx_I σ m 27).toInt
def RB (m w : Nat) (x2 : Int32) (σ : sx_T) : Prop := (mA m σ ≤ x2.toInt ∧ x2.toInt = mE m σ w) ∨ (x2.toInt ≤ mA m σ ∧ mA m σ = mE m σ w)
def MF (m : Nat) (x2 : Int32) (σ u : sx_T) : Prop := KP m σ u ∧ SF m 28 σ u ∧ (sx_I u m 26 = 0 ∨ (u = σ ∧ x2.toInt ≤ mA m σ))
def MT (m : Nat) (s : Int) (w : Nat) (x2 x4 : Int32) (σ u : sx_T) : Prop := MI m s u ∧ (x2.toInt ≤ mA m σ → x4 = 1 ∨ x4 = 11 → MI m (s + 1) u) ∧ LR m σ u ∧ SF m 28 σ u ∧ sx_I u m 26 ≠ 0 ∧ mA m u = mA m σ + 1 ∧ RB m w x2 u ∧ (∀ x, cn m u x w (ti (sx_I σ m 27) + 1) = cn m σ x w (ti (sx_I σ m 27)) + if x4 = x then 1 else 0) ∧ mW m u = mW m σ
theorem ok_meets {x1 x2 x3 x4 x7 : Int32} {x5 : Int64} (h : MI m s σ) (h0 : 0 ≤ x1.toInt) (h1 : x1.toInt ≤ 40) (hlv : x3 ≠ 0 → x1.toInt < mW m σ) (hA : 1 ≤ mA m σ ∧ mA m σ ≤ 134) (hB : RB m (ti x1) x2 σ) (hf : sx_I σ m 26 ≠ 0) (h6 : x4 ≠ 6 ∧ x4 ≠ 12) (hc1 : x4 = 1 → cn m σ 1 (ti x1) (ti (sx_I σ m 27)) ≤ 29) (hc11 : x4 = 11 → cn m σ 11 (ti x1) (ti (sx_I σ m 27)) ≤ 19) : Ok (f_X9_meets σ m x1 x2 x3 x4 x5 x7) (fun r => (r.1 = 0 ∧ MF m x2 σ r.2) ∨ (r.1 ≠ 0 ∧ (x2.toInt ≤ mA m σ → x3 ≠ 0) ∧ MT m s (ti x1) x2 x4 σ r.2)) := by
  have hs := h.st
  have tw := ti_of h0
  have hE := h.eb (ti x1) (by omega)
  have hA' : 1 ≤ (sx_I σ m 27).toInt ∧ (sx_I σ m 27).toInt ≤ 134 := hA
  have ta := ti_of (x := sx_I σ m 27) (by omega)
  have e1 : (sx_I σ m 27 + 1).toInt = (sx_I σ m 27).toInt + 1 := n_add1 (by omega) (by omega)
  have tid : ti (sx_I σ m 27) = (mA m σ).toNat := rfl
  unfold f_X9_meets
  refine ok_ite (fun c => ?_) (fun c => ?_)
  · rw [n_le] at c
    have hAE : mA m σ = mE m σ (ti x1) := by unfold RB at hB; unfold mA at hB ⊢; omega
    refine ok_ite (fun c3 => ok_some (Or.inl ⟨c3, kp_r, sf_r, Or.inr ⟨rfl, c⟩⟩)) (fun c3 => ?_)
    have hw := hlv c3
    refine ok_bre (ok_addsM hs h0 h1 hE.1 (by omega)) (ok_some (Or.inr ⟨c3, fun _ => c3, ?_⟩))
    generalize hv : AX m (ti x1) x4 x5 σ = v
    have m0 : MI m (s + 0) v := by
      rw [← hv]
      refine mi_adds h (by omega) (by omega) (fun e => absurd e (by rintro (q | q); exact h6.1 q; exact h6.2 q)) (fun e => ?_) (fun e => ?_) (Or.inl rfl)
      · rw [← hAE]; exact hc1 e
      · rw [← hAE]; exact hc11 e
    have m1 : x4 = 1 ∨ x4 = 11 → MI m (s + 1) v := by
      intro e
      rw [← hv]
      refine mi_adds h (by omega) (by omega) (fun e => absurd e (by rintro (q | q); exact h6.1 q; exact h6.2 q)) (fun e => ?_) (fun e => ?_) (Or.inr ⟨rfl, e⟩)
      · rw [← hAE]; exact hc1 e
      · rw [← hAE]; exact hc11 e
    have kp : KP m v (wx_I v m 27 (sx_I v m 27 + 1)) := kp_m kp_r rfl
    have v27 : sx_I v m 27 = sx_I σ m 27 := by rw [← hv, ax_m]
    rw [Int.add_zero] at m0
    have eAu : mA m (wx_I v m 27 (sx_I v m 27 + 1)) = mA m σ + 1 := by
      unfold mA
      rw [gI_I, if_pos ⟨rfl, rfl⟩, v27, e1]
    have eEu : mE m (wx_I v m 27 (sx_I v m 27 + 1)) (ti x1) = mE m σ (ti x1) + 1 := by
      unfold mE
      rw [gI_I, if_neg (by omega)]
      have := ax_E (m := m) (σ := σ) (w := ti x1) (x4 := x4) (x5 := x5) hE.1 (by omega)
      rw [hv] at this
      exact this
    have lrv : LR m σ v := by rw [← hv]; exact lr_ax h.eb (by omega)
    have sfv : SF m 28 σ v := by rw [← hv]; exact sf_le sf_ax (by decide)
    refine ⟨mi_kp m0 kp, fun _ e => mi_kp (m1 e) kp, lr_t lrv (lr_kp kp), sf_I sfv (by decide), ?_, eAu, ?_, fun x => ?_, ?_⟩
    · rw [gI_I, if_neg (by omega), ← hv, ax_m]
      exact hf
    · unfold RB
      rw [eAu, eEu]
      unfold mA at hAE ⊢
      omega
    · have hcn : ∀ n, cn m (wx_I v m 27 (sx_I v m 27 + 1)) x (ti x1) n = cn m v x (ti x1) n := fun n => cn_e n (fun k _ => by rw [gI_I, if_neg (by omega)])
      rw [hcn, tid, hAE, ← hv]
      exact ax_c1
    · unfold mW
      rw [gI_I, if_neg (by omega), ← hv, ax_m]
  · rw [n_le] at c
    have hlt : mA m σ < mE m σ (ti x1) := by unfold RB at hB; unfold mA at hB ⊢; omega
    have hmE : x2.toInt = mE m σ (ti x1) := by unfold RB at hB; unfold mA at hB; omega
    have i1 := n_160 (w := x1) (a := sx_I σ m 27) h0 h1 (by omega) (by omega)
    have i2 := ti_160 (w := x1) (a := sx_I σ m 27) h0 h1 (by omega) (by omega)
    have ik : 0 ≤ (160 * x1 + sx_I σ m 27).toInt ∧ (160 * x1 + sx_I σ m 27).toInt < ((6560 : Nat) : Int) := by omega
    have no : Ok (fb_X9_meets_59 σ m) (fun r => (r.1 = 0 ∧ MF m x2 σ r.2) ∨ (r.1 ≠ 0 ∧ (x2.toInt ≤ mA m σ → x3 ≠ 0) ∧ MT m s (ti x1) x2 x4 σ r.2)) := by
      refine ok_some (Or.inl ⟨rfl, kp_m (kp_m kp_r rfl) rfl, sf_I (sf_I sf_r (by decide)) (by decide), Or.inl ?_⟩)
      show sx_I (wx_I (wx_I σ m 26 0) m 27 (sx_I σ m 27 + 1)) m 26 = 0
      rw [gI_I, if_neg (by omega), gI_I, if_pos ⟨rfl, rfl⟩]
    refine ok_qb hs.r14 (ok_ck (by rw [hs.n11]; exact ik) (ok_ite (fun c4 => ?_) (fun _ => no)))
    rw [i2] at c4
    have yes : Ok (fb_X9_meets_55 σ m) (fun r => (r.1 = 0 ∧ MF m x2 σ r.2) ∨ (r.1 ≠ 0 ∧ (x2.toInt ≤ mA m σ → x3 ≠ 0) ∧ MT m s (ti x1) x2 x4 σ r.2)) := by
      refine ok_some (Or.inr ⟨(by decide : (1 : Int32) ≠ 0), fun e => absurd e c, ?_⟩)
      show MT m s (ti x1) x2 x4 σ (wx_I (wx_I σ m 26 1) m 27 (sx_I σ m 27 + 1))
      have kp : KP m σ (wx_I (wx_I σ m 26 1) m 27 (sx_I σ m 27 + 1)) := kp_m (kp_m kp_r rfl) rfl
      have eAu : mA m (wx_I (wx_I σ m 26 1) m 27 (sx_I σ m 27 + 1)) = mA m σ + 1 := by
        unfold mA
        rw [gI_I, if_pos ⟨rfl, rfl⟩, e1]
      have eEu : mE m (wx_I (wx_I σ m 26 1) m 27 (sx_I σ m 27 + 1)) (ti x1) = mE m σ (ti x1) := by
        unfold mE
        rw [gI_I, if_neg (by omega), gI_I, if_neg (by omega)]
      refine ⟨mi_kp h kp, fun e => absurd e c, lr_kp kp, sf_I (sf_I sf_r (by decide)) (by decide), ?_, eAu, ?_, fun x => ?_, ?_⟩
      · rw [gI_I, if_neg (by omega), gI_I, if_pos ⟨rfl, rfl⟩]
        decide
      · unfold RB
        rw [eAu, eEu]
        omega
      · have hcn : ∀ n, cn m (wx_I (wx_I σ m 26 1) m 27 (sx_I σ m 27 + 1)) x (ti x1) n = cn m σ x (ti x1) n := fun n => cn_e n (fun k _ => by rw [gI_I, if_neg (by omega), gI_I, if_neg (by omega)])
        rw [hcn]
        show cn m σ x (ti x1) (ti (sx_I σ m 27)) + _ = _
        rw [c4]
      · unfold mW
        rw [gI_I, if_neg (by omega), gI_I, if_neg (by omega)]
    refine ok_ite (fun _ => ok_qb hs.r15 (ok_ck (by rw [hs.n12]; exact ik) (ok_ite (fun _ => yes) (fun _ => no)))) (fun _ => yes)
theorem ok_latest {x1 : Int32} (hs : ST m σ) (h0 : 0 ≤ x1.toInt) (h1 : x1.toInt ≤ 40) (hA : 1 ≤ (sx_I σ m 27).toInt ∧ (sx_I σ m 27).toInt ≤ 140) : f_X9_latestNumber σ m x1 = some (sx_J σ (m + 12) (160 * ti x1 + ti (sx_I σ m 27) - 1)) := by
  have i1 := n_160 (w := x1) (a := sx_I σ m 27) h0 h1 (by omega) (by omega)
  have i2 := n_sub1 (x := 160 * x1 + sx_I σ m 27) (by omega)
  have i3 : ti (160 * x1 + sx_I σ m 27 - 1) = 160 * ti x1 + ti (sx_I σ m 27) - 1 := by
    have t1 := ti_of h0
    have t2 := ti_of (x := sx_I σ m 27) (by omega)
    have t3 : ((ti (160 * x1 + sx_I σ m 27 - 1) : Nat) : Int) = _ := ti_of (by omega)
    omega
  have k : Ok (f_X9_latestNumber σ m x1) (fun r => r = sx_J σ (m + 12) (160 * ti x1 + ti (sx_I σ m 27) - 1)) := by
    unfold f_X9_latestNumber
    refine ok_qb hs.r15 (ok_ck (by rw [hs.n12]; omega) (ok_some ?_))
    rw [i3]
  obtain ⟨r, h, rfl⟩ := k
  exact h
/-! signals that are kept -/
theorem ok_keptOf_l {x1 : Int32} (hs : ST m σ) (hk : (sx_I σ m 39).toInt ≤ 160) : ∀ (p n : Nat) (x2 : Int32), 0 ≤ x2.toInt → x2.toInt ≤ 160 → 160 - x2.toInt ≤ p → p < n → Ok (fl_X9_keptOf_2 n0 n σ m x1 x2) (fun r => (r = -1 ∧ ∀ j : Nat, x2.toInt ≤ j → (j : Int) < (sx_I σ m 39).toInt → sx_I σ (m + 21) j ≠ x1) ∨ (0 ≤ r.toInt ∧ r.toInt < (sx_I σ m 39).toInt)) := by
  intro p
  induction p with
  | zero =>
    intro n x2 h0 h1 h2 h3
    obtain ⟨n, rfl⟩ : ∃ k, n = k + 1 := ⟨n - 1, by omega⟩
    unfold fl_X9_keptOf_2
    exact ok_p (by rw [n_le]; omega) (ok_some (Or.inl ⟨rfl, fun j q1 q2 => by omega⟩))
  | succ p ih =>
    intro n x2 h0 h1 h2 h3
    obtain ⟨n, rfl⟩ : ∃ k, n = k + 1 := ⟨n - 1, by omega⟩
    unfold fl_X9_keptOf_2
    refine ok_ite (fun c => ok_some (Or.inl ⟨rfl, fun j q1 q2 => by rw [n_le] at c; omega⟩)) (fun c => ?_)
    rw [n_le] at c
    have e1 : (x2 + 1).toInt = x2.toInt + 1 := n_add1 (by omega) (by omega)
    have t2 := ti_of h0
    refine ok_qb hs.r40 (ok_ck (by rw [hs.n21]; omega) (ok_ite (fun _ => ok_some (Or.inr ⟨h0, by omega⟩)) (fun c2 => ?_)))
    refine ok_m (ih n (x2 + 1) (by omega) (by omega) (by omega) (by omega)) (fun r hr => hr.imp (fun q => ⟨q.1, fun j q1 q2 => ?_⟩) id)
    by_cases e : j = ti x2
    · rw [e]; exact c2
    · exact q.2 j (by omega) q2
theorem ok_keptOf {x1 : Int32} (hn : 1000001 ≤ n0) (hs : ST m σ) (hk : (sx_I σ m 39).toInt ≤ 160) : Ok (f_X9_keptOf n0 σ m x1) (fun r => (r = -1 ∧ ∀ j : Nat, (j : Int) < (sx_I σ m 39).toInt → sx_I σ (m + 21) j ≠ x1) ∨ (0 ≤ r.toInt ∧ r.toInt < (sx_I σ m 39).toInt)) :=
  ok_m (ok_keptOf_l hs hk 160 n0 0 (by decide) (by decide) (by decide) (by omega)) (fun r hr => hr.imp (fun q => ⟨q.1, fun j hj => q.2 j (by rw [l_0]; omega) hj⟩) id)
def US (m : Nat) (σ u : sx_T) : Prop := KP m σ u ∧ (∀ k, k ≠ 39 → sx_I u m k = sx_I σ m k) ∧ ∀ j k, 1 ≤ j → j ≠ 21 → j ≠ 22 → sx_I u (m + j) k = sx_I σ (m + j) k
theorem ok_uses_l {x2 : Int32} : ∀ (p n : Nat) (σ : sx_T) (x3 : Int32), ST m σ → (sx_I σ m 39).toInt ≤ 159 → 0 ≤ x3.toInt → x3.toInt ≤ 160 → 160 - x3.toInt ≤ p → p < n → Ok (fl_X9_uses_19 n0 n σ m x2 x3) (fun r => US m σ r.2 ∧ sx_I r.2 m 39 = sx_I σ m 39) := by
  intro p
  induction p with
  | zero =>
    intro n σ x3 hs hk h0 h1 h2 h3
    obtain ⟨n, rfl⟩ : ∃ k, n = k + 1 := ⟨n - 1, by omega⟩
    unfold fl_X9_uses_19
    exact ok_p (by rw [n_le]; omega) (ok_some ⟨⟨kp_r, fun _ _ => rfl, fun _ _ _ _ _ => rfl⟩, rfl⟩)
  | succ p ih =>
    intro n σ x3 hs hk h0 h1 h2 h3
    obtain ⟨n, rfl⟩ : ∃ k, n = k + 1 := ⟨n - 1, by omega⟩
    unfold fl_X9_uses_19
    refine ok_ite (fun c => ok_some ⟨⟨kp_r, fun _ _ => rfl, fun _ _ _ _ _ => rfl⟩, rfl⟩) (fun c => ?_)
    rw [n_le] at c
    have e1 : (x3 + 1).toInt = x3.toInt + 1 := n_add1 (by omega) (by omega)
    refine ok_qv (ok_qb hs.r40 (ok_ck (by rw [hs.n21]; omega) (ok_bq hs.r40 (ok_ck (by rw [hs.n21]; omega) (ok_qv (ok_qb hs.r41 (ok_ck (by rw [hs.n22]; omega) (ok_bq hs.r41 (ok_ck (by rw [hs.n22]; omega) ?_)))))))))
    generalize hv : wx_I (wx_I σ (m + 21) (ti x3) (sx_I σ (m + 21) (ti (x3 + 1)))) (m + 22) (ti x3) (sx_I (wx_I σ (m + 21) (ti x3) (sx_I σ (m + 21) (ti (x3 + 1)))) (m + 22) (ti (x3 + 1))) = v
    have kp : KP m σ v := by rw [← hv]; exact kp_a (kp_a kp_r rfl (by decide) (by decide)) rfl (by decide) (by decide)
    have fm : ∀ k, sx_I v m k = sx_I σ m k := fun k => by rw [← hv, gI_I, if_neg (by omega), gI_I, if_neg (by omega)]
    have fj : ∀ j k, 1 ≤ j → j ≠ 21 → j ≠ 22 → sx_I v (m + j) k = sx_I σ (m + j) k := fun j k _ q1 q2 => by rw [← hv, gI_I, if_neg (by omega), gI_I, if_neg (by omega)]
    refine ok_m (ih n v (x3 + 1) (st_f kp.1 hs) (by rw [fm]; exact hk) (by omega) (by omega) (by omega) (by omega)) (fun r hr => ⟨⟨kp_t kp hr.1.1, fun k hk => (hr.1.2.1 k hk).trans (fm k), fun j k a b c => (hr.1.2.2 j k a b c).trans (fj j k a b c)⟩, hr.2.trans (fm 39)⟩)
theorem ok_uses {x1 : Int32} (hn : 1000001 ≤ n0) (hs : ST m σ) (hk : (sx_I σ m 39).toInt ≤ 160) (h0 : 0 ≤ x1.toInt) (h1 : x1.toInt < (sx_I σ m 39).toInt) : Ok (f_X9_uses n0 σ m x1) (fun r => US m σ r.2 ∧ (sx_I r.2 m 39).toInt = (sx_I σ m 39).toInt - 1) := by
  have e1 : (sx_I σ m 39 - 1).toInt = (sx_I σ m 39).toInt - 1 := n_sub1 (by omega)
  have e39 : sx_I (wx_I σ m 39 (sx_I σ m 39 - 1)) m 39 = sx_I σ m 39 - 1 := by rw [gI_I, if_pos ⟨rfl, rfl⟩]
  have kp : KP m σ (wx_I σ m 39 (sx_I σ m 39 - 1)) := kp_m kp_r rfl
  unfold f_X9_uses
  refine ok_qb hs.r41 (ok_ck (by rw [hs.n22]; omega) ?_)
  refine ok_m (ok_uses_l 160 n0 _ x1 (st_f kp.1 hs) (by rw [e39]; omega) h0 (by omega) (by omega) (by omega)) (fun r hr => ⟨⟨kp_t kp hr.1.1, fun k hk => (hr.1.2.1 k hk).trans (by rw [gI_I, if_neg (by omega)]), fun j k a b c => (hr.1.2.2 j k a b c).trans (by rw [gI_I, if_neg (by omega)])⟩, ?_⟩)
  rw [hr.2, e39, e1]
end M3
