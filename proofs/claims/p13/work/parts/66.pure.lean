/-! counts -/
theorem sumC_le {f g : Nat → Int} : ∀ n, (∀ i, i < n → f i ≤ g i) → sumC f n ≤ sumC g n := by
  intro n
  induction n with
  | zero => intro _; exact Int.le_refl _
  | succ n ih =>
    intro h
    have h1 := ih (fun i hi => h i (by omega))
    have h2 := h n (by omega)
    show sumC f n + f n ≤ sumC g n + g n
    omega
theorem sumC_lt {f g : Nat → Int} {j : Nat} : ∀ n, j < n → f j + 1 ≤ g j → (∀ i, i < n → f i ≤ g i) → sumC f n + 1 ≤ sumC g n := by
  intro n
  induction n with
  | zero => intro h; omega
  | succ n ih =>
    intro hj h1 h2
    show sumC f n + f n + 1 ≤ sumC g n + g n
    by_cases e : j = n
    · subst e
      have := sumC_le j (fun i hi => h2 i (by omega))
      omega
    · have := ih (by omega) h1 (fun i hi => h2 i (by omega))
      have := h2 n (by omega)
      omega
noncomputable def rI (n0 m : Nat) (σ : sx_T) (w : Nat) : Int := @ite Int (Rc n0 m (Int32.ofNat w) σ) (Classical.propDecidable _) 1 0
noncomputable def nR (n0 m : Nat) (σ : sx_T) : Int := sumC (rI n0 m σ) 40
def dI (m : Nat) (σ : sx_T) (w : Nat) : Int := if sx_I σ (m + 7) w = 0 then 0 else 1
def nd (m : Nat) (σ : sx_T) : Int := sumC (dI m σ) 40
theorem ti_ofNat {w : Nat} (h : w ≤ 1000000) : ti (Int32.ofNat w) = w := by
  have := n_ofNat h
  unfold ti
  omega
section M17
variable {m w i : Nat} {σ v u β : sx_T} {s D : Int} {n0 : Nat} {x1 x2 x3 : Int32}
theorem nR_b : nR n0 m σ ≤ 40 := by
  have := sumC_b (f := rI n0 m σ) (m := 1) 40 (fun i _ => by unfold rI; split <;> decide)
  unfold nR
  omega
theorem nd_b : nd m σ ≤ 40 := by
  have := sumC_b (f := dI m σ) (m := 1) 40 (fun i _ => by unfold dI; split <;> decide)
  unfold nd
  omega
theorem rI_1 {w : Nat} (h : Rc n0 m (Int32.ofNat w) σ) : rI n0 m σ w = 1 := by unfold rI; rw [if_pos h]
theorem rI_le {w : Nat} (h : Rc n0 m (Int32.ofNat w) σ → Rc n0 m (Int32.ofNat w) u) : rI n0 m σ w ≤ rI n0 m u w := by
  unfold rI
  by_cases c : Rc n0 m (Int32.ofNat w) σ
  · rw [if_pos c, if_pos (h c)]; exact Int.le_refl _
  · rw [if_neg c]; split <;> decide
theorem rI_lt {w : Nat} (h : ¬ Rc n0 m (Int32.ofNat w) σ) (h2 : Rc n0 m (Int32.ofNat w) u) : rI n0 m σ w + 1 ≤ rI n0 m u w := by
  unfold rI
  rw [if_neg h, if_pos h2]
  decide
/-- one that was asked is there -/
theorem rc_w (h : MI m 0 σ) {w : Nat} (hw : w < 40) (hr : Rc n0 m (Int32.ofNat w) σ) : (w : Int) < mW m σ := by
  obtain ⟨n, i, β, s, h1, h2, h3, h4, h5⟩ := hr
  rw [ti_ofNat (by omega)] at h4
  by_cases c : (w : Int) < mW m σ
  · exact c
  · have := h.e0 w hw (by omega)
    omega
theorem rc_up2 {x1 : Int32} (h : Rc n0 m x1 σ) (hl : LW m σ u) (hw : ((ti x1 : Nat) : Int) < mW m σ ∧ ti x1 < 41) (hg : (sx_I σ (m + 9) (ti x1)).toInt ≤ (sx_I u (m + 9) (ti x1)).toInt ∨ mE m u (ti x1) ≤ (sx_I u (m + 9) (ti x1)).toInt) : Rc n0 m x1 u := by
  rcases hg with hg | hg
  · exact rc_up h hl hw hg
  · obtain ⟨n, i, β, s, h1, h2, h3, h4, h5⟩ := h
    have c := (tr_c n s h1).2.2.2.1.2.2
    have e := hl.ev _ hw.2
    refine ⟨n, i, β, s, h1, h2, hc_t h3 ?_, Int.le_trans h4 e, by omega⟩
    exact ⟨fun j a b k => (hl.co j a b k).symm, (hl.pr _ hw.1 4 (by decide) (by decide)).symm, fun k hk => by
      have := hl.hi _ hw.2 k (by omega)
      exact ⟨this.1.symm, this.2.symm⟩⟩
theorem nR_up (h : MI m 0 σ) (hl : LW m σ u) (hg : ∀ w, w < 40 → (sx_I σ (m + 9) w).toInt ≤ (sx_I u (m + 9) w).toInt ∨ mE m u w ≤ (sx_I u (m + 9) w).toInt) : nR n0 m σ ≤ nR n0 m u := by
  refine sumC_le 40 (fun w hw => rI_le (fun hr => ?_))
  have hlt := rc_w h hw hr
  exact rc_up2 hr hl (by rw [ti_ofNat (by omega)]; exact ⟨hlt, by omega⟩) (by rw [ti_ofNat (by omega)]; exact hg w hw)
def NE (m : Nat) (σ : sx_T) : Prop := ∀ w : Nat, (w : Int) < mW m σ → 1 ≤ mE m σ w
theorem ne_l (h : NE m σ) (hl : LW m σ u) (hu : MI m s u) : NE m u := by
  intro w hw
  have := hu.wf
  by_cases e : (w : Int) < mW m σ
  · exact Int.le_trans (h w e) (hl.ev w (by omega))
  · exact hl.2 w (by omega) (by omega) hw
/-- what stands while something runs -/
def QI (n0 m : Nat) (D : Int) (σ : sx_T) : Prop := MI m 0 σ ∧ NE m σ ∧ (0 ≤ (sx_I σ m 45).toInt ∧ (sx_I σ m 45).toInt ≤ nR n0 m σ) ∧ (0 ≤ (sx_I σ m 43).toInt ∧ (sx_I σ m 43).toInt + D ≤ nd m σ) ∧ ∀ k : Nat, (k : Int) < (sx_I σ m 43).toInt → 0 ≤ (sx_I σ (m + 24) k).toInt ∧ (sx_I σ (m + 24) k).toInt < mW m σ
theorem qi_s (h : QI n0 m D σ) (hu : MI m 0 u) (hl : LW m σ u) (h45 : sx_I u m 45 = sx_I σ m 45) (h9 : ∀ w, w < 40 → (sx_I σ (m + 9) w).toInt ≤ (sx_I u (m + 9) w).toInt ∨ mE m u w ≤ (sx_I u (m + 9) w).toInt) (h43 : sx_I u m 43 = sx_I σ m 43) (h24 : ∀ k, sx_I u (m + 24) k = sx_I σ (m + 24) k) (h7 : nd m σ ≤ nd m u) : QI n0 m D u := by
  obtain ⟨q1, q2, q3, q4, q5⟩ := h
  have := nR_up (n0 := n0) q1 hl h9
  have := hl.up
  refine ⟨hu, ne_l q2 hl hu, by rw [h45]; omega, by rw [h43]; omega, fun k hk => ?_⟩
  rw [h43] at hk
  rw [h24]
  have := q5 k hk
  omega
theorem nd_e (h : ∀ k, sx_I u (m + 7) k = sx_I σ (m + 7) k) : nd m u = nd m σ := sumC_e 40 (fun i _ => by unfold dI; rw [h])
theorem qi_lr (h : QI n0 m D σ) (hu : MI m 0 u) (hl : LR m σ u) (h45 : sx_I u m 45 = sx_I σ m 45) (h9 : ∀ k, sx_I u (m + 9) k = sx_I σ (m + 9) k) : QI n0 m D u :=
  qi_s h hu hl.1 h45 (fun w _ => Or.inl (by rw [h9]; exact Int.le_refl _)) hl.2.1 (hl.2.2 24 (by omega)) (by rw [nd_e (hl.2.2 7 (by omega))]; exact Int.le_refl _)
theorem qi_d {D' : Int} (h : QI n0 m D σ) (hd : D' ≤ D) : QI n0 m D' σ := ⟨h.1, h.2.1, h.2.2.1, ⟨h.2.2.2.1.1, by have := h.2.2.2.1.2; omega⟩, h.2.2.2.2⟩
theorem qi_b (h : QI n0 m D σ) (hD : 0 ≤ D) : (sx_I σ m 45).toInt ≤ 40 ∧ (sx_I σ m 43).toInt ≤ 40 := by
  have := nR_b (n0 := n0) (m := m) (σ := σ)
  have := nd_b (m := m) (σ := σ)
  obtain ⟨-, -, q3, q4, -⟩ := h
  omega
/-- a task is closed -/
theorem ok_closes (hs : ST m σ) (h : 0 ≤ x1.toInt ∧ x1.toInt < 2100) : Ok (f_X9_closes σ m x1) (fun u => KP m σ u ∧ (∀ k, sx_I u m k = sx_I σ m k) ∧ ∀ j k, 1 ≤ j → j ≠ 15 → j ≠ 18 → sx_I u (m + j) k = sx_I σ (m + j) k) := by
  unfold f_X9_closes
  refine ok_qb hs.r19 (ok_ck (by rw [hs.n15]; omega) (ok_qb hs.r22 (ok_ck (by rw [hs.n18]; omega) (ok_some ⟨kp_a (kp_a kp_r rfl (by decide) (by decide)) rfl (by decide) (by decide), fun k => by rw [gI_I, if_neg (by omega), gI_I, if_neg (by omega)], fun j k a b c => by rw [gI_I, if_neg (by omega), gI_I, if_neg (by omega)]⟩))))
/-- other rows and fields -/
theorem lw_j {j k : Nat} {x : Int32} (hj : j = 7 ∨ j = 9 ∨ j = 15 ∨ j = 18 ∨ j = 23 ∨ j = 24) : LW m σ (wx_I σ (m + j) k x) := by
  have fj : ∀ j' k', j' ≠ j → sx_I (wx_I σ (m + j) k x) (m + j') k' = sx_I σ (m + j') k' := fun j' k' a => by rw [gI_I, if_neg (by omega)]
  have fm : ∀ k', sx_I (wx_I σ (m + j) k x) m k' = sx_I σ m k' := fun k' => by rw [gI_I, if_neg (by omega)]
  have eW : mW m (wx_I σ (m + j) k x) = mW m σ := by unfold mW; rw [fm]
  have eT : mT m (wx_I σ (m + j) k x) = mT m σ := by unfold mT; rw [fm]
  have eE : ∀ w, mE m (wx_I σ (m + j) k x) w = mE m σ w := fun w => by unfold mE; rw [fj 8 w (by omega)]
  exact ⟨⟨fa_I (mc_j (by omega)), fun k' _ => fm k', fun j' p q k' => fj j' k' (by omega), ⟨by omega, by omega⟩, fun w _ j' p q => fj j' w (by omega), fun w _ => by rw [eE]; exact Int.le_refl _, fun w _ k' _ => ⟨fj 11 _ (by omega), rfl⟩, fun t _ => fj 13 t (by omega)⟩, fun w _ p q => by omega⟩
theorem lw_f {k : Nat} {x : Int32} (hk : k ≠ 1 ∧ k ≠ 6 ∧ k ≠ 16 ∧ k ≠ 0) : LW m σ (wx_I σ m k x) := by
  have fj : ∀ j' k', 1 ≤ j' → sx_I (wx_I σ m k x) (m + j') k' = sx_I σ (m + j') k' := fun j' k' a => by rw [gI_I, if_neg (by omega)]
  have eW : mW m (wx_I σ m k x) = mW m σ := by unfold mW; rw [kn (by omega)]
  have eT : mT m (wx_I σ m k x) = mT m σ := by unfold mT; rw [kn (by omega)]
  have eE : ∀ w, mE m (wx_I σ m k x) w = mE m σ w := fun w => by unfold mE; rw [fj 8 w (by omega)]
  exact ⟨⟨fa_I mc_0, fun k' hk' => kn (by omega), fun j' p q k' => fj j' k' (by omega), ⟨by omega, by omega⟩, fun w _ j' p q => fj j' w (by omega), fun w _ => by rw [eE]; exact Int.le_refl _, fun w _ k' _ => ⟨fj 11 _ (by omega), rfl⟩, fun t _ => fj 13 t (by omega)⟩, fun w _ p q => by omega⟩
theorem mi_j {j k : Nat} {x : Int32} (h : MI m s σ) (hj : j = 7 ∨ j = 9 ∨ j = 14 ∨ j = 15 ∨ j = 16 ∨ j = 17 ∨ j = 18 ∨ j = 19 ∨ j = 23 ∨ j = 24) : MI m s (wx_I σ (m + j) k x) :=
  mi_q h (fa_I (mc_j (by omega))) (by rw [gI_I, if_neg (by omega)]) (by rw [gI_I, if_neg (by omega)]) (fun j' hj' k' => by rw [gI_I, if_neg (by omega)])
theorem mi_f {k : Nat} {x : Int32} (h : MI m s σ) (hk : k ≠ 6 ∧ k ≠ 16) : MI m s (wx_I σ m k x) :=
  mi_q h (fa_I mc_0) (kn (by omega)) (kn (by omega)) (fun j' hj' k' => by rw [gI_I, if_neg (by omega)])
/-- what rests leaves -/
def RE (n0 m : Nat) (D : Int) (σ u : sx_T) : Prop := QI n0 m D u ∧ LW m σ u ∧ mW m u = mW m σ ∧ ∀ k, sx_I u (m + 23) k = sx_I σ (m + 23) k
theorem re_t {D' : Int} (h1 : RE n0 m D σ v) (h2 : RE n0 m D' v u) : RE n0 m D' σ u := ⟨h2.1, lw_t h1.2.1 h2.2.1, h2.2.2.1.trans h1.2.2.1, fun k => (h2.2.2.2 k).trans (h1.2.2.2 k)⟩
theorem ok_rests102 (hn : 1000001 ≤ n0) (hD : 0 ≤ D) (h : QI n0 m D σ) (h0 : 0 ≤ x1.toInt) (h1 : x1.toInt < mW m σ) (he : sx_I σ (m + 7) (ti x1) = 0) : Ok (fb_X9_rests_102 n0 σ m x1) (RE n0 m D σ) := by
  have hm := h.1
  have hs := hm.st
  have hwf := hm.wf
  have tw := ti_of h0
  have b41 : 0 ≤ x1.toInt ∧ x1.toInt < ((41 : Nat) : Int) := by omega
  unfold fb_X9_rests_102
  refine ok_ite (fun _ => ok_some ⟨h, lw_r, rfl, fun _ => rfl⟩) (fun cO => ?_)
  rw [n_le, l_0] at cO
  refine ok_qb hs.r10 (ok_ck (by rw [hs.n7]; exact b41) (ok_qb hs.r8 (ok_ck (by rw [hs.n5]; exact b41) ?_)))
  have e5 : sx_I (wx_I σ (m + 7) (ti x1) (sx_I σ m 37)) (m + 5) (ti x1) = sx_I σ (m + 5) (ti x1) := by rw [gI_I, if_neg (by omega)]
  rw [e5]
  have hO : sx_I σ m 37 ≠ 0 := fun e => by rw [e, l_0] at cO; omega
  have hz1 : LW m σ (wx_I σ (m + 7) (ti x1) (sx_I σ m 37)) := lw_j (Or.inl rfl)
  have hz2 : MI m 0 (wx_I σ (m + 7) (ti x1) (sx_I σ m 37)) := mi_j hm (Or.inl rfl)
  have r7 : ∀ i, sx_I (wx_I σ (m + 7) (ti x1) (sx_I σ m 37)) (m + 7) i = if i = ti x1 then sx_I σ m 37 else sx_I σ (m + 7) i := fun i => by
    rw [gI_I]
    by_cases e : i = ti x1
    · rw [if_pos ⟨rfl, e⟩, if_pos e]
    · rw [if_neg (fun q => e q.2), if_neg e]
  have hz3 : nd m σ + 1 ≤ nd m (wx_I σ (m + 7) (ti x1) (sx_I σ m 37)) := by
    refine sumC_lt (j := ti x1) 40 (by omega) ?_ (fun i hi => ?_)
    · show (if sx_I σ (m + 7) (ti x1) = 0 then (0 : Int) else 1) + 1 ≤ (if sx_I (wx_I σ (m + 7) (ti x1) (sx_I σ m 37)) (m + 7) (ti x1) = 0 then 0 else 1)
      rw [r7, if_pos rfl, he, if_pos rfl, if_neg hO]
      decide
    · show (if sx_I σ (m + 7) i = 0 then (0 : Int) else 1) ≤ (if sx_I (wx_I σ (m + 7) (ti x1) (sx_I σ m 37)) (m + 7) i = 0 then 0 else 1)
      rw [r7]
      by_cases e : i = ti x1
      · rw [if_pos e, if_neg hO]
        split <;> decide
      · rw [if_neg e]
        exact Int.le_refl _
  have hz4 : ∀ k, sx_I (wx_I σ (m + 7) (ti x1) (sx_I σ m 37)) m k = sx_I σ m k := fun k => by rw [gI_I, if_neg (by omega)]
  have hz5 : ∀ j k, j ≠ 7 → sx_I (wx_I σ (m + 7) (ti x1) (sx_I σ m 37)) (m + j) k = sx_I σ (m + j) k := fun j k a => by rw [gI_I, if_neg (by omega)]
  generalize wx_I σ (m + 7) (ti x1) (sx_I σ m 37) = z at hz1 hz2 hz3 hz4 hz5 ⊢
  have eW : mW m z = mW m σ := by unfold mW; rw [hz4]
  have hq : QI n0 m (D + 1) z := by
    have a := qi_s (D := D) h hz2 hz1 (hz4 45) (fun w _ => Or.inl (by rw [hz5 9 w (by decide)]; exact Int.le_refl _)) (hz4 43) (fun k => hz5 24 k (by decide)) (by omega)
    obtain ⟨q1, q2, q3, q4, q5⟩ := a
    refine ⟨q1, q2, q3, ⟨q4.1, ?_⟩, q5⟩
    have := h.2.2.2.1.2
    rw [hz4 43]
    omega
  have out : RE n0 m D σ z := ⟨qi_d hq (by omega), hz1, eW, fun k => hz5 23 k (by decide)⟩
  refine ok_ite (fun _ => ok_some out) (fun _ => ok_ite (fun _ => ok_some out) (fun cp => ?_))
  have hp := (hm.pw (ti x1) (by omega)).2.1
  have hp2 := hm.pa (ti x1) (by omega)
  have hp0 : 0 ≤ (sx_I σ (m + 5) (ti x1)).toInt := by
    rw [q_m1] at cp
    omega
  generalize sx_I σ (m + 5) (ti x1) = p at cp hp hp2 hp0 ⊢
  have tp := ti_of hp0
  have p41 : 0 ≤ p.toInt ∧ p.toInt < ((41 : Nat) : Int) := by omega
  have hsz := hz2.st
  have ezr : ∀ {w : Option Nat}, w = w := rfl
  refine ok_qb hs.r10 (ok_ck (by rw [hs.n7]; exact p41) (ok_ite (fun _ => ?_) (fun _ => ok_some out)))
  refine ok_qb hs.r11 (ok_ck (by rw [hs.n8]; exact p41) (ok_bd (ok_replays (x3 := 0) (x2 := sx_I z (m + 8) (ti p)) hn hz2 hp0 (by omega) (fun e => absurd rfl e) rfl (hq.2.1 (ti p) (by omega)) (fun e => absurd rfl e)) (fun r u hu => ?_)))
  obtain ⟨u1, u2, u3, u4, u5⟩ := rr_fi hu
  have u1 : MI m 0 u := u1
  have u2 : LR m z u := u2
  have u3 : mW m u = mW m z := u3
  have u4 : sx_I u m 45 = sx_I z m 45 ∧ ∀ k, sx_I u (m + 9) k = sx_I z (m + 9) k := u4
  have u5 : sx_I u m 26 ≠ 0 → mA m u = mE m u (ti p) ∧ mA m u ≤ 134 := u5
  have hqu := qi_lr hq u1 u2 u4.1 u4.2
  have outu : RE n0 m D σ u := ⟨qi_d hqu (by omega), lw_t hz1 u2.1, u3.trans eW, fun k => (u2.2.2 23 (by omega) k).trans (hz5 23 k (by decide))⟩
  have hsu := u1.st
  refine ok_ite (fun _ => ok_some outu) (fun cf => ok_ite (fun _ => ok_qb hsu.r9 (ok_ck (by rw [hsu.n6]; exact b41) (ok_ite (fun _ => ?_) (fun _ => ok_some outu)))) (fun _ => ok_some outu))
  have u5 := u5 cf
  have hE0 := u1.eb (ti p) (by omega)
  refine ok_bre (ok_addsM hsu hp0 (by omega) hE0.1 (by omega)) ?_
  have a1 := mi_adds (x4 := 8) (x5 := 10 * (sx_I σ m 29).toInt64 + (sx_I σ m 37).toInt64) (d := 0) u1 (w := ti p) (by omega) (by omega) (fun e => absurd e (by decide)) (fun e => absurd e (by decide)) (fun e => absurd e (by decide)) (Or.inl rfl)
  rw [Int.add_zero] at a1
  have a2 := lr_ax (w := ti p) (x4 := 8) (x5 := 10 * (sx_I σ m 29).toInt64 + (sx_I σ m 37).toInt64) u1.eb (by omega)
  have a3 := fun k => ax_m (m := m) (σ := u) (w := ti p) (x4 := 8) (x5 := 10 * (sx_I σ m 29).toInt64 + (sx_I σ m 37).toInt64) (k := k)
  have a4 := fun j k => ax_j (m := m) (σ := u) (w := ti p) (x4 := 8) (x5 := 10 * (sx_I σ m 29).toInt64 + (sx_I σ m 37).toInt64) (j := j) (k := k)
  generalize AX m (ti p) 8 (10 * (sx_I σ m 29).toInt64 + (sx_I σ m 37).toInt64) u = y at a1 a2 a3 a4 ⊢
  have hqy : QI n0 m (D + 1) y := qi_lr hqu a1 a2 (a3 45) (fun k => a4 9 k (by decide) (by decide))
  have b := qi_b hqy (by omega)
  have eWy : mW m y = mW m u := by unfold mW; rw [a3]
  have hb43 : 0 ≤ (sx_I y m 43).toInt := hqy.2.2.2.1.1
  have hsy := a1.st
  refine ok_qb hsy.r44 (ok_ck (by rw [hsy.n24]; omega) (ok_some ?_))
  have t43 := ti_of hb43
  have e43 : (sx_I y m 43 + 1).toInt = (sx_I y m 43).toInt + 1 := n_add1 (by omega) (by omega)
  have m1 : MI m 0 (wx_I (wx_I y (m + 24) (ti (sx_I y m 43)) p) m 43 (sx_I y m 43 + 1)) := mi_f (mi_j a1 (by omega)) (by decide)
  have l1 : LW m y (wx_I (wx_I y (m + 24) (ti (sx_I y m 43)) p) m 43 (sx_I y m 43 + 1)) := lw_t (lw_j (by omega)) (lw_f (by decide))
  have f1 : ∀ k, k ≠ 43 → sx_I (wx_I (wx_I y (m + 24) (ti (sx_I y m 43)) p) m 43 (sx_I y m 43 + 1)) m k = sx_I y m k := fun k a => by rw [kn a, gI_I, if_neg (by omega)]
  have f2 : sx_I (wx_I (wx_I y (m + 24) (ti (sx_I y m 43)) p) m 43 (sx_I y m 43 + 1)) m 43 = sx_I y m 43 + 1 := ke
  have f3 : ∀ j k, 1 ≤ j → j ≠ 24 → sx_I (wx_I (wx_I y (m + 24) (ti (sx_I y m 43)) p) m 43 (sx_I y m 43 + 1)) (m + j) k = sx_I y (m + j) k := fun j k a c => by rw [gI_I, if_neg (by omega), gI_I, if_neg (by omega)]
  have f4 : ∀ k, sx_I (wx_I (wx_I y (m + 24) (ti (sx_I y m 43)) p) m 43 (sx_I y m 43 + 1)) (m + 24) k = if k = ti (sx_I y m 43) then p else sx_I y (m + 24) k := fun k => by
    rw [gI_I, if_neg (by omega), gI_I]
    by_cases e : k = ti (sx_I y m 43)
    · rw [if_pos ⟨rfl, e⟩, if_pos e]
    · rw [if_neg (fun q => e q.2), if_neg e]
  generalize wx_I (wx_I y (m + 24) (ti (sx_I y m 43)) p) m 43 (sx_I y m 43 + 1) = z' at m1 l1 f1 f2 f3 f4 ⊢
  have eW' : mW m z' = mW m y := by unfold mW; rw [f1 6 (by decide)]
  refine ⟨?_, lw_t (lw_t hz1 u2.1) (lw_t a2.1 l1), by omega, fun k => by rw [f3 23 k (by decide) (by decide), a4 23 k (by decide) (by decide), u2.2.2 23 (by omega) k, hz5 23 k (by decide)]⟩
  obtain ⟨q1, q2, q3, q4, q5⟩ := hqy
  have g1 := nR_up (n0 := n0) a1 l1 (fun w _ => Or.inl (by rw [f3 9 w (by decide) (by decide)]; exact Int.le_refl _))
  have g2 : nd m z' = nd m y := nd_e (fun k => f3 7 k (by decide) (by decide))
  refine ⟨m1, ne_l q2 l1 m1, by rw [f1 45 (by decide)]; omega, by rw [f2, e43, g2]; omega, fun k hk => ?_⟩
  rw [f2, e43] at hk
  rw [f4]
  by_cases e : k = ti (sx_I y m 43)
  · rw [if_pos e]; omega
  · rw [if_neg e]
    have := q5 k (by omega)
    omega
end M17
