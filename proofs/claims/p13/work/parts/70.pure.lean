section M21
variable {m w i : Nat} {σ v u β : sx_T} {s D : Int} {n0 : Nat} {x1 x2 x3 x4 x5 : Int32}
/-- other rows -/
theorem mu_j {j k : Nat} {x : Int32} (h : MG m σ) (hj : j = 7 ∨ j = 9 ∨ j = 14 ∨ j = 15 ∨ j = 16 ∨ j = 17 ∨ j = 18 ∨ j = 19 ∨ j = 23 ∨ j = 24) : MU m σ (wx_I σ (m + j) k x) ∧ (∀ k', sx_I (wx_I σ (m + j) k x) m k' = sx_I σ m k') ∧ ∀ j' k', j' ≠ j → sx_I (wx_I σ (m + j) k x) (m + j') k' = sx_I σ (m + j') k' := by
  have fm : ∀ k', sx_I (wx_I σ (m + j) k x) m k' = sx_I σ m k' := fun k' => by rw [gI_I, if_neg (by omega)]
  have fj : ∀ j' k', j' ≠ j → sx_I (wx_I σ (m + j) k x) (m + j') k' = sx_I σ (m + j') k' := fun j' k' a => by rw [gI_I, if_neg (by omega)]
  refine ⟨⟨⟨mi_j h.1 hj, fun w hw => ?_⟩, fa_I (mc_j (by omega)), fm 1⟩, fm, fj⟩
  have e6 : mW m (wx_I σ (m + j) k x) = mW m σ := by unfold mW; rw [fm]
  rw [e6] at hw
  unfold mE
  rw [fj 8 w (by omega)]
  exact h.2 w hw
theorem mu_f {k : Nat} {x : Int32} (h : MG m σ) (hk : k ≠ 1 ∧ k ≠ 6 ∧ k ≠ 16) : MU m σ (wx_I σ m k x) := (mg_0 h hk).2.1
/-- the place for trying -/
theorem mi_40 {p y : Int32} (h : MG m σ) (hp : 0 ≤ p.toInt ∧ p.toInt ≤ 5) (hy : y = -1) : MG m (wx_I (wx_I σ (m + 4) 40 p) (m + 5) 40 y) ∧ LW m σ (wx_I (wx_I σ (m + 4) 40 p) (m + 5) 40 y) ∧ mW m (wx_I (wx_I σ (m + 4) 40 p) (m + 5) 40 y) = mW m σ ∧ ∀ w, mE m (wx_I (wx_I σ (m + 4) 40 p) (m + 5) 40 y) w = mE m σ w := by
  have hm := h.1
  have hwf := hm.wf
  have fm : ∀ k', sx_I (wx_I (wx_I σ (m + 4) 40 p) (m + 5) 40 y) m k' = sx_I σ m k' := fun k' => by rw [gI_I, if_neg (by omega), gI_I, if_neg (by omega)]
  have fj : ∀ j' k', j' ≠ 4 → j' ≠ 5 → sx_I (wx_I (wx_I σ (m + 4) 40 p) (m + 5) 40 y) (m + j') k' = sx_I σ (m + j') k' := fun j' k' a b => by rw [gI_I, if_neg (by omega), gI_I, if_neg (by omega)]
  have fk : ∀ j' k', k' ≠ 40 → sx_I (wx_I (wx_I σ (m + 4) 40 p) (m + 5) 40 y) (m + j') k' = sx_I σ (m + j') k' := fun j' k' a => by rw [gI_I, if_neg (by omega), gI_I, if_neg (by omega)]
  have f4 : sx_I (wx_I (wx_I σ (m + 4) 40 p) (m + 5) 40 y) (m + 4) 40 = p := by rw [gI_I, if_neg (by omega), gI_I, if_pos ⟨rfl, rfl⟩]
  have f5 : sx_I (wx_I (wx_I σ (m + 4) 40 p) (m + 5) 40 y) (m + 5) 40 = y := by rw [gI_I, if_pos ⟨rfl, rfl⟩]
  have fJ : ∀ a k, sx_J (wx_I (wx_I σ (m + 4) 40 p) (m + 5) 40 y) a k = sx_J σ a k := fun _ _ => rfl
  have hf : FA (MC m) σ (wx_I (wx_I σ (m + 4) 40 p) (m + 5) 40 y) := fa_t (fa_I (mc_j (by omega))) (fa_I (mc_j (by omega)))
  generalize wx_I (wx_I σ (m + 4) 40 p) (m + 5) 40 y = z at fm fj fk f4 f5 fJ hf ⊢
  have hW : mW m z = mW m σ := by unfold mW; rw [fm]
  have hT : mT m z = mT m σ := by unfold mT; rw [fm]
  have hE : ∀ w, mE m z w = mE m σ w := fun w => by unfold mE; rw [fj 8 w (by decide) (by decide)]
  have hc : ∀ x w n, cn m z x w n = cn m σ x w n := fun x w n => cn_e n (fun k _ => fj 11 _ (by decide) (by decide))
  have hwt : wt m z = wt m σ := by funext w; unfold wt; rw [hE, hc, hc, fj 10 w (by decide) (by decide)]
  refine ⟨⟨⟨st_f hf hm.st, by rw [hW]; exact hm.wf, fun w hw => ?_, ?_, ?_, ?_, ?_, fun q hq => ?_⟩, ?_⟩, ⟨⟨hf, fun k' _ => fm k', fun j a b k => fj j k (by omega) (by omega), ⟨by omega, by omega⟩, fun w hw j a b => fk j w (by omega), fun w _ => by rw [hE]; exact Int.le_refl _, fun w _ k _ => ⟨fj 11 _ (by decide) (by decide), fJ _ _⟩, fun t _ => fj 13 t (by decide) (by decide)⟩, fun w _ a b => by omega⟩, hW, hE⟩
  · have := hm.pw w hw
    unfold PW at this ⊢
    rw [hE, hc, hc]
    refine ⟨?_, ?_, this.2.2.1, fun q => ?_, this.2.2.2.2⟩
    · by_cases e : w = 40
      · rw [e, f4]; exact hp
      · rw [fk 4 w e]; exact this.1
    · by_cases e : w = 40
      · rw [e, f5, hy]; decide
      · rw [fk 5 w e]; exact this.2.1
    · rw [fj 11 _ (by decide) (by decide)]
      exact this.2.2.2.1 q
  · intro w hw
    rw [hW] at hw ⊢
    rw [fk 5 w (by omega)]
    exact hm.pa w hw
  · intro w h1 h2
    rw [hW] at h2
    rw [hE]
    exact hm.e0 w h1 h2
  · rw [hT, hW, hwt]; exact hm.tk
  · intro t ht
    rw [hT] at ht
    rw [hW, fj 13 t (by decide) (by decide)]
    exact hm.ow t ht
  · rw [fj 1 q (by decide) (by decide), fj 2 q (by decide) (by decide)]
    exact hm.fi q hq
  · intro w hw
    rw [hW] at hw
    rw [hE]
    exact h.2 w hw
theorem ok_canReset (hn : 1000001 ≤ n0) (h : MG m σ) (h0 : 0 ≤ x1.toInt) (h1 : x1.toInt < mW m σ) (h2 : 1 ≤ x2.toInt ∧ x2.toInt ≤ mE m σ (ti x1)) : Ok (f_X9_canReset n0 σ m x1 x2) (fun r => MU m σ r.2 ∧ mW m r.2 = mW m σ ∧ mE m σ (ti x1) ≤ mE m r.2 (ti x1) ∧ (r.1 ≠ 0 → mW m σ < 40)) := by
  have hm := h.1
  have hs := hm.st
  have hwf := hm.wf
  have tw := ti_of h0
  have b41 : 0 ≤ x1.toInt ∧ x1.toInt < ((41 : Nat) : Int) := by omega
  have l40 : (40 : Int32).toInt = 40 := by decide
  have t40 : ti (40 : Int32) = 40 := by decide
  have out : MU m σ σ ∧ mW m σ = mW m σ ∧ mE m σ (ti x1) ≤ mE m σ (ti x1) ∧ ((0 : Int32) ≠ 0 → mW m σ < 40) := ⟨mu_r h, rfl, Int.le_refl _, fun e => absurd rfl e⟩
  unfold f_X9_canReset
  refine ok_qb hs.r10 (ok_ck (by rw [hs.n7]; exact b41) (ok_ite (fun _ => ok_some out) (fun _ => ok_ite (fun _ => ok_some out) (fun c40 => ?_))))
  rw [n_eq, l40] at c40
  have h40 : mW m σ < 40 := by unfold mW at hwf ⊢; omega
  have hp := (hm.pw (ti x1) (by omega)).1
  refine ok_qv (ok_qb hs.r7 (ok_ck (by rw [hs.n4]; exact b41) (ok_bq hs.r7 (ok_ck (by rw [hs.n4]; decide) (ok_qb hs.r8 (ok_ck (by rw [hs.n5]; decide) ?_))))))
  rw [t40]
  obtain ⟨z1, z2, z3, z4⟩ := mi_40 (p := sx_I σ (m + 4) (ti x1)) (y := -1) h hp rfl
  generalize wx_I (wx_I σ (m + 4) 40 (sx_I σ (m + 4) (ti x1))) (m + 5) 40 (-1) = z at z1 z2 z3 z4 ⊢
  have hE2 := (hm.eb (ti x1) (by omega)).2
  refine ok_br (ok_copies hn z1.1.st ⟨h0, by omega⟩ (by rw [l40]; decide) (by rw [t40]; omega) (by omega)) (fun y hy => ?_)
  rw [t40] at hy
  obtain ⟨y1, y2, y3, y4⟩ := mi_cy z1.1 (by omega) (by omega) (by omega) ⟨h2.1, by rw [z4]; exact h2.2⟩ (Or.inl rfl) hy
  have yN : MG m y := ⟨y1, fun w hw => by
    rw [y4] at hw
    rw [y2 w (by omega)]
    exact z1.2 w hw⟩
  have muy : MU m σ y := mu_t (mu_l z1 z2) ⟨yN, hy.1, hy.2.1 1⟩
  refine ok_bd (ok_replays (x1 := 40) (x3 := 0) (x2 := x2) hn y1 (by decide) (by decide) (fun e => absurd rfl e) (by rw [t40, y3]) (by rw [t40, y3]; exact h2.1) (fun e => absurd rfl e)) (fun r k hk => ?_)
  obtain ⟨k1, k2, k3, k4, k5⟩ := rr_fi hk
  have k1 : MI m 0 k := k1
  have k2 : LR m y k := k2
  have k3 : mW m k = mW m y := k3
  have mk : MU m σ k := mu_t muy (mu_l (mg_l yN k1 k2.1) k2.1)
  have eW : mW m k = mW m σ := by omega
  have eE : mE m σ (ti x1) ≤ mE m k (ti x1) := by
    have := k2.1.ev (ti x1) (by omega)
    rw [y2 _ (by omega), z4] at this
    exact this
  exact ok_ite (fun _ => ok_some ⟨mk, eW, eE, fun _ => h40⟩) (fun _ => ok_ite (fun _ => ok_some ⟨mk, eW, eE, fun _ => h40⟩) (fun _ => ok_some ⟨mk, eW, eE, fun _ => h40⟩))
theorem ok_resetM_l (hn : 1000001 ≤ n0) (h1 : 0 ≤ x1.toInt ∧ x1.toInt ≤ 40) (h5 : 0 ≤ x5.toInt) : ∀ (p n : Nat) (σ : sx_T) (x6 : Int32), MG m σ → x5.toInt < mW m σ → 0 ≤ x6.toInt → x6.toInt ≤ 140 → 140 - x6.toInt ≤ p → p < n → Ok (fl_X9_reset_117 n0 n σ m x1 x5 x6) (M2 m σ) := by
  intro p
  have t1 := ti_of h1.1
  induction p with
  | zero =>
    intro n σ x6 h hW g0 g1 g2 g3
    obtain ⟨n, rfl⟩ : ∃ k, n = k + 1 := ⟨n - 1, by omega⟩
    have hs := h.1.st
    have hE := h.1.eb (ti x1) (by omega)
    unfold mE at hE
    unfold fl_X9_reset_117
    exact ok_qb hs.r11 (ok_ck (by rw [hs.n8]; omega) (ok_p (by rw [n_le]; omega) (ok_some (mu_r h))))
  | succ p ih =>
    intro n σ x6 h hW g0 g1 g2 g3
    obtain ⟨n, rfl⟩ : ∃ k, n = k + 1 := ⟨n - 1, by omega⟩
    have hs := h.1.st
    have hE := h.1.eb (ti x1) (by omega)
    unfold mE at hE
    have e1 : (x6 + 1).toInt = x6.toInt + 1 := n_add1 (by omega) (by omega)
    have i1 := n_160 (w := x1) (a := x6) h1.1 h1.2 (by omega) (by omega)
    have b1 : 0 ≤ (160 * x1 + x6).toInt ∧ (160 * x1 + x6).toInt < ((6560 : Nat) : Int) := by omega
    unfold fl_X9_reset_117
    refine ok_qb hs.r11 (ok_ck (by rw [hs.n8]; omega) (ok_ite (fun _ => ok_some (mu_r h)) (fun c => ?_)))
    rw [n_le] at c
    refine ok_qb hs.r14 (ok_ck (by rw [hs.n11]; exact b1) (ok_ite (fun _ => ok_qb hs.r15 (ok_ck (by rw [hs.n12]; exact b1) (ok_bd (ok_tells hn h h5 hW (Or.inl rfl)) (fun r z hz => ?_)))) (fun _ => ih n σ (x6 + 1) h hW (by omega) (by omega) (by omega) (by omega))))
    have z1 : MG m z := hz.1
    have z2 : LW m σ z := hz.2
    have := z2.up.1
    exact ok_m (ih n z (x6 + 1) z1 (by omega) (by omega) (by omega) (by omega) (by omega)) (fun r hr => mu_t (mu_l z1 z2) hr)
theorem ok_reset69 (hn : 1000001 ≤ n0) (h : MG m σ) {y0 y1 y2 : Int32} (hy : y2 ≠ 0 → y1 ≠ 0 → y0 ≠ 0 → (0 ≤ x1.toInt ∧ x1.toInt < mW m σ) ∧ (1 ≤ x2.toInt ∧ x2.toInt ≤ mE m σ (ti x1)) ∧ mW m σ < 40) : Ok (fb_X9_reset_69 n0 σ m x1 x2 y0 y1 y2) (M2 m σ) := by
  unfold fb_X9_reset_69
  refine ok_bd ok_needs3 (fun r8 u9 h8 => ?_)
  obtain ⟨⟨y, e⟩, h9⟩ := h8
  have e : u9 = wx_I σ m 0 y := e
  obtain ⟨a1, a2, a3, a4⟩ := mg_0 (x := y) h (k := 0) (by decide)
  rw [e]
  refine ok_ite (fun _ => ok_some a2) (fun c => ?_)
  have c := h9 c
  obtain ⟨b1, b2, b3⟩ := hy c.1 c.2.1 c.2.2
  generalize wx_I σ m 0 y = z at a1 a2 a3 a4 ⊢
  have hs := a1.1.st
  have hwf := a1.1.wf
  have tw := ti_of b1.1
  have hE2 := (h.1.eb (ti x1) (by omega)).2
  refine ok_qb hs.r7 (ok_ck (by rw [hs.n4]; omega) ?_)
  have hp := (a1.1.pw (ti x1) (by omega)).1
  refine ok_bd (ok_begets a1.1 hp ⟨by rw [l_m1]; decide, by rw [l_m1]; omega, by rw [l_m1]; decide⟩) (fun r u hu => ?_)
  rcases hu with ⟨-, e⟩ | ⟨d1, d2, d3, d4, d5, d6, d7, d8⟩
  · omega
  have d1 : MI m 0 u := d1
  have d2 : LR m z u := d2
  have d4 : mW m u = mW m z + 1 := d4
  have d5 : r.toInt = mW m z := d5
  have d6 : mE m u (ti r) = 1 := d6
  have d7 : ∀ w', w' ≠ ti r → mE m u w' = mE m z w' := d7
  have d8 : sx_I u (m + 11) (160 * ti r) = 0 := d8
  have g1 := mg_l a1 d1 d2.1
  have tr := ti_of (x := r) (by omega)
  refine ok_br (ok_copies hn d1.st ⟨b1.1, by omega⟩ ⟨by omega, by omega⟩ (by omega) (by omega)) (fun k hk => ?_)
  obtain ⟨k1, k2, k3, k4⟩ := mi_cy d1 (by omega) (by omega) (by omega) ⟨b2.1, by rw [d7 _ (by omega), a4]; exact b2.2⟩ (Or.inr ⟨by omega, d6, d8⟩) hk
  have gk : MG m k := ⟨k1, fun w hw => by
    rw [k4] at hw
    by_cases e : w = ti r
    · rw [e, k3]; exact b2.1
    · rw [k2 w e]
      exact g1.2 w hw⟩
  have muk : MU m σ k := mu_t a2 (mu_t (mu_l g1 d2.1) ⟨gk, hk.1, hk.2.1 1⟩)
  have hsk := k1.st
  refine ok_qb hsk.r12 (ok_ck (by rw [hsk.n9]; omega) ?_)
  obtain ⟨q1, q2, q3⟩ := mu_j (j := 9) (k := ti r) (x := x2) gk (by omega)
  generalize wx_I k (m + 9) (ti r) x2 = k' at q1 q2 q3 ⊢
  have eWk : mW m k' = mW m k := by unfold mW; rw [q2]
  refine ok_br (ok_runs hn q1.1 (by omega) (by omega)) (fun t ht => ?_)
  have := ht.2.up.1
  exact ok_m (ok_resetM_l hn ⟨b1.1, by omega⟩ (by omega) 140 n0 t x2 ht.1 (by omega) (by omega) (by omega) (by omega) (by omega)) (fun r hr => mu_t muk (mu_t q1 (mu_t (mu_l ht.1 ht.2) hr)))
theorem ok_resetM (hn : 1000001 ≤ n0) (h : MG m σ) : Ok (f_X9_reset n0 σ m x1 x2) (M2 m σ) := by
  have hs := h.1.st
  have hwf := h.1.wf
  have no : ∀ y1 y2 : Int32, Ok (fb_X9_reset_68 n0 σ m x1 x2 y1 y2) (M2 m σ) := fun y1 y2 => ok_reset69 hn h (fun _ _ e => absurd rfl e)
  unfold f_X9_reset
  refine ok_br ok_isWorkflow (fun r2 h2 => ok_ite (fun _ => no _ _) (fun c => ?_))
  have h2 := h2 c hwf.1
  have tw := ti_of h2.1
  have b41 : 0 ≤ x1.toInt ∧ x1.toInt < ((41 : Nat) : Int) := by omega
  have hE := h.1.eb (ti x1) (by omega)
  have hE' := hE
  unfold mE at hE'
  have g : ∀ y0 : Int32, 0 ≤ y0.toInt → y0.toInt ≤ 1 → Ok (fb_X9_reset_32 n0 σ m x1 x2 r2 y0 (sx_I σ (m + 8) (ti x1)) 1 x2) (M2 m σ) := by
    intro y0 q0 q1
    have e1 : (sx_I σ (m + 8) (ti x1) - y0).toInt = (sx_I σ (m + 8) (ti x1)).toInt - y0.toInt := n_sub (by omega) (by omega)
    unfold fb_X9_reset_32
    refine ok_br ok_in (fun r3 h3 => ok_ite (fun _ => no _ _) (fun c3 => ?_))
    have h3 := h3 c3
    rw [e1, l_1] at h3
    have hx2 : 1 ≤ x2.toInt ∧ x2.toInt ≤ mE m σ (ti x1) := ⟨h3.1, by unfold mE; omega⟩
    unfold fb_X9_reset_55
    refine ok_bd (ok_canReset hn h h2.1 h2.2 hx2) (fun r z hz => ?_)
    obtain ⟨z1, z2, z3, z4⟩ := hz
    have z1 : MU m σ z := z1
    have z2 : mW m z = mW m σ := z2
    have z3 : mE m σ (ti x1) ≤ mE m z (ti x1) := z3
    refine ok_ite (fun _ => ok_m (ok_reset69 hn z1.1 (fun _ _ e => absurd rfl e)) (fun r hr => mu_t z1 hr)) (fun cr => ok_m (ok_reset69 hn z1.1 (fun _ _ _ => ?_)) (fun r hr => mu_t z1 hr))
    have z4 := z4 cr
    exact ⟨⟨h2.1, by omega⟩, ⟨hx2.1, by omega⟩, by omega⟩
  exact ok_qb hs.r11 (ok_ck (by rw [hs.n8]; exact b41) (ok_qb hs.r10 (ok_ck (by rw [hs.n7]; exact b41) (ok_ite (fun _ => g 0 (by decide) (by decide)) (fun _ => g 1 (by decide) (by decide))))))
theorem ok_crashM_l : ∀ (p n : Nat) (x1 x2 : Int32), MG m σ → 0 ≤ x2.toInt → x2.toInt ≤ 41 → 41 - x2.toInt ≤ p → p < n → Ok (fl_X9_crash_9 n0 n σ m x1 x2) (fun r => r.2 = σ) := by
  intro p
  induction p with
  | zero =>
    intro n x1 x2 h g0 g1 g2 g3
    obtain ⟨n, rfl⟩ : ∃ k, n = k + 1 := ⟨n - 1, by omega⟩
    have hwf := h.1.wf
    unfold fl_X9_crash_9
    exact ok_p (by rw [n_le]; unfold mW at hwf; omega) (ok_some rfl)
  | succ p ih =>
    intro n x1 x2 h g0 g1 g2 g3
    obtain ⟨n, rfl⟩ : ∃ k, n = k + 1 := ⟨n - 1, by omega⟩
    have hs := h.1.st
    have hwf := h.1.wf
    unfold fl_X9_crash_9
    refine ok_ite (fun _ => ok_some rfl) (fun c => ?_)
    rw [n_le] at c
    have cW : x2.toInt < mW m σ := by unfold mW; omega
    have e1 : (x2 + 1).toInt = x2.toInt + 1 := n_add1 (by omega) (by omega)
    exact ok_qb hs.r10 (ok_ck (by rw [hs.n7]; omega) (ok_ite (fun _ => ih n _ _ h (by omega) (by omega) (by omega) (by omega)) (fun _ => ih n _ _ h (by omega) (by omega) (by omega) (by omega))))
theorem ok_crashM (hn : 1000001 ≤ n0) (h : MG m σ) : Ok (f_X9_crash n0 σ m) (M2 m σ) := by
  have a := mu_f (k := 0) (x := 0) h (by decide)
  unfold f_X9_crash
  refine ok_m (ok_crashM_l 41 n0 0 0 a.1 (by decide) (by decide) (by decide) (by omega)) (fun r hr => ?_)
  unfold M2
  rw [hr]
  exact a
end M21
