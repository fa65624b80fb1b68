section M19
variable {m w i : Nat} {σ v u β : sx_T} {s D : Int} {n0 : Nat} {x1 x2 x3 x4 x5 : Int32}
def AS (m : Nat) (σ : sx_T) (r : Int32 × sx_T) : Prop := (r.1 = -1 ∧ r.2 = σ) ∨ (0 ≤ r.1.toInt ∧ r.1.toInt < mW m σ ∧ MI m 0 r.2 ∧ LR m σ r.2 ∧ mW m r.2 = mW m σ ∧ sx_I r.2 m 45 = sx_I σ m 45 ∧ ∀ k, sx_I r.2 (m + 9) k = sx_I σ (m + 9) k)
theorem ok_asks_l (h : MI m 0 σ) : ∀ (p n : Nat) (x2 : Int32), 0 ≤ x2.toInt → x2.toInt ≤ 41 → 41 - x2.toInt ≤ p → p < n → Ok (fl_X9_asks_2 n0 n σ m x1 x2) (AS m σ) := by
  have hs := h.st
  have hwf := h.wf
  intro p
  induction p with
  | zero =>
    intro n x2 g0 g1 g2 g3
    obtain ⟨n, rfl⟩ : ∃ k, n = k + 1 := ⟨n - 1, by omega⟩
    unfold fl_X9_asks_2
    exact ok_p (by rw [n_le]; unfold mW at hwf; omega) (ok_some (Or.inl ⟨rfl, rfl⟩))
  | succ p ih =>
    intro n x2 g0 g1 g2 g3
    obtain ⟨n, rfl⟩ : ∃ k, n = k + 1 := ⟨n - 1, by omega⟩
    unfold fl_X9_asks_2
    refine ok_ite (fun _ => ok_some (Or.inl ⟨rfl, rfl⟩)) (fun c => ?_)
    rw [n_le] at c
    have cW : x2.toInt < mW m σ := by unfold mW; omega
    have e1 : (x2 + 1).toInt = x2.toInt + 1 := n_add1 (by omega) (by omega)
    have t2 := ti_of g0
    have b41 : 0 ≤ x2.toInt ∧ x2.toInt < ((41 : Nat) : Int) := by omega
    have go := ih n (x2 + 1) (by omega) (by omega) (by omega) (by omega)
    refine ok_qb hs.r9 (ok_ck (by rw [hs.n6]; exact b41) (ok_ite (fun _ => ok_qb hs.r10 (ok_ck (by rw [hs.n7]; exact b41) (ok_ite (fun _ => ok_qb hs.r11 (ok_ck (by rw [hs.n8]; exact b41) (ok_ite (fun _ => go) (fun c90 => ?_)))) (fun _ => go)))) (fun _ => go)))
    rw [n_le, l_90] at c90
    have hE := h.eb (ti x2) (by omega)
    have c90 : mE m σ (ti x2) < 90 := by unfold mE; omega
    refine ok_bre (ok_addsM hs g0 (by omega) hE.1 (by omega)) (ok_some (Or.inr ⟨g0, cW, ?_⟩))
    have a1 := mi_adds (x4 := 12) (x5 := 0) (d := 0) h (w := ti x2) (by omega) (by omega) (fun _ => c90) (fun e => absurd e (by decide)) (fun e => absurd e (by decide)) (Or.inl rfl)
    rw [Int.add_zero] at a1
    exact ⟨a1, lr_ax h.eb (by omega), by show mW m (AX m (ti x2) 12 0 σ) = _; unfold mW; rw [ax_m], ax_m, fun k => ax_j (by decide) (by decide)⟩
theorem ok_asks (hn : 1000001 ≤ n0) (h : MI m 0 σ) : Ok (f_X9_asks n0 σ m x1) (AS m σ) := ok_asks_l h 41 n0 0 (by decide) (by decide) (by decide) (by omega)
theorem ok_runs_l (hn : 1000001 ≤ n0) (hD : 0 ≤ D) : ∀ (p n : Nat) (σ : sx_T) (x2 x3 : Int32), QI n0 m D σ → 0 ≤ x2.toInt → x2.toInt ≤ 40 → 0 ≤ x3.toInt → x3.toInt ≤ 40 → (40 - x2.toInt) + (40 - x3.toInt) ≤ p → p < n → Ok (fl_X9_runs_19 n0 n σ m x2 x3) (GO n0 m D σ) := by
  intro p
  induction p with
  | zero =>
    intro n σ x2 x3 h g0 g1 g2 g3 g4 g5
    obtain ⟨n, rfl⟩ : ∃ k, n = k + 1 := ⟨n - 1, by omega⟩
    have hb := qi_b h hD
    unfold fl_X9_runs_19
    exact ok_n (by rw [n_lt]; omega) (ok_p (by rw [n_le]; omega) (ok_some ⟨h, lw_r⟩))
  | succ p ih =>
    intro n σ x2 x3 h g0 g1 g2 g3 g4 g5
    obtain ⟨n, rfl⟩ : ∃ k, n = k + 1 := ⟨n - 1, by omega⟩
    have hb := qi_b h hD
    have hm := h.1
    have hs := hm.st
    have e2 : (x2 + 1).toInt = x2.toInt + 1 := n_add1 (by omega) (by omega)
    have e3 : (x3 + 1).toInt = x3.toInt + 1 := n_add1 (by omega) (by omega)
    have t2 := ti_of g0
    have go75 : ∀ (z : sx_T) (y2 y3 r : Int32), QI n0 m D z → LW m σ z → (r ≠ -1 → 0 ≤ r.toInt ∧ r.toInt < mW m z) → 0 ≤ y2.toInt → y2.toInt ≤ 40 → 0 ≤ y3.toInt → y3.toInt ≤ 40 → (40 - y2.toInt) + (40 - y3.toInt) ≤ p → Ok (fb_X9_runs_75 n0 (fl_X9_runs_19 n0 n) z m y2 y3 r) (GO n0 m D σ) := by
      intro z y2 y3 r q1 q2 q3 q4 q5 q6 q7 q8
      unfold fb_X9_runs_75
      refine ok_ite (fun _ => ok_m (ih n z y2 y3 q1 q4 q5 q6 q7 q8 (by omega)) (fun r hr => ⟨hr.1, lw_t q2 hr.2⟩)) (fun c => ?_)
      have q3 := q3 c
      exact ok_br (ok_goesOn hn hD q1 q3.1 q3.2) (fun z' hz' => ok_m (ih n z' y2 y3 hz'.1 q4 q5 q6 q7 q8 (by omega)) (fun r hr => ⟨hr.1, lw_t q2 (lw_t hz'.2 hr.2)⟩))
    have A : x2.toInt < (sx_I σ m 43).toInt → Ok (fb_X9_runs_35 n0 (fl_X9_runs_19 n0 n) σ m x2 x3) (GO n0 m D σ) := by
      intro c
      have hv := h.2.2.2.2 (ti x2) (by omega)
      unfold fb_X9_runs_35
      exact ok_n (by rw [n_le]; omega) (ok_qb hs.r44 (ok_ck (by rw [hs.n24]; omega) (go75 σ (x2 + 1) x3 _ h lw_r (fun _ => hv) (by omega) (by omega) g2 g3 (by omega))))
    have B : ¬ x2.toInt < (sx_I σ m 43).toInt → x3.toInt < (sx_I σ m 45).toInt → Ok (fb_X9_runs_35 n0 (fl_X9_runs_19 n0 n) σ m x2 x3) (GO n0 m D σ) := by
      intro c c2
      unfold fb_X9_runs_35
      refine ok_p (by rw [n_le]; omega) (ok_qb hs.r46 (ok_ck (by rw [hs.n25]; omega) (ok_bd (ok_asks hn hm) (fun r z hz => ?_))))
      rcases hz with ⟨a, b⟩ | ⟨a, b, d, e, f, g, k⟩
      · have b : z = σ := b
        have a : r = -1 := a
        rw [b]
        exact go75 σ x2 (x3 + 1) r h lw_r (fun q => absurd a q) g0 g1 (by omega) (by omega) (by omega)
      · have a : 0 ≤ r.toInt := a
        have b : r.toInt < mW m σ := b
        have e : LR m σ z := e
        have f : mW m z = mW m σ := f
        exact go75 z x2 (x3 + 1) r (qi_lr h d e g k) e.1 (fun _ => ⟨a, by omega⟩) g0 g1 (by omega) (by omega) (by omega)
    unfold fl_X9_runs_19
    refine ok_ite (fun c => A (n_lt.mp c)) (fun c => ok_ite (fun _ => ok_some ⟨h, lw_r⟩) (fun c2 => B (fun q => c (n_lt.mpr q)) ?_))
    rw [n_le] at c2
    omega
def MG (m : Nat) (σ : sx_T) : Prop := MI m 0 σ ∧ NE m σ
theorem nd_0 : 0 ≤ nd m σ := by
  have := sumC_le (f := fun _ => 0) (g := dI m σ) 40 (fun i _ => by unfold dI; split <;> decide)
  have e : ∀ n, sumC (fun _ => 0) n = 0 := by
    intro n
    induction n with
    | zero => rfl
    | succ n ih => show sumC (fun _ => 0) n + 0 = 0; rw [ih]; rfl
  rw [e] at this
  exact this
theorem nR_0 : 0 ≤ nR n0 m σ := by
  have := sumC_le (f := fun _ => 0) (g := rI n0 m σ) 40 (fun i _ => by unfold rI; split <;> decide)
  have e : ∀ n, sumC (fun _ => 0) n = 0 := by
    intro n
    induction n with
    | zero => rfl
    | succ n ih => show sumC (fun _ => 0) n + 0 = 0; rw [ih]; rfl
  rw [e] at this
  exact this
theorem ok_runs (hn : 1000001 ≤ n0) (h : MG m σ) (h0 : 0 ≤ x1.toInt) (h1 : x1.toInt < mW m σ) : Ok (f_X9_runs n0 σ m x1) (fun u => MG m u ∧ LW m σ u) := by
  have l1 : LW m σ (wx_I (wx_I σ m 43 0) m 45 0) := lw_t (lw_f (by decide)) (lw_f (by decide))
  have m1 : MI m 0 (wx_I (wx_I σ m 43 0) m 45 0) := mi_f (mi_f h.1 (by decide)) (by decide)
  have f45 : sx_I (wx_I (wx_I σ m 43 0) m 45 0) m 45 = 0 := ke
  have f43 : sx_I (wx_I (wx_I σ m 43 0) m 45 0) m 43 = 0 := by rw [kn (by decide), ke]
  have eW : mW m (wx_I (wx_I σ m 43 0) m 45 0) = mW m σ := by unfold mW; rw [kn (by decide), kn (by decide)]
  unfold f_X9_runs
  generalize wx_I (wx_I σ m 43 0) m 45 0 = z at l1 m1 f45 f43 eW ⊢
  have hq : QI n0 m (nd m z) z := by
    have := nR_0 (n0 := n0) (m := m) (σ := z)
    refine ⟨m1, ne_l h.2 l1 m1, ?_, ?_, fun k hk => ?_⟩
    · rw [f45, l_0]; exact ⟨Int.le_refl _, this⟩
    · rw [f43, l_0]; exact ⟨Int.le_refl _, by omega⟩
    · rw [f43, l_0] at hk; omega
  refine ok_br (ok_goesOn hn nd_0 hq h0 (by rw [eW]; exact h1)) (fun y hy => ?_)
  exact ok_m (ok_runs_l hn nd_0 80 n0 y 0 0 hy.1 (by decide) (by decide) (by decide) (by decide) (by decide) (by omega)) (fun r hr => ⟨⟨hr.1.1, hr.1.2.1⟩, lw_t l1 (lw_t hy.2 hr.2)⟩)
/-! the calls -/
def MU (m : Nat) (σ u : sx_T) : Prop := MG m u ∧ FA (MC m) σ u ∧ sx_I u m 1 = sx_I σ m 1
theorem mu_l (h : MG m u) (hl : LW m σ u) : MU m σ u := ⟨h, hl.fa, hl.nw⟩
theorem mu_t (h1 : MU m σ v) (h2 : MU m v u) : MU m σ u := ⟨h2.1, fa_t h1.2.1 h2.2.1, h2.2.2.trans h1.2.2⟩
theorem mu_r (h : MG m σ) : MU m σ σ := ⟨h, fa_r, rfl⟩
theorem mg_l (h : MG m σ) (hu : MI m 0 u) (hl : LW m σ u) : MG m u := ⟨hu, ne_l h.2 hl hu⟩
theorem mg_0 {k : Nat} {x : Int32} (h : MG m σ) (hk : k ≠ 1 ∧ k ≠ 6 ∧ k ≠ 16) : MG m (wx_I σ m k x) ∧ MU m σ (wx_I σ m k x) ∧ mW m (wx_I σ m k x) = mW m σ ∧ ∀ w, mE m (wx_I σ m k x) w = mE m σ w := by
  have eW : mW m (wx_I σ m k x) = mW m σ := by unfold mW; rw [kn (by omega)]
  have eE : ∀ w, mE m (wx_I σ m k x) w = mE m σ w := fun w => by unfold mE; rw [gI_I, if_neg (by omega)]
  have g : MG m (wx_I σ m k x) := ⟨mi_f h.1 (by omega), fun w hw => by rw [eE]; exact h.2 w (by rw [eW] at hw; exact hw)⟩
  exact ⟨g, ⟨g, fa_I mc_0, kn (by omega)⟩, eW, eE⟩
theorem ok_in {a b : Int32} : Ok (f_X9_in σ x1 a b) (fun r => r ≠ 0 → a.toInt ≤ x1.toInt ∧ x1.toInt ≤ b.toInt) := by
  unfold f_X9_in
  refine ok_ite (fun _ => ok_some (fun e => absurd rfl e)) (fun c1 => ok_ite (fun _ => ok_some (fun e => absurd rfl e)) (fun c2 => ok_some (fun _ => ?_)))
  rw [n_lt] at c1 c2
  omega
theorem ok_needs1 : Ok (f_X9_needs σ m x1) (fun r => (∃ y, r.2 = wx_I σ m 0 y) ∧ (r.1 ≠ 0 → x1 ≠ 0)) := by
  unfold f_X9_needs fb_X9_needs_10
  exact ok_ite (fun c => ok_some ⟨⟨_, rfl⟩, fun e => e⟩) (fun c => ok_some ⟨⟨_, rfl⟩, fun e => e⟩)
theorem ok_needs2 : Ok (f_X9_needs_ σ m x1 x2) (fun r => (∃ y, r.2 = wx_I σ m 0 y) ∧ (r.1 ≠ 0 → x1 ≠ 0 ∧ x2 ≠ 0)) := by
  have g : ∀ y : Int32, (y = 0 → x1 ≠ 0 ∧ x2 ≠ 0) → Ok (fb_X9_needs__18 σ m y) (fun r => (∃ y, r.2 = wx_I σ m 0 y) ∧ (r.1 ≠ 0 → x1 ≠ 0 ∧ x2 ≠ 0)) := fun y hy => by
    unfold fb_X9_needs__18
    exact ok_ite (fun c => ok_some ⟨⟨_, rfl⟩, fun _ => hy c⟩) (fun c => ok_some ⟨⟨_, rfl⟩, fun e => absurd rfl e⟩)
  unfold f_X9_needs_
  exact ok_ite (fun c => g 1 (fun e => absurd e (by decide))) (fun c1 => ok_ite (fun c => g 2 (fun e => absurd e (by decide))) (fun c2 => g 0 (fun _ => ⟨c1, c2⟩)))
theorem ok_needs3 : Ok (f_X9_needs__ σ m x1 x2 x3) (fun r => (∃ y, r.2 = wx_I σ m 0 y) ∧ (r.1 ≠ 0 → x1 ≠ 0 ∧ x2 ≠ 0 ∧ x3 ≠ 0)) := by
  have g : ∀ y : Int32, (y = 0 → x1 ≠ 0 ∧ x2 ≠ 0 ∧ x3 ≠ 0) → Ok (fb_X9_needs___26 σ m y) (fun r => (∃ y, r.2 = wx_I σ m 0 y) ∧ (r.1 ≠ 0 → x1 ≠ 0 ∧ x2 ≠ 0 ∧ x3 ≠ 0)) := fun y hy => by
    unfold fb_X9_needs___26
    exact ok_ite (fun c => ok_some ⟨⟨_, rfl⟩, fun _ => hy c⟩) (fun c => ok_some ⟨⟨_, rfl⟩, fun e => absurd rfl e⟩)
  unfold f_X9_needs__
  exact ok_ite (fun c => g 1 (fun e => absurd e (by decide))) (fun c1 => ok_ite (fun c => g 2 (fun e => absurd e (by decide))) (fun c2 => ok_ite (fun c => g 3 (fun e => absurd e (by decide))) (fun c3 => g 0 (fun _ => ⟨c1, c2, c3⟩))))
/-- one that does not go with the code is told of, the store goes on -/
theorem fi_mg {r : Int32 × sx_T} (h : MG m σ) (hr : FI m x1 σ r) : MG m r.2 := mg_l h hr.1 hr.2.1.1
theorem ok_unfit_l (hn : 1000001 ≤ n0) : ∀ (p n : Nat) (σ : sx_T) (x2 x3 : Int32), MG m σ → 0 ≤ x3.toInt → x3.toInt ≤ 41 → 41 - x3.toInt ≤ p → p < n → Ok (fl_X9_unfit_4 n0 n σ m x1 x2 x3) (fun r => MG m r.2 ∧ LW m σ r.2) := by
  intro p
  induction p with
  | zero =>
    intro n σ x2 x3 h g0 g1 g2 g3
    obtain ⟨n, rfl⟩ : ∃ k, n = k + 1 := ⟨n - 1, by omega⟩
    have hwf := h.1.wf
    unfold fl_X9_unfit_4
    exact ok_p (by rw [n_le]; unfold mW at hwf; omega) (ok_some ⟨h, lw_r⟩)
  | succ p ih =>
    intro n σ x2 x3 h g0 g1 g2 g3
    obtain ⟨n, rfl⟩ : ∃ k, n = k + 1 := ⟨n - 1, by omega⟩
    have hm := h.1
    have hs := hm.st
    have hwf := hm.wf
    unfold fl_X9_unfit_4
    refine ok_ite (fun _ => ok_some ⟨h, lw_r⟩) (fun c => ?_)
    rw [n_le] at c
    have cW : x3.toInt < mW m σ := by unfold mW; omega
    have e1 : (x3 + 1).toInt = x3.toInt + 1 := n_add1 (by omega) (by omega)
    have t2 := ti_of g0
    have b41 : 0 ≤ x3.toInt ∧ x3.toInt < ((41 : Nat) : Int) := by omega
    have go : ∀ (z : sx_T) (y : Int32), MG m z → LW m σ z → Ok (fl_X9_unfit_4 n0 n z m x1 y (x3 + 1)) (fun r => MG m r.2 ∧ LW m σ r.2) := fun z y a b => ok_m (ih n z y (x3 + 1) a (by omega) (by omega) (by omega) (by omega)) (fun r hr => ⟨hr.1, lw_t b hr.2⟩)
    refine ok_qb hs.r7 (ok_ck (by rw [hs.n4]; exact b41) (ok_ite (fun _ => ok_qb hs.r10 (ok_ck (by rw [hs.n7]; exact b41) (ok_ite (fun _ => ?_) (fun _ => go σ _ h lw_r)))) (fun _ => go σ _ h lw_r)))
    refine ok_bd (ok_isFit hn hm g0 (by omega) (h.2 _ (by omega))) (fun r z hz => ?_)
    have a := fi_mg h hz
    have b := hz.2.1.1
    exact ok_ite (fun _ => go z _ a b) (fun _ => go z _ a b)
theorem ok_unfit (hn : 1000001 ≤ n0) (h : MG m σ) : Ok (f_X9_unfit n0 σ m x1) (fun r => MG m r.2 ∧ LW m σ r.2) := ok_unfit_l hn 41 n0 σ 0 0 h (by decide) (by decide) (by decide) (by omega)
theorem ok_setM_l (hn : 1000001 ≤ n0) : ∀ (p n : Nat) (σ : sx_T) (x6 : Int32), MG m σ → 0 ≤ x6.toInt → x6.toInt ≤ 41 → 41 - x6.toInt ≤ p → p < n → Ok (fl_X9_set_36 n0 n σ m x1 x6) (fun r => MG m r.2 ∧ LW m σ r.2) := by
  intro p
  induction p with
  | zero =>
    intro n σ x3 h g0 g1 g2 g3
    obtain ⟨n, rfl⟩ : ∃ k, n = k + 1 := ⟨n - 1, by omega⟩
    have hwf := h.1.wf
    unfold fl_X9_set_36
    exact ok_p (by rw [n_le]; unfold mW at hwf; omega) (ok_bd (ok_unfit hn h) (fun r z hz => ok_some hz))
  | succ p ih =>
    intro n σ x3 h g0 g1 g2 g3
    obtain ⟨n, rfl⟩ : ∃ k, n = k + 1 := ⟨n - 1, by omega⟩
    have hm := h.1
    have hs := hm.st
    have hwf := hm.wf
    unfold fl_X9_set_36
    refine ok_ite (fun _ => ok_bd (ok_unfit hn h) (fun r z hz => ok_some hz)) (fun c => ?_)
    rw [n_le] at c
    have cW : x3.toInt < mW m σ := by unfold mW; omega
    have e1 : (x3 + 1).toInt = x3.toInt + 1 := n_add1 (by omega) (by omega)
    have t2 := ti_of g0
    have b41 : 0 ≤ x3.toInt ∧ x3.toInt < ((41 : Nat) : Int) := by omega
    have go : ∀ (z : sx_T), MG m z → LW m σ z → Ok (fl_X9_set_36 n0 n z m x1 (x3 + 1)) (fun r => MG m r.2 ∧ LW m σ r.2) := fun z a b => ok_m (ih n z (x3 + 1) a (by omega) (by omega) (by omega) (by omega)) (fun r hr => ⟨hr.1, lw_t b hr.2⟩)
    refine ok_qb hs.r7 (ok_ck (by rw [hs.n4]; exact b41) (ok_ite (fun _ => ok_qb hs.r10 (ok_ck (by rw [hs.n7]; exact b41) (ok_ite (fun _ => ?_) (fun _ => go σ h lw_r)))) (fun _ => go σ h lw_r)))
    refine ok_bd (ok_isFit hn hm g0 (by omega) (h.2 _ (by omega))) (fun r z hz => ?_)
    have a : MG m z := fi_mg h hz
    have b : LW m σ z := hz.2.1.1
    have eW : mW m z = mW m σ := hz.2.2.1
    refine ok_ite (fun _ => go z a b) (fun _ => ok_br (ok_runs hn a g0 (by omega)) (fun y hy => go y hy.1 (lw_t b hy.2)))
/-- code is laid -/
theorem ok_lays (h : MG m σ) (h1 : 0 ≤ x1.toInt ∧ x1.toInt ≤ 5) (h2 : 0 ≤ x2.toInt ∧ x2.toInt ≤ 19) (h3 : 0 ≤ x3.toInt ∧ x3.toInt ≤ 17) (h4 : 0 ≤ x4.toInt ∧ x4.toInt ≤ 99) : Ok (f_X9_lays σ m x1 x2 x3 x4 x5) (fun u => MU m σ u ∧ mW m u = mW m σ) := by
  have hm := h.1
  have hs := hm.st
  have i1 := n_20 (w := x1) (a := x2) h1.1 (by omega) (by omega) (by omega)
  have b : 0 ≤ (20 * x1 + x2).toInt ∧ (20 * x1 + x2).toInt < ((120 : Nat) : Int) := by omega
  unfold f_X9_lays
  refine ok_qb hs.r3 (ok_ck (by rw [hs.n1]; exact b) (ok_qb hs.r4 (ok_ck (by rw [hs.n2]; exact b) (ok_qb hs.r5 (ok_ck (by rw [hs.n3]; exact b) (ok_some ?_))))))
  generalize ti (20 * x1 + x2) = k
  have hf : FA (MC m) σ (wx_I (wx_I (wx_I σ (m + 1) k x3) (m + 2) k x4) (m + 3) k x5) := fa_t (fa_I (mc_j (by omega))) (fa_t (fa_I (mc_j (by omega))) (fa_I (mc_j (by omega))))
  have fm : ∀ q, sx_I (wx_I (wx_I (wx_I σ (m + 1) k x3) (m + 2) k x4) (m + 3) k x5) m q = sx_I σ m q := fun q => by rw [gI_I, if_neg (by omega), gI_I, if_neg (by omega), gI_I, if_neg (by omega)]
  have fj : ∀ j q, 4 ≤ j → sx_I (wx_I (wx_I (wx_I σ (m + 1) k x3) (m + 2) k x4) (m + 3) k x5) (m + j) q = sx_I σ (m + j) q := fun j q a => by rw [gI_I, if_neg (by omega), gI_I, if_neg (by omega), gI_I, if_neg (by omega)]
  have f1 : ∀ q, sx_I (wx_I (wx_I (wx_I σ (m + 1) k x3) (m + 2) k x4) (m + 3) k x5) (m + 1) q = if q = k then x3 else sx_I σ (m + 1) q := fun q => by
    rw [gI_I, if_neg (by omega), gI_I, if_neg (by omega), gI_I]
    by_cases e : q = k
    · rw [if_pos ⟨rfl, e⟩, if_pos e]
    · rw [if_neg (fun z => e z.2), if_neg e]
  have f2 : ∀ q, sx_I (wx_I (wx_I (wx_I σ (m + 1) k x3) (m + 2) k x4) (m + 3) k x5) (m + 2) q = if q = k then x4 else sx_I σ (m + 2) q := fun q => by
    rw [gI_I, if_neg (by omega), gI_I]
    by_cases e : q = k
    · rw [if_pos ⟨rfl, e⟩, if_pos e]
    · rw [if_neg (fun z => e z.2), if_neg e, gI_I, if_neg (by omega)]
  generalize wx_I (wx_I (wx_I σ (m + 1) k x3) (m + 2) k x4) (m + 3) k x5 = z at hf fm fj f1 f2 ⊢
  have hW : mW m z = mW m σ := by unfold mW; rw [fm]
  have hT : mT m z = mT m σ := by unfold mT; rw [fm]
  have hE : ∀ w, mE m z w = mE m σ w := fun w => by unfold mE; rw [fj 8 w (by decide)]
  have hc : ∀ x w n, cn m z x w n = cn m σ x w n := fun x w n => cn_e n (fun k _ => fj 11 _ (by decide))
  have hwt : wt m z = wt m σ := by funext w; unfold wt; rw [hE, hc, hc, fj 10 w (by decide)]
  refine ⟨⟨⟨⟨st_f hf hs, by rw [hW]; exact hm.wf, fun w hw => ?_, ?_, ?_, ?_, ?_, fun q hq => ?_⟩, ?_⟩, hf, fm 1⟩, hW⟩
  · have := hm.pw w hw
    unfold PW at this ⊢
    rw [hE, hc, hc, fj 4 w (by decide), fj 5 w (by decide)]
    refine ⟨this.1, this.2.1, this.2.2.1, fun q => ?_, this.2.2.2.2⟩
    rw [fj 11 _ (by decide)]
    exact this.2.2.2.1 q
  · intro w hw
    rw [hW] at hw ⊢
    rw [fj 5 w (by decide)]
    exact hm.pa w hw
  · intro w h1 h2
    rw [hW] at h2
    rw [hE]
    exact hm.e0 w h1 h2
  · rw [hT, hW, hwt]; exact hm.tk
  · intro t ht
    rw [hT] at ht
    rw [hW, fj 13 t (by decide)]
    exact hm.ow t ht
  · have a := hm.fi q hq
    rw [f1, f2]
    by_cases e : q = k
    · rw [if_pos e, if_pos e]; exact ⟨h4, h3.1, h3.2⟩
    · rw [if_neg e, if_neg e]; exact a
  · intro w hw
    rw [hW] at hw
    rw [hE]
    exact h.2 w hw
end M19
