section M20
variable {m w i : Nat} {σ v u β : sx_T} {s D : Int} {n0 : Nat} {x1 x2 x3 x4 x5 : Int32}
theorem ok_isStepM : Ok (f_X9_isStep σ x1 x2) (fun r => r ≠ 0 → (0 ≤ x1.toInt ∧ x1.toInt ≤ 5) ∧ 0 ≤ x2.toInt ∧ x2.toInt ≤ 19) := by
  unfold f_X9_isStep
  refine ok_br ok_in (fun r hr => ok_ite (fun _ => ok_some (fun e => absurd rfl e)) (fun c => ok_br ok_in (fun r2 hr2 => ok_ite (fun _ => ok_some (fun e => absurd rfl e)) (fun c2 => ok_some (fun _ => ⟨hr c, hr2 c2⟩)))))
theorem ok_isOperationM : Ok (f_X9_isOperation σ x1 x2 x3) (fun r => r ≠ 0 → (0 ≤ x1.toInt ∧ x1.toInt ≤ 17) ∧ 0 ≤ x2.toInt ∧ x2.toInt ≤ 99) := by
  unfold f_X9_isOperation
  refine ok_br ok_in (fun r hr => ok_ite (fun _ => ok_some (fun e => absurd rfl e)) (fun c => ok_br ok_in (fun r2 hr2 => ok_ite (fun _ => ok_some (fun e => absurd rfl e)) (fun c2 => ok_br ok_in (fun r3 hr3 => ok_ite (fun _ => ok_some (fun e => absurd rfl e)) (fun c3 => ok_some (fun _ => ⟨hr c, hr2 c2⟩)))))))
def M2 (m : Nat) (σ : sx_T) (r : Int32 × sx_T) : Prop := MU m σ r.2
theorem ok_setM (hn : 1000001 ≤ n0) (h : MG m σ) : Ok (f_X9_set n0 σ m x1 x2 x3 x4 x5) (M2 m σ) := by
  unfold f_X9_set
  refine ok_br ok_isStepM (fun r2 h2 => ok_br ok_isOperationM (fun r5 h5 => ok_bd ok_needs2 (fun r8 u9 h8 => ?_)))
  obtain ⟨⟨y, e⟩, h9⟩ := h8
  have e : u9 = wx_I σ m 0 y := e
  obtain ⟨a1, a2, a3, -⟩ := mg_0 (x := y) h (k := 0) (by decide)
  rw [e]
  refine ok_ite (fun _ => ok_some a2) (fun c => ?_)
  have c := h9 c
  have h2 := h2 c.1
  have h5 := h5 c.2
  refine ok_br (ok_lays a1 h2.1 h2.2 h5.1 h5.2) (fun z hz => ?_)
  exact ok_m (ok_setM_l hn 41 n0 z 0 hz.1.1 (by decide) (by decide) (by decide) (by omega)) (fun r hr => mu_t a2 (mu_t hz.1 (mu_l hr.1 hr.2)))
theorem ok_checkM (hn : 1000001 ≤ n0) (h : MG m σ) : Ok (f_X9_check n0 σ m x1 x2 x3 x4 x5) (M2 m σ) := by
  unfold f_X9_check
  refine ok_br ok_isStepM (fun r2 h2 => ok_br ok_isOperationM (fun r5 h5 => ok_bd ok_needs2 (fun r8 u9 h8 => ?_)))
  obtain ⟨⟨y, e⟩, h9⟩ := h8
  have e : u9 = wx_I σ m 0 y := e
  obtain ⟨a1, a2, a3, -⟩ := mg_0 (x := y) h (k := 0) (by decide)
  rw [e]
  refine ok_ite (fun _ => ok_some a2) (fun c => ?_)
  have c := h9 c
  have h2 := h2 c.1
  have h5 := h5 c.2
  generalize wx_I σ m 0 y = z at a1 a2 a3 ⊢
  have hs := a1.1.st
  have i1 := n_20 (w := x1) (a := x2) h2.1.1 (by omega) (by omega) (by omega)
  have b : 0 ≤ (20 * x1 + x2).toInt ∧ (20 * x1 + x2).toInt < ((120 : Nat) : Int) := by omega
  have tb := ti_of b.1
  have hf := a1.1.fi (ti (20 * x1 + x2)) (by omega)
  refine ok_qb hs.r3 (ok_ck (by rw [hs.n1]; exact b) (ok_qb hs.r4 (ok_ck (by rw [hs.n2]; exact b) (ok_qb hs.r5 (ok_ck (by rw [hs.n3]; exact b) ?_)))))
  refine ok_br (ok_lays a1 h2.1 h2.2 h5.1 h5.2) (fun z2 hz2 => ok_bd (ok_unfit hn hz2.1.1) (fun r3 z3 hz3 => ?_))
  refine ok_br (ok_lays hz3.1 h2.1 h2.2 ⟨hf.2.1, hf.2.2⟩ hf.1) (fun z4 hz4 => ok_some ?_)
  exact mu_t a2 (mu_t hz2.1 (mu_t (mu_l hz3.1 hz3.2) hz4.1))
theorem ok_startM (hn : 1000001 ≤ n0) (h : MG m σ) : Ok (f_X9_start n0 σ m x1 x2) (M2 m σ) := by
  unfold f_X9_start
  refine ok_br ok_in (fun r2 h2 => ok_br ok_in (fun r5 h5 => ?_))
  have l40 : (40 : Int32).toInt = 40 := by decide
  have g : ∀ y0 : Int32, (y0 ≠ 0 → mW m σ < 40) → Ok (fb_X9_start_31 n0 σ m x1 x2 y0 r5 r2) (M2 m σ) := by
    intro y0 hy
    unfold fb_X9_start_31
    refine ok_bd ok_needs3 (fun r8 u9 h8 => ?_)
    obtain ⟨⟨y, e⟩, h9⟩ := h8
    have e : u9 = wx_I σ m 0 y := e
    obtain ⟨a1, a2, a3, -⟩ := mg_0 (x := y) h (k := 0) (by decide)
    rw [e]
    refine ok_ite (fun _ => ok_some a2) (fun c => ?_)
    have c := h9 c
    have h2 := h2 c.1
    have hy := hy c.2.2
    generalize wx_I σ m 0 y = z at a1 a2 a3 ⊢
    have hwf := a1.1.wf
    refine ok_bd (ok_begets a1.1 h2 ⟨by rw [l_m1]; decide, by rw [l_m1]; omega, by rw [l_m1]; decide⟩) (fun r u hu => ?_)
    rcases hu with ⟨-, e⟩ | ⟨b1, b2, b3, b4, b5, b6, b7, b8⟩
    · omega
    · have b1 : MI m 0 u := b1
      have b2 : LR m z u := b2
      have b4 : mW m u = mW m z + 1 := b4
      have b5 : r.toInt = mW m z := b5
      have g1 := mg_l a1 b1 b2.1
      exact ok_br (ok_runs hn g1 (by omega) (by omega)) (fun y2 hy2 => ok_some (mu_t a2 (mu_t (mu_l g1 b2.1) (mu_l hy2.1 hy2.2))))
  refine ok_ite (fun _ => g 0 (fun e => absurd rfl e)) (fun c => g 1 (fun _ => ?_))
  rw [n_le, l40] at c
  unfold mW
  omega
theorem ok_tells {x3 : Int64} (hn : 1000001 ≤ n0) (h : MG m σ) (h0 : 0 ≤ x1.toInt) (h1 : x1.toInt < mW m σ) (h2 : x2 = 6 ∨ x2 = 12) : Ok (f_X9_tells n0 σ m x1 x2 x3) (fun r => MG m r.2 ∧ LW m σ r.2) := by
  have hm := h.1
  have hs := hm.st
  have hwf := hm.wf
  have tw := ti_of h0
  have b41 : 0 ≤ x1.toInt ∧ x1.toInt < ((41 : Nat) : Int) := by omega
  have n2 : x2 ≠ 1 ∧ x2 ≠ 11 := by rcases h2 with rfl | rfl <;> decide
  unfold f_X9_tells
  refine ok_qb hs.r10 (ok_ck (by rw [hs.n7]; exact b41) (ok_ite (fun _ => ok_some ⟨h, lw_r⟩) (fun _ => ok_qb hs.r11 (ok_ck (by rw [hs.n8]; exact b41) (ok_ite (fun c => ?_) (fun _ => ok_some ⟨h, lw_r⟩))))))
  rw [n_lt, l_90] at c
  have hE := hm.eb (ti x1) (by omega)
  have c : mE m σ (ti x1) < 90 := by unfold mE; exact c
  refine ok_bre (ok_addsM hs h0 (by omega) hE.1 (by omega)) ?_
  have a1 := mi_adds (x4 := x2) (x5 := x3) (d := 0) hm (w := ti x1) (by omega) (by omega) (fun _ => c) (fun e => absurd e n2.1) (fun e => absurd e n2.2) (Or.inl rfl)
  rw [Int.add_zero] at a1
  have a2 := (lr_ax (w := ti x1) (x4 := x2) (x5 := x3) hm.eb (by omega)).1
  have a3 : mW m (AX m (ti x1) x2 x3 σ) = mW m σ := by unfold mW; rw [ax_m]
  exact ok_br (ok_runs hn (mg_l h a1 a2) h0 (by omega)) (fun y hy => ok_some ⟨hy.1, lw_t a2 hy.2⟩)
theorem ok_isWorkflow : Ok (f_X9_isWorkflow σ m x1) (fun r => r ≠ 0 → 0 ≤ mW m σ → 0 ≤ x1.toInt ∧ x1.toInt < mW m σ) := by
  unfold f_X9_isWorkflow
  refine ok_br ok_in (fun r hr => ok_some (fun e hw => ?_))
  have := hr e
  have hlt := Int32.toInt_lt (sx_I σ m 6)
  rw [n_sub1 (by unfold mW at hw; omega), l_0] at this
  unfold mW
  omega
theorem ok_signalM (hn : 1000001 ≤ n0) (h : MG m σ) : Ok (f_X9_signal n0 σ m x1 x2 x3) (M2 m σ) := by
  unfold f_X9_signal
  refine ok_br ok_isWorkflow (fun r2 h2 => ok_br ok_in (fun r5 _ => ?_))
  have g : ∀ y0 : Int32, Ok (fb_X9_signal_31 n0 σ m x1 x2 x3 y0 r2) (M2 m σ) := by
    intro y0
    unfold fb_X9_signal_31
    refine ok_bd ok_needs2 (fun r8 u9 h8 => ?_)
    obtain ⟨⟨y, e⟩, h9⟩ := h8
    have e : u9 = wx_I σ m 0 y := e
    obtain ⟨a1, a2, a3, -⟩ := mg_0 (x := y) h (k := 0) (by decide)
    rw [e]
    refine ok_ite (fun _ => ok_some a2) (fun c => ?_)
    have c := h9 c
    have h2 := h2 c.1 h.1.wf.1
    refine ok_bd (ok_tells hn a1 h2.1 (by rw [a3]; exact h2.2) (Or.inl rfl)) (fun r z hz => ?_)
    have q : M2 m σ (r, z) := mu_t a2 (mu_l hz.1 hz.2)
    exact ok_ite (fun _ => ok_some q) (fun _ => ok_some q)
  unfold fb_X9_signal_30
  exact ok_ite (fun _ => g 0) (fun _ => ok_br ok_in (fun r9 _ => ok_ite (fun _ => g 0) (fun _ => g 1)))
theorem ok_cancelM (hn : 1000001 ≤ n0) (h : MG m σ) : Ok (f_X9_cancel n0 σ m x1) (M2 m σ) := by
  unfold f_X9_cancel
  refine ok_br ok_isWorkflow (fun r2 h2 => ok_bd ok_needs1 (fun r8 u9 h8 => ?_))
  obtain ⟨⟨y, e⟩, h9⟩ := h8
  have e : u9 = wx_I σ m 0 y := e
  obtain ⟨a1, a2, a3, -⟩ := mg_0 (x := y) h (k := 0) (by decide)
  rw [e]
  refine ok_ite (fun _ => ok_some a2) (fun c => ?_)
  have c := h9 c
  have h2 := h2 c h.1.wf.1
  refine ok_bd (ok_tells hn a1 h2.1 (by rw [a3]; exact h2.2) (Or.inr rfl)) (fun r z hz => ?_)
  have q : M2 m σ (r, z) := mu_t a2 (mu_l hz.1 hz.2)
  exact ok_ite (fun _ => ok_some q) (fun _ => ok_some q)
/-! copies of histories -/
def CY (m a b lo hi : Nat) (n : Int32) (σ u : sx_T) : Prop := FA (MC m) σ u ∧ (∀ k, sx_I u m k = sx_I σ m k) ∧ (∀ j k, 1 ≤ j → j ≠ 8 → j ≠ 11 → sx_I u (m + j) k = sx_I σ (m + j) k) ∧ (∀ w, sx_I u (m + 8) w = if w = b then n else sx_I σ (m + 8) w) ∧ ∀ q, sx_I u (m + 11) q = if 160 * b + lo ≤ q ∧ q < 160 * b + hi then sx_I σ (m + 11) (160 * a + (q - 160 * b)) else sx_I σ (m + 11) q
theorem ok_copies_l (h1 : 0 ≤ x1.toInt ∧ x1.toInt ≤ 40) (h2 : 0 ≤ x2.toInt ∧ x2.toInt ≤ 40) (hne : ti x1 ≠ ti x2) (h3 : 0 ≤ x3.toInt ∧ x3.toInt ≤ 140) : ∀ (p n : Nat) (σ : sx_T) (x4 : Int32), ST m σ → 0 ≤ x4.toInt → x4.toInt ≤ x3.toInt → x3.toInt - x4.toInt ≤ p → p < n → Ok (fl_X9_copies_3 n0 n σ m x1 x2 x3 x4) (CY m (ti x1) (ti x2) (ti x4) (ti x3) x3 σ) := by
  have t1 := ti_of h1.1
  have t2 := ti_of h2.1
  have t3 := ti_of h3.1
  have fin : ∀ (σ : sx_T) (x4 : Int32), ST m σ → ti x4 = ti x3 → CY m (ti x1) (ti x2) (ti x4) (ti x3) x3 σ (wx_I σ (m + 8) (ti x2) x3) := by
    intro σ x4 hs e
    refine ⟨fa_I (mc_j (by omega)), fun k => by rw [gI_I, if_neg (by omega)], fun j k a b c => by rw [gI_I, if_neg (by omega)], fun w => ?_, fun q => ?_⟩
    · rw [gI_I]
      by_cases c : w = ti x2
      · rw [if_pos ⟨rfl, c⟩, if_pos c]
      · rw [if_neg (fun z => c z.2), if_neg c]
    · rw [gI_I, if_neg (by omega), if_neg (by omega)]
  intro p
  induction p with
  | zero =>
    intro n σ x4 hs g0 g1 g2 g3
    obtain ⟨n, rfl⟩ : ∃ k, n = k + 1 := ⟨n - 1, by omega⟩
    unfold fl_X9_copies_3
    exact ok_p (by rw [n_le]; omega) (ok_qb hs.r11 (ok_ck (by rw [hs.n8]; omega) (ok_some (fin σ x4 hs (by unfold ti; omega)))))
  | succ p ih =>
    intro n σ x4 hs g0 g1 g2 g3
    obtain ⟨n, rfl⟩ : ∃ k, n = k + 1 := ⟨n - 1, by omega⟩
    unfold fl_X9_copies_3
    refine ok_ite (fun c => ok_qb hs.r11 (ok_ck (by rw [hs.n8]; omega) (ok_some (fin σ x4 hs (by rw [n_le] at c; unfold ti; omega))))) (fun c => ?_)
    rw [n_le] at c
    have e1 : (x4 + 1).toInt = x4.toInt + 1 := n_add1 (by omega) (by omega)
    have t4 := ti_of g0
    have tn : ti (x4 + 1) = ti x4 + 1 := by unfold ti; omega
    have i1 := n_160 (w := x1) (a := x4) h1.1 h1.2 (by omega) (by omega)
    have i2 := n_160 (w := x2) (a := x4) h2.1 h2.2 (by omega) (by omega)
    have j1 := ti_160 (w := x1) (a := x4) h1.1 h1.2 (by omega) (by omega)
    have j2 := ti_160 (w := x2) (a := x4) h2.1 h2.2 (by omega) (by omega)
    have b1 : 0 ≤ (160 * x1 + x4).toInt ∧ (160 * x1 + x4).toInt < ((6560 : Nat) : Int) := by omega
    have b2 : 0 ≤ (160 * x2 + x4).toInt ∧ (160 * x2 + x4).toInt < ((6560 : Nat) : Int) := by omega
    refine ok_qv (ok_qb hs.r14 (ok_ck (by rw [hs.n11]; exact b1) (ok_bq hs.r14 (ok_ck (by rw [hs.n11]; exact b2) (ok_qv (ok_qb hs.r15 (ok_ck (by rw [hs.n12]; exact b1) (ok_bq hs.r15 (ok_ck (by rw [hs.n12]; exact b2) ?_)))))))))
    rw [j1, j2]
    generalize hz : wx_J (wx_I σ (m + 11) (160 * ti x2 + ti x4) (sx_I σ (m + 11) (160 * ti x1 + ti x4))) (m + 12) (160 * ti x2 + ti x4) (sx_J σ (m + 12) (160 * ti x1 + ti x4)) = z
    have hf : FA (MC m) σ z := by rw [← hz]; exact fa_t (fa_I (mc_j (by omega))) (fa_J (mc_j (by omega)))
    have fm : ∀ k, sx_I z m k = sx_I σ m k := fun k => by rw [← hz, gI_J, gI_I, if_neg (by omega)]
    have fj : ∀ j k, j ≠ 11 → sx_I z (m + j) k = sx_I σ (m + j) k := fun j k a => by rw [← hz, gI_J, gI_I, if_neg (by omega)]
    have fv : ∀ q, sx_I z (m + 11) q = if q = 160 * ti x2 + ti x4 then sx_I σ (m + 11) (160 * ti x1 + ti x4) else sx_I σ (m + 11) q := fun q => by
      rw [← hz, gI_J, gI_I]
      by_cases e : q = 160 * ti x2 + ti x4
      · rw [if_pos ⟨rfl, e⟩, if_pos e]
      · rw [if_neg (fun y => e y.2), if_neg e]
    clear hz
    refine ok_m (ih n z (x4 + 1) (st_f hf hs) (by omega) (by omega) (by omega) (by omega)) (fun u hu => ?_)
    obtain ⟨u1, u2, u3, u4, u5⟩ := hu
    refine ⟨fa_t hf u1, fun k => (u2 k).trans (fm k), fun j k a b c => (u3 j k a b c).trans (fj j k c), fun w => by rw [u4, fj 8 w (by decide)], fun q => ?_⟩
    rw [u5, tn]
    by_cases e : q = 160 * ti x2 + ti x4
    · rw [if_neg (by omega), fv, if_pos e, if_pos (by omega), e]
      rw [show 160 * ti x2 + ti x4 - 160 * ti x2 = ti x4 by omega]
    · by_cases e2 : 160 * ti x2 + (ti x4 + 1) ≤ q ∧ q < 160 * ti x2 + ti x3
      · rw [if_pos e2, if_pos (by omega), fv, if_neg (by omega)]
      · rw [if_neg e2, if_neg (by omega), fv, if_neg e]
theorem ok_copies (hn : 1000001 ≤ n0) (hs : ST m σ) (h1 : 0 ≤ x1.toInt ∧ x1.toInt ≤ 40) (h2 : 0 ≤ x2.toInt ∧ x2.toInt ≤ 40) (hne : ti x1 ≠ ti x2) (h3 : 0 ≤ x3.toInt ∧ x3.toInt ≤ 140) : Ok (f_X9_copies n0 σ m x1 x2 x3) (CY m (ti x1) (ti x2) 0 (ti x3) x3 σ) := by
  have t0 : ti (0 : Int32) = 0 := by decide
  unfold f_X9_copies
  refine ok_m (ok_copies_l h1 h2 hne h3 140 n0 σ 0 hs (by decide) (by rw [l_0]; omega) (by rw [l_0]; omega) (by omega)) (fun u hu => ?_)
  rw [t0] at hu
  exact hu
/-- of the copy, it holds too -/
theorem mi_cy {a b : Nat} {n : Int32} (h : MI m 0 σ) (ha : a < 41) (hb : b < 41) (hab : a ≠ b) (hn : 1 ≤ n.toInt ∧ n.toInt ≤ mE m σ a) (hB : b = 40 ∨ ((b : Int) < mW m σ ∧ mE m σ b = 1 ∧ sx_I σ (m + 11) (160 * b) = 0)) (hu : CY m a b 0 (ti n) n σ u) : MI m 0 u ∧ (∀ w, w ≠ b → mE m u w = mE m σ w) ∧ mE m u b = n.toInt ∧ mW m u = mW m σ := by
  obtain ⟨u1, u2, u3, u4, u5⟩ := hu
  have tn := ti_of (x := n) (by omega)
  have hEa := h.eb a ha
  have hW : mW m u = mW m σ := by unfold mW; rw [u2]
  have hT : mT m u = mT m σ := by unfold mT; rw [u2]
  have hE : ∀ w, w ≠ b → mE m u w = mE m σ w := fun w e => by unfold mE; rw [u4, if_neg e]
  have hEb : mE m u b = n.toInt := by unfold mE; rw [u4, if_pos rfl]
  have hv : ∀ w, w ≠ b → ∀ k, k < 160 → sx_I u (m + 11) (160 * w + k) = sx_I σ (m + 11) (160 * w + k) := fun w e k hk => by rw [u5, if_neg (by omega)]
  have hvb : ∀ k, k < ti n → sx_I u (m + 11) (160 * b + k) = sx_I σ (m + 11) (160 * a + k) := fun k hk => by
    rw [u5, if_pos (by omega), show 160 * b + k - 160 * b = k by omega]
  have hc : ∀ x w, w ≠ b → ∀ q, q ≤ 160 → cn m u x w q = cn m σ x w q := fun x w e q hq => cn_e q (fun k hk => hv w e k (by omega))
  have hcb : ∀ x q, q ≤ ti n → cn m u x b q = cn m σ x a q := by
    intro x q
    induction q with
    | zero => intro _; rfl
    | succ q ih =>
      intro hq
      show cn m u x b q + (if sx_I u (m + 11) (160 * b + q) = x then 1 else 0) = cn m σ x a q + (if sx_I σ (m + 11) (160 * a + q) = x then 1 else 0)
      rw [ih (by omega), hvb q (by omega)]
  have mono : ∀ x, cn m σ x a (ti n) ≤ cn m σ x a (mE m σ a).toNat := by
    intro x
    have := cn_m (m := m) (σ := σ) (x := x) (w := a) (n := ti n) ((mE m σ a).toNat - ti n)
    rw [show ti n + ((mE m σ a).toNat - ti n) = (mE m σ a).toNat by omega] at this
    exact this
  have tnn : n.toInt.toNat = ti n := rfl
  refine ⟨⟨st_f u1 h.st, by rw [hW]; exact h.wf, fun w hw => ?_, ?_, ?_, ?_, ?_, fun k hk => ?_⟩, hE, hEb, hW⟩
  · have hp := h.pw w hw
    unfold PW at hp ⊢
    rw [u3 4 w (by decide) (by decide) (by decide), u3 5 w (by decide) (by decide) (by decide)]
    by_cases e : w = b
    · have hpa := h.pw a ha
      unfold PW at hpa
      rw [e, hEb, tnn, hcb 1 _ (Nat.le_refl _), hcb 11 _ (Nat.le_refl _), ← e]
      have m1 := mono 1
      have m11 := mono 11
      refine ⟨hp.1, hp.2.1, ⟨by omega, by omega⟩, fun k hk hk2 => ?_, by omega, by omega⟩
      rw [e, hvb k (by omega)] at hk2
      exact hpa.2.2.2.1 k (by omega) hk2
    · have hb2 := (h.eb w hw).2
      rw [hE w e, hc 1 w e _ (by omega), hc 11 w e _ (by omega)]
      refine ⟨hp.1, hp.2.1, hp.2.2.1, fun k hk hk2 => ?_, hp.2.2.2.2⟩
      rw [hv w e k (by omega)] at hk2
      exact hp.2.2.2.1 k hk hk2
  · intro w hw
    rw [hW] at hw ⊢
    rw [u3 5 w (by decide) (by decide) (by decide)]
    exact h.pa w hw
  · intro w h1 h2
    rw [hW] at h2
    by_cases e : w = b
    · omega
    · rw [hE w e]
      exact h.e0 w h1 h2
  · rw [hT, hW]
    have hle : sumC (wt m σ) (mW m σ).toNat ≤ sumC (wt m u) (mW m σ).toNat := by
      have hwf := h.wf
      refine sumC_le _ (fun w hw => ?_)
      unfold wt
      rw [u3 10 w (by decide) (by decide) (by decide)]
      by_cases e : w = b
      · have hB := hB.resolve_left (by omega)
        rw [e, hB.2.1]
        have z : ∀ x : Int32, x ≠ 0 → cn m σ x b (1 : Int).toNat = 0 := by
          intro x hx
          show (0 : Int) + (if sx_I σ (m + 11) (160 * b) = x then 1 else 0) = 0
          rw [hB.2.2, if_neg (fun q => hx q.symm)]
          rfl
        rw [z 1 (by decide), z 11 (by decide)]
        have c1 := (cn_b (m := m) (σ := u) (x := 1) (w := b) (mE m u b).toNat).1
        have c11 := (cn_b (m := m) (σ := u) (x := 11) (w := b) (mE m u b).toNat).1
        omega
      · have hb2 := (h.eb w (by omega)).2
        rw [hE w e, hc 1 w e _ (by omega), hc 11 w e _ (by omega)]
        exact Int.le_refl _
    have := h.tk
    omega
  · intro t ht
    rw [hT] at ht
    rw [hW, u3 13 t (by decide) (by decide) (by decide)]
    exact h.ow t ht
  · rw [u3 2 k (by decide) (by decide) (by decide), u3 1 k (by decide) (by decide) (by decide)]
    exact h.fi k hk
end M20
