section M22
variable {m w i : Nat} {σ v u β : sx_T} {s D : Int} {n0 : Nat} {x1 x2 x3 x4 x5 : Int32}
theorem m_ow (h : MG m σ) (h0 : 0 ≤ x1.toInt) (h1 : x1.toInt < mT m σ) : (0 ≤ (sx_I σ (m + 13) (ti x1)).toInt ∧ (sx_I σ (m + 13) (ti x1)).toInt < mW m σ) ∧ x1.toInt < 2100 := by
  have := ti_of h0
  have := mt_b h.1
  exact ⟨h.1.ow (ti x1) (by omega), by omega⟩
theorem m_own (h : MG m σ) (h0 : 0 ≤ x1.toInt) (h1 : x1.toInt < mT m σ) : 1 ≤ mE m σ (ti (sx_I σ (m + 13) (ti x1))) := by
  have a := (m_ow h h0 h1).1
  have := ti_of a.1
  exact h.2 _ (by omega)
theorem ok_pollM_l (hn : 1000001 ≤ n0) : ∀ (p n : Nat) (σ : sx_T) (x1 x2 : Int32), MG m σ → (x1 = -1 ∨ (0 ≤ x1.toInt ∧ x1.toInt < mT m σ)) → 0 ≤ x2.toInt → x2.toInt ≤ 2100 → 2100 - x2.toInt ≤ p → p < n → Ok (fl_X9_poll_9 n0 n σ m x1 x2) (M2 m σ) := by
  have fin : ∀ (σ : sx_T) (x1 : Int32), MG m σ → (x1 = -1 ∨ (0 ≤ x1.toInt ∧ x1.toInt < mT m σ)) → Ok (if x1 = (-1) then
        some ((-1), σ)
      else
        qv (sx_R σ m 25) fun w4 =>
        qv (sx_R σ m 7) fun w5 =>
        qv (sx_R σ m 17) fun w6 =>
        bq w6 fun a7 =>
        ck x1 (sx_N σ a7) <|
        bq w5 fun a9 =>
        ck (sx_I σ a7 (ti x1)) (sx_N σ a9) <|
        bq w4 fun a11 =>
        ck (sx_I σ a9 (ti (sx_I σ a7 (ti x1)))) (sx_N σ a11) <|
        qv (sx_R σ m 19) fun w15 =>
        bq w15 fun a16 =>
        ck x1 (sx_N σ a16) <|
        qv (sx_R σ m 21) fun w19 =>
        bq w19 fun a20 =>
        ck x1 (sx_N σ a20) <|
        qv (sx_R σ m 22) fun w23 =>
        bq w23 fun a24 =>
        ck x1 (sx_N σ a24) <|
        some ((sx_I σ m 23) + 1, (wx_I (wx_I (wx_I (wx_I (wx_I (wx_I σ m 24 ((sx_I σ m 24) + 1)) a11 (ti (sx_I σ a9 (ti (sx_I σ a7 (ti x1))))) ((sx_I σ m 24) + 1)) m 23 ((sx_I σ m 23) + 1)) a16 (ti x1) 1) a20 (ti x1) ((sx_I σ m 23) + 1)) a24 (ti x1) ((sx_I σ m 1) + 6)))) (M2 m σ) := by
    intro σ x1 h hx
    have hs := h.1.st
    have hwf := h.1.wf
    refine ok_ite (fun _ => ok_some (mu_r h)) (fun c => ?_)
    have hx := hx.resolve_left c
    obtain ⟨a, b⟩ := m_ow h hx.1 hx.2
    have ta := ti_of a.1
    have hp := (h.1.pw (ti (sx_I σ (m + 13) (ti x1))) (by omega)).1
    have b2100 : 0 ≤ x1.toInt ∧ x1.toInt < ((2100 : Nat) : Int) := by omega
    refine ok_qv (ok_qv (ok_qb hs.r17 (ok_ck (by rw [hs.n13]; exact b2100) (ok_bq hs.r7 (ok_ck (by rw [hs.n4]; omega) (ok_bq hs.r25 (ok_ck (by rw [hs.n19]; omega) (ok_qb hs.r19 (ok_ck (by rw [hs.n15]; exact b2100) (ok_qb hs.r21 (ok_ck (by rw [hs.n17]; exact b2100) (ok_qb hs.r22 (ok_ck (by rw [hs.n18]; exact b2100) (ok_some ?_))))))))))))))
    have g1 := mu_f (k := 24) (x := sx_I σ m 24 + 1) h (by decide)
    have g2 := (mu_j (j := 19) (k := ti (sx_I σ (m + 4) (ti (sx_I σ (m + 13) (ti x1))))) (x := sx_I σ m 24 + 1) g1.1 (by omega)).1
    have g3 := mu_f (k := 23) (x := sx_I σ m 23 + 1) g2.1 (by decide)
    have g4 := (mu_j (j := 15) (k := ti x1) (x := 1) g3.1 (by omega)).1
    have g5 := (mu_j (j := 17) (k := ti x1) (x := sx_I σ m 23 + 1) g4.1 (by omega)).1
    have g6 := (mu_j (j := 18) (k := ti x1) (x := sx_I σ m 1 + 6) g5.1 (by omega)).1
    exact mu_t g1 (mu_t g2 (mu_t g3 (mu_t g4 (mu_t g5 g6))))
  intro p
  induction p with
  | zero =>
    intro n σ x1 x2 h hx g0 g1 g2 g3
    obtain ⟨n, rfl⟩ : ∃ k, n = k + 1 := ⟨n - 1, by omega⟩
    have hb := mt_b h.1
    unfold fl_X9_poll_9
    exact ok_p (by rw [n_le]; unfold mT at hb; omega) (fin σ x1 h hx)
  | succ p ih =>
    intro n σ x1 x2 h hx g0 g1 g2 g3
    obtain ⟨n, rfl⟩ : ∃ k, n = k + 1 := ⟨n - 1, by omega⟩
    have hb := mt_b h.1
    have hs := h.1.st
    have hwf := h.1.wf
    unfold fl_X9_poll_9
    refine ok_ite (fun _ => fin σ x1 h hx) (fun c => ?_)
    rw [n_le] at c
    have cT : x2.toInt < mT m σ := by unfold mT; omega
    have e1 : (x2 + 1).toInt = x2.toInt + 1 := n_add1 (by omega) (by omega)
    obtain ⟨a, b⟩ := m_ow h g0 cT
    have ta := ti_of a.1
    have b2100 : 0 ≤ x2.toInt ∧ x2.toInt < ((2100 : Nat) : Int) := by omega
    have go : ∀ (z : sx_T) (y : Int32), MG m z → MU m σ z → (y = -1 ∨ (0 ≤ y.toInt ∧ y.toInt < mT m z)) → Ok (fl_X9_poll_9 n0 n z m y (x2 + 1)) (M2 m σ) := fun z y q1 q2 q3 => ok_m (ih n z y (x2 + 1) q1 q3 (by omega) (by omega) (by omega) (by omega)) (fun r hr => mu_t q2 hr)
    refine ok_qb hs.r19 (ok_ck (by rw [hs.n15]; exact b2100) (ok_ite (fun _ => ok_qb hs.r17 (ok_ck (by rw [hs.n13]; exact b2100) ?_)) (fun _ => go σ x1 h (mu_r h) hx)))
    refine ok_bd (ok_isFit hn h.1 a.1 (by omega) (m_own h g0 cT)) (fun r z hz => ?_)
    have z1 : MG m z := fi_mg h hz
    have z2 : LW m σ z := hz.2.1.1
    have z3 : MU m σ z := mu_l z1 z2
    have hup := z2.up
    have hxz : x1 = -1 ∨ (0 ≤ x1.toInt ∧ x1.toInt < mT m z) := hx.imp id (fun q => ⟨q.1, by omega⟩)
    have hx2 : x2 = -1 ∨ (0 ≤ x2.toInt ∧ x2.toInt < mT m z) := Or.inr ⟨g0, by omega⟩
    refine ok_ite (fun _ => go z x1 z1 z3 hxz) (fun _ => ?_)
    have hsz := z1.1.st
    have hwz := z1.1.wf
    obtain ⟨a2, b2⟩ := m_ow z1 g0 (by omega)
    have ta2 := ti_of a2.1
    have hp2 := (z1.1.pw (ti (sx_I z (m + 13) (ti x2))) (by omega)).1
    refine ok_qv (ok_qb hsz.r17 (ok_ck (by rw [hsz.n13]; exact b2100) (ok_bq hsz.r7 (ok_ck (by rw [hsz.n4]; omega) ?_))))
    have g71 : ∀ y3 y0 : Int32, (0 ≤ y3.toInt ∧ y3.toInt ≤ 5) → (x1 ≠ -1 → 0 ≤ y0.toInt ∧ y0.toInt ≤ 5) → Ok (fb_X9_poll_71 n0 (fl_X9_poll_9 n0 n) z m x1 x2 y3 y0) (M2 m σ) := by
      intro y3 y0 q1 q2
      have g128 : Ok (fb_X9_poll_128 n0 (fl_X9_poll_9 n0 n) z m x2) (M2 m σ) := go z x2 z1 z3 hx2
      have g132 : Ok (fb_X9_poll_132 n0 (fl_X9_poll_9 n0 n) z m x1 x2) (M2 m σ) := go z x1 z1 z3 hxz
      unfold fb_X9_poll_71
      refine ok_ite (fun _ => g128) (fun c => ?_)
      have q2 := q2 c
      have i3 : 0 ≤ y3.toInt ∧ y3.toInt < ((sx_N z (m + 19) : Nat) : Int) := by rw [hsz.n19]; omega
      have i0 : 0 ≤ y0.toInt ∧ y0.toInt < ((sx_N z (m + 19) : Nat) : Int) := by rw [hsz.n19]; omega
      exact ok_qb hsz.r25 (ok_ck i3 (ok_qb hsz.r25 (ok_ck i0 (ok_ite (fun _ => g128) (fun _ => ok_qb hsz.r25 (ok_ck i3 (ok_qb hsz.r25 (ok_ck i0 (ok_ite (fun _ => ok_ite (fun _ => g132) (fun _ => g128)) (fun _ => g132))))))))))
    refine ok_ite (fun c1 => g71 _ _ hp2 (fun e => absurd c1 e)) (fun c1 => ?_)
    have hx1 := hxz.resolve_left c1
    obtain ⟨a3, b3⟩ := m_ow z1 hx1.1 hx1.2
    have ta3 := ti_of a3.1
    have hp3 := (z1.1.pw (ti (sx_I z (m + 13) (ti x1))) (by omega)).1
    exact ok_qv (ok_qb hsz.r17 (ok_ck (by rw [hsz.n13]; omega) (ok_bq hsz.r7 (ok_ck (by rw [hsz.n4]; omega) (g71 _ _ hp2 (fun _ => hp3))))))
theorem ok_pollM (hn : 1000001 ≤ n0) (h : MG m σ) : Ok (f_X9_poll n0 σ m) (M2 m σ) := by
  have a := mu_f (k := 0) (x := 0) h (by decide)
  unfold f_X9_poll
  exact ok_m (ok_pollM_l hn 2100 n0 _ (-1) 0 a.1 (Or.inl rfl) (by decide) (by decide) (by decide) (by omega)) (fun r hr => mu_t a hr)
/-- a task whose workflow goes with the code -/
def TO (m : Nat) (σ : sx_T) (r : Int32 × sx_T) : Prop := MG m r.2 ∧ LW m σ r.2 ∧ (r.1 = -1 ∨ (0 ≤ r.1.toInt ∧ r.1.toInt < mT m r.2 ∧ mE m r.2 (ti (sx_I r.2 (m + 13) (ti r.1))) ≤ 134))
theorem ok_taskOf_l (hn : 1000001 ≤ n0) (h : MG m σ) : ∀ (p n : Nat) (x2 : Int32), 0 ≤ x2.toInt → x2.toInt ≤ 2100 → 2100 - x2.toInt ≤ p → p < n → Ok (fl_X9_taskOf_2 n0 n σ m x1 x2) (TO m σ) := by
  have hb := mt_b h.1
  have hs := h.1.st
  have hwf := h.1.wf
  intro p
  induction p with
  | zero =>
    intro n x2 g0 g1 g2 g3
    obtain ⟨n, rfl⟩ : ∃ k, n = k + 1 := ⟨n - 1, by omega⟩
    unfold fl_X9_taskOf_2
    exact ok_p (by rw [n_le]; unfold mT at hb; omega) (ok_some ⟨h, lw_r, Or.inl rfl⟩)
  | succ p ih =>
    intro n x2 g0 g1 g2 g3
    obtain ⟨n, rfl⟩ : ∃ k, n = k + 1 := ⟨n - 1, by omega⟩
    unfold fl_X9_taskOf_2
    refine ok_ite (fun _ => ok_some ⟨h, lw_r, Or.inl rfl⟩) (fun c => ?_)
    rw [n_le] at c
    have cT : x2.toInt < mT m σ := by unfold mT; omega
    have e1 : (x2 + 1).toInt = x2.toInt + 1 := n_add1 (by omega) (by omega)
    obtain ⟨a, b⟩ := m_ow h g0 cT
    have t2 := ti_of g0
    have b2100 : 0 ≤ x2.toInt ∧ x2.toInt < ((2100 : Nat) : Int) := by omega
    have go := ih n (x2 + 1) (by omega) (by omega) (by omega) (by omega)
    refine ok_qb hs.r19 (ok_ck (by rw [hs.n15]; exact b2100) (ok_ite (fun _ => ok_qb hs.r21 (ok_ck (by rw [hs.n17]; exact b2100) (ok_ite (fun _ => ok_qb hs.r17 (ok_ck (by rw [hs.n13]; exact b2100) ?_)) (fun _ => go)))) (fun _ => go)))
    refine ok_bd (ok_isFit hn h.1 a.1 (by omega) (m_own h g0 cT)) (fun r z hz => ?_)
    have z1 : MG m z := fi_mg h hz
    have z2 : LW m σ z := hz.2.1.1
    have hup := z2.up
    refine ok_ite (fun _ => ok_some ⟨z1, z2, Or.inl rfl⟩) (fun cr => ok_some ⟨z1, z2, Or.inr ⟨g0, by show x2.toInt < mT m z; omega, ?_⟩⟩)
    have q : mA m z = mE m z (ti (sx_I σ (m + 13) (ti x2))) ∧ mA m z ≤ 134 := hz.2.2.2.2 cr
    show mE m z (ti (sx_I z (m + 13) (ti x2))) ≤ 134
    rw [z2.ow (ti x2) (by omega)]
    omega
theorem ok_taskOf (hn : 1000001 ≤ n0) (h : MG m σ) : Ok (f_X9_taskOf n0 σ m x1) (TO m σ) := ok_taskOf_l hn h 2100 n0 0 (by decide) (by decide) (by decide) (by omega)
theorem ok_gets {x3 : Int64} (hn : 1000001 ≤ n0) (h : MG m σ) (h0 : 0 ≤ x1.toInt) (h1 : x1.toInt < mT m σ) (hE : mE m σ (ti (sx_I σ (m + 13) (ti x1))) ≤ 134) (h2 : x2 = 2 ∨ x2 = 3) : Ok (f_X9_gets n0 σ m x1 x2 x3) (fun u => MG m u ∧ LW m σ u) := by
  have hs := h.1.st
  obtain ⟨a, b⟩ := m_ow h h0 h1
  have n2 : x2 ≠ 1 ∧ x2 ≠ 11 ∧ x2 ≠ 6 ∧ x2 ≠ 12 := by rcases h2 with rfl | rfl <;> decide
  unfold f_X9_gets
  refine ok_br (ok_closes hs ⟨h0, b⟩) (fun z hz => ?_)
  obtain ⟨k1, k2, k3⟩ := hz
  have z1 : MG m z := mg_l h (mi_kp h.1 k1) (lr_kp k1).1
  have hsz := z1.1.st
  have e13 : ∀ k, sx_I z (m + 13) k = sx_I σ (m + 13) k := fun k => k3 13 k (by decide) (by decide) (by decide)
  have eW := kp_W k1
  have hwf := h.1.wf
  refine ok_qb hsz.r17 (ok_ck (by rw [hsz.n13]; omega) ?_)
  rw [e13]
  have ta := ti_of a.1
  have eE : mE m z (ti (sx_I σ (m + 13) (ti x1))) = mE m σ (ti (sx_I σ (m + 13) (ti x1))) := kp_E k1 _
  have hE0 := (z1.1.eb (ti (sx_I σ (m + 13) (ti x1))) (by omega)).1
  have own : sx_I z (m + 13) (ti x1) = sx_I σ (m + 13) (ti x1) := e13 _
  generalize sx_I σ (m + 13) (ti x1) = o at a hE ta eE hE0 own ⊢
  refine ok_bre (ok_addsM hsz a.1 (by omega) hE0 (by omega)) ?_
  have a1 := mi_adds (x4 := x2) (x5 := x3) (d := 0) z1.1 (w := ti o) (by omega) (by omega) (fun e => absurd e (by rintro (q | q); exact n2.2.2.1 q; exact n2.2.2.2 q)) (fun e => absurd e n2.1) (fun e => absurd e n2.2.1) (Or.inl rfl)
  rw [Int.add_zero] at a1
  have a2 := (lr_ax (w := ti o) (x4 := x2) (x5 := x3) z1.1.eb (by omega)).1
  have a3 : mW m (AX m (ti o) x2 x3 z) = mW m z := by unfold mW; rw [ax_m]
  have a4 : sx_I (AX m (ti o) x2 x3 z) (m + 13) (ti x1) = o := by rw [ax_j (by decide) (by decide)]; exact own
  generalize AX m (ti o) x2 x3 z = y at a1 a2 a3 a4 ⊢
  have hsy := a1.st
  refine ok_qb hsy.r17 (ok_ck (by rw [hsy.n13]; omega) ?_)
  rw [a4]
  exact ok_br (ok_runs hn (mg_l z1 a1 a2) a.1 (by omega)) (fun t ht => ok_some ⟨ht.1, lw_t (lr_kp k1).1 (lw_t a2 ht.2)⟩)
theorem ok_completeM (hn : 1000001 ≤ n0) (h : MG m σ) : Ok (f_X9_complete n0 σ m x1 x2) (M2 m σ) := by
  unfold f_X9_complete
  refine ok_br ok_in (fun r2 _ => ok_bd ok_needs1 (fun r8 u9 h8 => ?_))
  obtain ⟨⟨y, e⟩, -⟩ := h8
  have e : u9 = wx_I σ m 0 y := e
  obtain ⟨a1, a2, a3, -⟩ := mg_0 (x := y) h (k := 0) (by decide)
  rw [e]
  have f38 : ∀ (z : sx_T) (y : Int32), MU m σ z → Ok (fb_X9_complete_38 n0 z y) (M2 m σ) := fun z y q => by
    unfold fb_X9_complete_38
    exact ok_ite (fun _ => ok_some q) (fun _ => ok_some q)
  refine ok_ite (fun _ => ok_some a2) (fun c => ok_bd (ok_taskOf hn a1) (fun r z hz => ?_))
  obtain ⟨z1, z2, z3⟩ := hz
  have z1 : MG m z := z1
  have q := mu_t a2 (mu_l z1 z2)
  refine ok_ite (fun _ => f38 z r q) (fun cr => ?_)
  have z3 := z3.resolve_left cr
  exact ok_br (ok_gets hn z1 z3.1 z3.2.1 z3.2.2 (Or.inl rfl)) (fun t ht => f38 t r (mu_t q (mu_l ht.1 ht.2)))
def MV (m : Nat) (σ u : sx_T) : Prop := MG m u ∧ FA (MC m) σ u ∧ sx_I u m 1 = sx_I σ m 1 ∧ sx_I u m 0 = sx_I σ m 0
theorem mv_u (h : MV m σ u) : MU m σ u := ⟨h.1, h.2.1, h.2.2.1⟩
theorem mv_l (h : MG m u) (hl : LW m σ u) : MV m σ u := ⟨h, hl.fa, hl.nw, hl.th⟩
theorem mv_t (h1 : MV m σ v) (h2 : MV m v u) : MV m σ u := ⟨h2.1, fa_t h1.2.1 h2.2.1, h2.2.2.1.trans h1.2.2.1, h2.2.2.2.trans h1.2.2.2⟩
theorem mv_r (h : MG m σ) : MV m σ σ := ⟨h, fa_r, rfl, rfl⟩
theorem mv_j {j k : Nat} {x : Int32} (h : MG m σ) (hj : j = 7 ∨ j = 9 ∨ j = 14 ∨ j = 15 ∨ j = 16 ∨ j = 17 ∨ j = 18 ∨ j = 19 ∨ j = 23 ∨ j = 24) : MV m σ (wx_I σ (m + j) k x) ∧ (∀ k', sx_I (wx_I σ (m + j) k x) m k' = sx_I σ m k') ∧ ∀ j' k', j' ≠ j → sx_I (wx_I σ (m + j) k x) (m + j') k' = sx_I σ (m + j') k' :=
  ⟨⟨(mu_j h hj).1.1, (mu_j h hj).1.2.1, (mu_j h hj).1.2.2, (mu_j h hj).2.1 0⟩, (mu_j h hj).2.1, (mu_j h hj).2.2⟩
theorem ok_failed (hn : 1000001 ≤ n0) (h : MG m σ) (h0 : 0 ≤ x1.toInt) (h1 : x1.toInt < mT m σ) (hE : mE m σ (ti (sx_I σ (m + 13) (ti x1))) ≤ 134) : Ok (f_X9_failed n0 σ m x1) (MV m σ) := by
  have hs := h.1.st
  obtain ⟨a, b⟩ := m_ow h h0 h1
  have b2100 : 0 ≤ x1.toInt ∧ x1.toInt < ((2100 : Nat) : Int) := by omega
  unfold f_X9_failed
  have i16 : 0 ≤ x1.toInt ∧ x1.toInt < ((sx_N σ (m + 16) : Nat) : Int) := by rw [hs.n16]; exact b2100
  refine ok_qb hs.r20 (ok_ck i16 (ok_ck i16 (ok_qb hs.r20 (ok_ck i16 ?_))))
  obtain ⟨q1, q2, q3⟩ := mv_j (j := 16) (k := ti x1) (x := sx_I σ (m + 16) (ti x1) + 1) h (by omega)
  refine ok_ite (fun _ => ?_) (fun _ => ?_)
  · generalize wx_I σ (m + 16) (ti x1) (sx_I σ (m + 16) (ti x1) + 1) = z at q1 q2 q3 ⊢
    have eT : mT m z = mT m σ := by unfold mT; rw [q2]
    have e13 := q3 13 (ti x1) (by decide)
    have e8 : ∀ w, mE m z w = mE m σ w := fun w => by unfold mE; rw [q3 8 w (by decide)]
    exact ok_br (ok_gets hn q1.1 h0 (by omega) (by rw [e13, e8]; exact hE) (Or.inr rfl)) (fun t ht => ok_some (mv_t q1 (mv_l ht.1 ht.2)))
  · have hsz := q1.1.1.st
    have q4 := mv_j (j := 15) (k := ti x1) (x := 2) q1.1 (by omega)
    have hs4 := q4.1.1.1.st
    refine ok_qb hs.r19 (ok_ck (by rw [hs.n15]; exact b2100) (ok_qv (ok_qb hs.r20 (ok_ck i16 (ok_bq hs.r22 (ok_ck (by rw [hs.n18]; exact b2100) (ok_some ?_)))))))
    exact mv_t q1 (mv_t q4.1 (mv_j (j := 18) q4.1.1 (by omega)).1)
theorem ok_failM (hn : 1000001 ≤ n0) (h : MG m σ) : Ok (f_X9_fail n0 σ m x1) (M2 m σ) := by
  have a := mu_f (k := 0) (x := 0) h (by decide)
  have f38 : ∀ (z : sx_T) (y : Int32), MU m σ z → Ok (fb_X9_fail_21 n0 z y) (M2 m σ) := fun z y q => by
    unfold fb_X9_fail_21
    exact ok_ite (fun _ => ok_some q) (fun _ => ok_some q)
  unfold f_X9_fail
  refine ok_bd (ok_taskOf hn a.1) (fun r z hz => ?_)
  obtain ⟨z1, z2, z3⟩ := hz
  have z1 : MG m z := z1
  have q := mu_t a (mu_l z1 z2)
  refine ok_ite (fun _ => f38 z r q) (fun cr => ?_)
  have z3 := z3.resolve_left cr
  exact ok_br (ok_failed hn z1 z3.1 z3.2.1 z3.2.2) (fun t ht => f38 t r (mu_t q (mv_u ht)))
theorem ok_beatM (hn : 1000001 ≤ n0) (h : MG m σ) : Ok (f_X9_beat n0 σ m x1) (M2 m σ) := by
  have a := mu_f (k := 0) (x := 0) h (by decide)
  have f38 : ∀ (z : sx_T) (y : Int32), MU m σ z → Ok (fb_X9_beat_29 n0 z y) (M2 m σ) := fun z y q => by
    unfold fb_X9_beat_29
    exact ok_ite (fun _ => ok_some q) (fun _ => ok_some q)
  unfold f_X9_beat
  refine ok_bd (ok_taskOf hn a.1) (fun r z hz => ?_)
  obtain ⟨z1, z2, z3⟩ := hz
  have z1 : MG m z := z1
  have q := mu_t a (mu_l z1 z2)
  refine ok_ite (fun _ => f38 z r q) (fun cr => ?_)
  have z3 : 0 ≤ r.toInt ∧ r.toInt < mT m z ∧ _ := z3.resolve_left cr
  have hs := z1.1.st
  have := (m_ow z1 z3.1 z3.2.1).2
  exact ok_qb hs.r22 (ok_ck (by rw [hs.n18]; omega) (f38 _ r (mu_t q (mu_j (j := 18) z1 (by omega)).1)))
/-! time -/
theorem ok_ticks106_l (hn : 1000001 ≤ n0) : ∀ (p n : Nat) (σ : sx_T) (x1 : Int32), MG m σ → 0 ≤ x1.toInt → x1.toInt ≤ 41 → 41 - x1.toInt ≤ p → p < n → Ok (fl_X9_ticks_106 n0 n σ m x1) (fun u => MG m u ∧ LW m σ u) := by
  intro p
  induction p with
  | zero =>
    intro n σ x1 h g0 g1 g2 g3
    obtain ⟨n, rfl⟩ : ∃ k, n = k + 1 := ⟨n - 1, by omega⟩
    have hwf := h.1.wf
    unfold fl_X9_ticks_106
    exact ok_p (by rw [n_le]; unfold mW at hwf; omega) (ok_some ⟨h, lw_r⟩)
  | succ p ih =>
    intro n σ x1 h g0 g1 g2 g3
    obtain ⟨n, rfl⟩ : ∃ k, n = k + 1 := ⟨n - 1, by omega⟩
    have hs := h.1.st
    have hwf := h.1.wf
    unfold fl_X9_ticks_106
    refine ok_ite (fun _ => ok_some ⟨h, lw_r⟩) (fun c => ?_)
    rw [n_le] at c
    have cW : x1.toInt < mW m σ := by unfold mW; omega
    have e1 : (x1 + 1).toInt = x1.toInt + 1 := n_add1 (by omega) (by omega)
    have t1 := ti_of g0
    have go : ∀ (z : sx_T), MG m z → LW m σ z → Ok (fl_X9_ticks_106 n0 n z m (x1 + 1)) (fun u => MG m u ∧ LW m σ u) := fun z a b => ok_m (ih n z (x1 + 1) a (by omega) (by omega) (by omega) (by omega)) (fun r hr => ⟨hr.1, lw_t b hr.2⟩)
    refine ok_qb hs.r10 (ok_ck (by rw [hs.n7]; omega) (ok_ite (fun _ => ok_bd (ok_isFit hn h.1 g0 (by omega) (h.2 _ (by omega))) (fun r z hz => ?_)) (fun _ => go σ h lw_r)))
    have z1 : MG m z := fi_mg h hz
    have z2 : LW m σ z := hz.2.1.1
    have eW : mW m z = mW m σ := hz.2.2.1
    refine ok_ite (fun _ => go z z1 z2) (fun cr => ?_)
    have q : mA m z = mE m z (ti x1) ∧ mA m z ≤ 134 := hz.2.2.2.2 cr
    have g147 : Ok (fb_X9_ticks_147 n0 (fl_X9_ticks_106 n0 n) z m x1) (fun u => MG m u ∧ LW m σ u) := by
      unfold fb_X9_ticks_147
      refine ok_ite (fun _ => go z z1 z2) (fun _ => ?_)
      have hE0 := (z1.1.eb (ti x1) (by omega)).1
      refine ok_bre (ok_addsM z1.1.st g0 (by omega) hE0 (by omega)) ?_
      have a1 := mi_adds (x4 := 5) (x5 := 0) (d := 0) z1.1 (w := ti x1) (by omega) (by omega) (fun e => absurd e (by decide)) (fun e => absurd e (by decide)) (fun e => absurd e (by decide)) (Or.inl rfl)
      rw [Int.add_zero] at a1
      have a2 := (lr_ax (w := ti x1) (x4 := 5) (x5 := 0) z1.1.eb (by omega)).1
      have a3 : mW m (AX m (ti x1) 5 0 z) = mW m z := by unfold mW; rw [ax_m]
      exact ok_br (ok_runs hn (mg_l z1 a1 a2) g0 (by omega)) (fun t ht => go t ht.1 (lw_t z2 (lw_t a2 ht.2)))
    exact ok_ite (fun _ => g147) (fun _ => ok_ite (fun _ => g147) (fun _ => go z z1 z2))
theorem ok_ticks12_l (hn : 1000001 ≤ n0) : ∀ (p n : Nat) (σ : sx_T) (x1 : Int32), MG m σ → 0 ≤ x1.toInt → x1.toInt ≤ 2100 → 2100 - x1.toInt ≤ p → p < n → Ok (fl_X9_ticks_12 n0 n σ m x1) (MV m σ) := by
  have fin : ∀ σ : sx_T, MG m σ → Ok (fl_X9_ticks_106 n0 n0 σ m 0) (MV m σ) := fun σ h => ok_m (ok_ticks106_l hn 41 n0 σ 0 h (by decide) (by decide) (by decide) (by omega)) (fun r hr => mv_l hr.1 hr.2)
  intro p
  induction p with
  | zero =>
    intro n σ x1 h g0 g1 g2 g3
    obtain ⟨n, rfl⟩ : ∃ k, n = k + 1 := ⟨n - 1, by omega⟩
    have hb := mt_b h.1
    unfold fl_X9_ticks_12
    exact ok_p (by rw [n_le]; unfold mT at hb; omega) (fin σ h)
  | succ p ih =>
    intro n σ x1 h g0 g1 g2 g3
    obtain ⟨n, rfl⟩ : ∃ k, n = k + 1 := ⟨n - 1, by omega⟩
    have hb := mt_b h.1
    have hs := h.1.st
    have hwf := h.1.wf
    unfold fl_X9_ticks_12
    refine ok_ite (fun _ => fin σ h) (fun c => ?_)
    rw [n_le] at c
    have cT : x1.toInt < mT m σ := by unfold mT; omega
    have e1 : (x1 + 1).toInt = x1.toInt + 1 := n_add1 (by omega) (by omega)
    have t1 := ti_of g0
    obtain ⟨a, b⟩ := m_ow h g0 cT
    have b2100 : 0 ≤ x1.toInt ∧ x1.toInt < ((2100 : Nat) : Int) := by omega
    have go : ∀ (z : sx_T), MV m σ z → Ok (fl_X9_ticks_12 n0 n z m (x1 + 1)) (MV m σ) := fun z q => ok_m (ih n z (x1 + 1) q.1 (by omega) (by omega) (by omega) (by omega)) (fun r hr => mv_t q hr)
    have g40 : Ok (fb_X9_ticks_40 n0 (fl_X9_ticks_12 n0 n) σ m x1) (MV m σ) := by
      unfold fb_X9_ticks_40
      refine ok_qb hs.r22 (ok_ck (by rw [hs.n18]; exact b2100) (ok_ite (fun _ => go σ (mv_r h)) (fun _ => ok_qb hs.r17 (ok_ck (by rw [hs.n13]; exact b2100) (ok_bd (ok_isFit hn h.1 a.1 (by omega) (m_own h g0 cT)) (fun r z hz => ?_))))))
      have z1 : MG m z := fi_mg h hz
      have z2 : LW m σ z := hz.2.1.1
      have z3 : MV m σ z := mv_l z1 z2
      have hup := z2.up
      refine ok_ite (fun _ => go z z3) (fun cr => ?_)
      have hsz := z1.1.st
      have q : mA m z = mE m z (ti (sx_I σ (m + 13) (ti x1))) ∧ mA m z ≤ 134 := hz.2.2.2.2 cr
      refine ok_qb hsz.r19 (ok_ck (by rw [hsz.n15]; exact b2100) (ok_ite (fun _ => ?_) (fun _ => ?_)))
      · exact ok_br (ok_failed hn z1 g0 (by omega) (by rw [z2.ow (ti x1) (by omega)]; omega)) (fun t ht => go t (mv_t z3 ht))
      · have q4 := mv_j (j := 15) (k := ti x1) (x := 0) z1 (by omega)
        exact ok_qb hsz.r19 (ok_ck (by rw [hsz.n15]; exact b2100) (ok_qb hsz.r22 (ok_ck (by rw [hsz.n18]; exact b2100) (go _ (mv_t z3 (mv_t q4.1 (mv_j (j := 18) q4.1.1 (by omega)).1))))))
    exact ok_qb hs.r19 (ok_ck (by rw [hs.n15]; exact b2100) (ok_ite (fun _ => g40) (fun _ => ok_qb hs.r19 (ok_ck (by rw [hs.n15]; exact b2100) (ok_ite (fun _ => g40) (fun _ => go σ (mv_r h)))))))
def MK (m : Nat) (σ u : sx_T) (d : Int32) : Prop := MG m u ∧ FA (MC m) σ u ∧ sx_I u m 1 = sx_I σ m 1 + d ∧ sx_I u m 0 = sx_I σ m 0
theorem ok_ticks (hn : 1000001 ≤ n0) (h : MG m σ) : Ok (f_X9_ticks n0 σ m) (fun u => MK m σ u 1) := by
  have e6 : mW m (wx_I σ m 1 (sx_I σ m 1 + 1)) = mW m σ := by unfold mW; rw [kn (by decide)]
  have g : MG m (wx_I σ m 1 (sx_I σ m 1 + 1)) := ⟨mi_f h.1 (by decide), fun w hw => by
    rw [e6] at hw
    unfold mE
    rw [gI_I, if_neg (by omega)]
    exact h.2 w hw⟩
  unfold f_X9_ticks
  exact ok_m (ok_ticks12_l hn 2100 n0 _ 0 g (by decide) (by decide) (by decide) (by omega)) (fun u hu => ⟨hu.1, fa_t (fa_I mc_0) hu.2.1, by rw [hu.2.2.1, ke], by rw [hu.2.2.2, kn (by decide)]⟩)
theorem ok_tickM_l (hn : 1000001 ≤ n0) (hx : x1.toInt ≤ 50) : ∀ (p n : Nat) (σ : sx_T) (x2 : Int32), MG m σ → 0 ≤ x2.toInt → x2.toInt ≤ x1.toInt → x1.toInt - x2.toInt ≤ p → p < n → Ok (fl_X9_tick_18 n0 n σ m x1 x2) (fun r => MK m σ r.2 (x1 - x2) ∧ r.1 = sx_I r.2 m 1) := by
  intro p
  induction p with
  | zero =>
    intro n σ x2 hg h0 h1 h2 h3
    obtain ⟨n, rfl⟩ : ∃ k, n = k + 1 := ⟨n - 1, by omega⟩
    have e : x1 = x2 := n_eq.mpr (by omega)
    unfold fl_X9_tick_18
    refine ok_p (by rw [n_le]; omega) (ok_some ⟨⟨hg, fa_r, ?_, rfl⟩, rfl⟩)
    rw [e, Int32.sub_self, Int32.add_zero]
  | succ p ih =>
    intro n σ x2 hg h0 h1 h2 h3
    obtain ⟨n, rfl⟩ : ∃ k, n = k + 1 := ⟨n - 1, by omega⟩
    unfold fl_X9_tick_18
    refine ok_ite (fun c1 => ok_some ⟨⟨hg, fa_r, ?_, rfl⟩, rfl⟩) (fun c1 => ?_)
    · rw [n_le] at c1
      have e : x1 = x2 := n_eq.mpr (by omega)
      rw [e, Int32.sub_self, Int32.add_zero]
    rw [n_le] at c1
    have e1 : (x2 + 1).toInt = x2.toInt + 1 := n_add1 (by omega) (by omega)
    refine ok_br (ok_ticks hn hg) (fun u hu => ok_m (ih n u (x2 + 1) hu.1 (by omega) (by omega) (by omega) (by omega)) (fun r hr => ⟨⟨hr.1.1, fa_t hu.2.1 hr.1.2.1, ?_, hr.1.2.2.2.trans hu.2.2.2⟩, hr.2⟩))
    rw [hr.1.2.2.1, hu.2.2.1]
    have e3 : x1 - x2 = 1 + (x1 - (x2 + 1)) := by
      rw [n_eq, n_sub (by omega) (by omega)]
      have e4 : (x1 - (x2 + 1)).toInt = x1.toInt - x2.toInt - 1 := by rw [n_sub (by omega) (by omega), e1]; omega
      have e5 : (1 : Int32).toInt = 1 := by decide
      rw [n_add (by omega) (by omega), e4, e5]
      omega
    rw [e3, Int32.add_assoc]
theorem ok_tickM (hn : 1000001 ≤ n0) (h : MG m σ) : Ok (f_X9_tick n0 σ m x1) (fun r => ((x1.toInt < 1 ∨ 50 < x1.toInt) ∧ MU m σ r.2 ∧ sx_I r.2 m 0 = 1) ∨ (1 ≤ x1.toInt ∧ x1.toInt ≤ 50 ∧ (MG m r.2 ∧ FA (MC m) σ r.2 ∧ sx_I r.2 m 1 = sx_I σ m 1 + x1) ∧ sx_I r.2 m 0 = 0 ∧ r.1 = sx_I r.2 m 1)) := by
  have l50 : (50 : Int32).toInt = 50 := by decide
  have hin : Ok (f_X9_in σ x1 1 50) (fun r => (r ≠ 0 → 1 ≤ x1.toInt ∧ x1.toInt ≤ 50) ∧ (r = 0 → x1.toInt < 1 ∨ 50 < x1.toInt)) := by
    unfold f_X9_in
    refine ok_ite (fun c => ok_some ⟨fun e => absurd rfl e, fun _ => ?_⟩) (fun c1 => ok_ite (fun c => ok_some ⟨fun e => absurd rfl e, fun _ => ?_⟩) (fun c2 => ok_some ⟨fun _ => ?_, fun e => absurd e (by decide)⟩))
    · rw [n_lt, l_1] at c; omega
    · rw [n_lt, l50] at c; omega
    · rw [n_lt, l_1] at c1
      rw [n_lt, l50] at c2
      omega
  have hnd : ∀ y : Int32, Ok (f_X9_needs σ m y) (fun r => (∃ z, r.2 = wx_I σ m 0 z ∧ (y = 0 → z = 1) ∧ (y ≠ 0 → z = 0)) ∧ r.1 = y) := fun y => by
    unfold f_X9_needs fb_X9_needs_10
    exact ok_ite (fun c => ok_some ⟨⟨_, rfl, fun _ => rfl, fun q => absurd c q⟩, rfl⟩) (fun c => ok_some ⟨⟨_, rfl, fun q => absurd q c, fun _ => rfl⟩, rfl⟩)
  unfold f_X9_tick
  refine ok_br hin (fun r2 h2 => ok_bd (hnd r2) (fun r8 u9 h8 => ?_))
  obtain ⟨⟨y, e, y1, y0⟩, e8⟩ := h8
  have e : u9 = wx_I σ m 0 y := e
  have e8 : r8 = r2 := e8
  have a := mu_f (k := 0) (x := y) h (by decide)
  rw [e, e8]
  refine ok_ite (fun c => ok_some (Or.inl ⟨h2.2 c, a, by rw [ke]; exact y1 c⟩)) (fun c => ?_)
  have h2 := h2.1 c
  refine ok_m (ok_tickM_l hn h2.2 50 n0 _ 0 a.1 (by decide) (by rw [l_0]; omega) (by rw [l_0]; omega) (by omega)) (fun r hr => Or.inr ⟨h2.1, h2.2, ?_, ?_, hr.2⟩)
  · have hr := hr.1
    rw [Int32.sub_zero] at hr
    exact ⟨hr.1, fa_t a.2.1 hr.2.1, by rw [hr.2.2.1, a.2.2]⟩
  · rw [hr.1.2.2.2, ke]
    exact y0 c
end M22
