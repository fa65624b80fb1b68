/-! steps that meet an event -/
section M7
variable {m w : Nat} {σ σ1 v u : sx_T} {s : Int} {n0 : Nat} {x2 x3 : Int32}
theorem rq_a (h : RM m w σ) : 1 ≤ mA m σ ∧ mA m σ ≤ 134 := ⟨h.1.1, h.1.2.1⟩
def S2 (m : Nat) (s : Int) (x1 x2 x3 : Int32) (σ σ1 : sx_T) : Prop := S1 m s (ti x1) x2 σ σ1 ∧ 0 ≤ x1.toInt ∧ x1.toInt ≤ 40 ∧ (x3 ≠ 0 → x1.toInt < mW m σ1)
theorem s2_met {x1 x3 its y7 : Int32} {n : Int64} {b : Int} (h : S2 m s x1 x2 x3 σ σ1) (q6 : its ≠ 6) (q12 : its ≠ 12) (q11 : its ≠ 11) (q1 : its = 1 → mA m σ1 ≤ 59) (qb : b = if its = 1 then 1 else 0) : Ok (f_X9_meets σ1 m x1 x2 x3 its n y7) (fun r => (r.1 = 0 ∧ EF m x2 σ1 r.2) ∨ (r.1 ≠ 0 ∧ (ET m s (ti x1) x2 x3 b σ1 r.2 ∧ E3 m σ1 r.2) ∧ (x2.toInt ≤ mA m σ1 → x3 ≠ 0 ∧ (its = 1 ∨ its = 11 → MI m (s + 1) r.2)))) := by
  obtain ⟨⟨m1, k1, xs1, h48, rm, rb, n26, eA1, h36, h38, a30, a36, a37, g38⟩, h0, h1, hlv⟩ := h
  have hA := rq_a rm
  have rm' := rm
  unfold RM RQ at rm'
  refine ok_m (ok_meets (x4 := its) m1 h0 h1 hlv hA rb n26 ⟨q6, q12⟩ (fun e => ?_) (fun e => absurd e q11)) (fun r hr => ?_)
  · have := q1 e
    omega
  · rcases hr with ⟨a, b⟩ | ⟨a, b, d⟩
    · exact Or.inl ⟨a, ef_mf b⟩
    · exact Or.inr ⟨a, et_mt ⟨by omega, by omega⟩ h48 d q11 qb d.1, fun hx => ⟨b hx, d.2.1 hx⟩⟩
theorem ef3 (h : S1 m s w x2 σ σ1) (hu : EF m x2 σ1 u) (c : sx_I u m 26 ≠ 0) : (sx_I u m 30).toInt = 0 ∧ (sx_I u m 36).toInt = 0 ∧ (sx_I u m 37).toInt = 0 := by
  obtain ⟨-, -, -, -, -, -, -, -, -, -, a30, a36, a37, -⟩ := h
  rcases hu.2.2.2 with e | ⟨e, -⟩
  · exact absurd e c
  · rw [e 30 (by decide) (by decide) (by decide), e 36 (by decide) (by decide) (by decide), e 37 (by decide) (by decide) (by decide)]
    exact ⟨a30, a36, a37⟩
theorem et3 (h : S1 m s w x2 σ σ1) (e : E3 m σ1 u) : (sx_I u m 30).toInt = 0 ∧ (sx_I u m 36).toInt = 0 ∧ (sx_I u m 37).toInt = 0 := by
  obtain ⟨-, -, -, -, -, -, -, -, -, -, a30, a36, a37, -⟩ := h
  rw [e 30 (by omega), e 36 (by omega), e 37 (by omega)]
  exact ⟨a30, a36, a37⟩
theorem s2_lat {x1 x3 : Int32} {b : Int} (h : S2 m s x1 x2 x3 σ σ1) (hu : ET m s (ti x1) x2 x3 b σ1 u) (vw : VW m u v) : f_X9_latestNumber v m x1 = some (sx_J u (m + 12) (160 * ti x1 + ti (sx_I u m 27) - 1)) := by
  obtain ⟨⟨-, -, -, -, rm, -⟩, h0, h1, -⟩ := h
  have hA := rq_a rm
  have e : mA m v = mA m σ1 + 1 := by
    have := hu.2.2.2.2.2.1
    unfold mA at this ⊢
    rw [vw.2.2.2 27 (by omega)]
    exact this
  rw [ok_latest (st_f vw.1.1 hu.1.st) h0 h1 (by unfold mA at e hA; omega), vw.1.2.2.2, vw.2.2.2 27 (by omega)]
/-- a task is made behind it -/
theorem et_task {x1 x3 x6 : Int32} {b : Int} {y : sx_T} (h : S2 m s x1 x2 x3 σ σ1) (hu : ET m s (ti x1) x2 x3 b σ1 u) (hm : MI m (s + 1) u) (hx : x3 ≠ 0) (vw : VW m u y) : Ok (f_X9_makesTask y m x1 x6) (fun r => ET m s (ti x1) x2 x3 b σ1 r.2 ∧ ∀ k, 17 ≤ k → sx_I r.2 m k = sx_I y m k) := by
  obtain ⟨⟨m1, -⟩, h0, h1, hlv⟩ := h
  obtain ⟨d1, d2, d3, d4, d5, d6, d7, d8, d9, d10⟩ := hu
  obtain ⟨kz, xy, y48, yv⟩ := vw
  have hup := d2.1.up.1
  have hlt := hlv hx
  have hwf := m1.wf
  have tw := ti_of h0
  refine ok_m (ok_makesTask (d := 0) (mi_kp hm kz) h0 (by rw [kp_W kz]; omega) (Or.inl rfl) (by have := m1.tk; omega)) (fun r hz => ?_)
  obtain ⟨z1, z2, z3, z4, z5, z6⟩ := hz
  rw [show s + 1 + 0 - 1 = s by omega] at z1
  generalize r.2 = z at z1 z2 z3 z4 z5 z6 ⊢
  have zk : ∀ k, 17 ≤ k → sx_I z m k = sx_I y m k := z3.1
  have eA : mA m z = mA m u := by unfold mA; rw [zk 27 (by decide), yv 27 (by omega)]
  have eE : ∀ w, mE m z w = mE m u w := fun w => (z4 w).trans (kp_E kz w)
  have eW : mW m z = mW m u := by unfold mW; rw [z6]; exact kp_W kz
  have cz : ∀ x n, cn m z x (ti x1) n = cn m u x (ti x1) n := fun x n => (cn_e n (fun k _ => z5 _)).trans (kp_cn kz)
  refine ⟨⟨z1, lr_t (lr_t d2 (lr_kp kz)) z2, xs_t (xs_t d3 xy) (xs_sf z3 (by decide)), ?_, by rw [zk 26 (by decide), yv 26 (by omega)]; exact d5, by rw [eA]; exact d6, rb_e d7 eA (eE _), ?_, ?_, fun k a => ?_⟩, zk⟩
  · unfold BW at d4 ⊢
    rw [eW, zk 48 (by decide), y48]
    exact d4
  · rw [zk 27 (by decide), yv 27 (by omega), cz]; exact d8
  · rw [zk 27 (by decide), yv 27 (by omega), cz]; exact d9
  · rw [zk k (by omega), yv k (by omega)]; exact d10 k a
section OPS
variable {x1 x3 x4 x6 x7 x8 x9 : Int32}
theorem op_end (h : S2 m s x1 x2 x3 σ σ1) (p8 : 0 ≤ x8.toInt ∧ x8.toInt ≤ 19) {n : Int64} : Ok (bd (f_X9_meets σ1 m x1 x2 x3 13 n 0) fun r3 u4 =>
    if r3 = 0 then fb_X9_steps_286 n0 u4 m x8 r3 0 else fb_X9_steps_286 n0 u4 m x8 r3 1) (ZP m s (ti x1) x2 x3 σ) := by
  have hS := h.1
  refine ok_bd (s2_met (b := 0) h (by decide) (by decide) (by decide) (fun e => absurd e (by decide)) rfl) (fun r u hu => ?_)
  unfold fb_X9_steps_286
  refine ok_ite (fun e => ?_) (fun e => ?_)
  · rcases hu with ⟨a, b⟩ | ⟨a, -⟩
    · exact lfF hS b (vw_m vw_r rfl) p8 e (fun c => by have := ef3 hS b c; simp only [gI_I, eq_self, true_and, Nat.reduceEqDiff, reduceIte, true_or, or_true, and_true]; exact ⟨this.1, this.2.1, rfl⟩)
    · exact absurd e a
  · rcases hu with ⟨a, b⟩ | ⟨a, ⟨d, d3⟩, -⟩
    · exact absurd a e
    · refine l1085 e (lfE hS d (vw_m vw_r rfl) e ?_)
      have : (sx_I u m 30).toInt = 0 ∧ (sx_I u m 36).toInt = 0 ∧ (sx_I u m 37).toInt = 0 := et3 hS d3
      simp only [gI_I, eq_self, true_and, Nat.reduceEqDiff, reduceIte, true_or, or_true, and_true]
      exact ⟨by omega, by decide, fun e => absurd e (by decide)⟩
theorem op_act (h : S2 m s x1 x2 x3 σ σ1) (p8 : 0 ≤ x8.toInt ∧ x8.toInt ≤ 19) (p7 : (x7 = 0 ∧ mA m σ1 < x2.toInt) ∨ (x7 ≠ 0 ∧ x2.toInt ≤ mA m σ1)) (hA : mA m σ1 ≤ 59) {n : Int64} : Ok (bd (f_X9_meets σ1 m x1 x2 x3 1 n 0) fun r9 u10 =>
    if r9 = 0 then
      fb_X9_steps_1085 n0 u10 m x8 r9
    else
      if x7 = 0 then
        fb_X9_steps_1085 n0 (wx_I (wx_I u10 m 30 1) m 31 x6) m x8 r9
      else
        bd (f_X9_makesTask (wx_I (wx_I u10 m 30 1) m 31 x6) m x1 x6) fun r17 u18 =>
        fb_X9_steps_1085 n0 u18 m x8 r9) (ZP m s (ti x1) x2 x3 σ) := by
  have hS := h.1
  refine ok_bd (s2_met (b := 1) h (by decide) (by decide) (by decide) (fun _ => hA) rfl) (fun r u hu => ?_)
  refine ok_ite (fun e => ?_) (fun e => ?_)
  · rcases hu with ⟨a, b⟩ | ⟨a, -⟩
    · exact lfF hS b vw_r p8 e (ef3 hS b)
    · exact absurd e a
  · rcases hu with ⟨a, b⟩ | ⟨a, ⟨d, d3⟩, f⟩
    · exact absurd a e
    · have d3 := et3 hS d3
      have d3 : (sx_I u m 30).toInt = 0 ∧ (sx_I u m 36).toInt = 0 ∧ (sx_I u m 37).toInt = 0 := d3
      refine ok_ite (fun c7 => ?_) (fun c7 => ?_)
      · refine l1085 e (lfE hS d (vw_m (vw_m vw_r rfl) rfl) e ?_)
        simp only [gI_I, eq_self, true_and, Nat.reduceEqDiff, reduceIte, true_or, or_true, and_true]; rw [l_1]
        omega
      · have hx : x2.toInt ≤ mA m σ1 := by
          rcases p7 with q | q
          · exact absurd q.1 c7
          · exact q.2
        have f := f hx
        refine ok_bd (et_task h d (f.2 (Or.inl rfl)) f.1 (vw_m (vw_m vw_r rfl) rfl)) (fun r2 z hz => ?_)
        obtain ⟨z1, z2⟩ := hz
        have z2 : ∀ k, 17 ≤ k → sx_I z m k = sx_I (wx_I (wx_I u m 30 1) m 31 x6) m k := z2
        refine l1085 e (lfE hS z1 vw_r e ?_)
        rw [z2 36 (by decide), z2 37 (by decide), z2 30 (by decide), kn (by decide), kn (by decide), kn (by decide), kn (by decide), kn (by decide), ke, l_1]
        omega
theorem op_tick (h : S2 m s x1 x2 x3 σ σ1) (p8 : 0 ≤ x8.toInt ∧ x8.toInt ≤ 19) (hA : mA m σ1 ≤ 59) {y0 y1 : Int32} : Ok (fb_X9_steps_359 n0 σ1 m x1 x8 y0 y1 4 x3 x2 x1) (ZP m s (ti x1) x2 x3 σ) := by
  have hS := h.1
  unfold fb_X9_steps_359
  refine ok_bd (s2_met (b := 0) h (by decide) (by decide) (by decide) (fun e => absurd e (by decide)) rfl) (fun r u hu => ?_)
  unfold fb_X9_steps_378 fb_X9_steps_397
  refine ok_ite (fun e => ok_p e ?_) (fun e => ok_n e ?_)
  · rcases hu with ⟨a, b⟩ | ⟨a, -⟩
    · exact lfF hS b (vw_m (vw_m (vw_m vw_r rfl) rfl) rfl) p8 e (fun c => by
        have := ef3 hS b c
        simp only [gI_I, eq_self, true_and, Nat.reduceEqDiff, reduceIte, true_or, or_true, and_true]
        exact ⟨rfl, this.2⟩)
    · exact absurd e a
  · rcases hu with ⟨a, b⟩ | ⟨a, ⟨d, d3⟩, -⟩
    · exact absurd a e
    · have d3 : (sx_I u m 30).toInt = 0 ∧ (sx_I u m 36).toInt = 0 ∧ (sx_I u m 37).toInt = 0 := et3 hS d3
      have hq := s2_lat (v := wx_I u m 30 2) h d (vw_m vw_r rfl)
      refine ok_bre hq (l1085 e (lfE hS d (vw_m (vw_m (vw_m vw_r rfl) rfl) rfl) e ?_))
      simp only [gI_I, eq_self, true_and, Nat.reduceEqDiff, reduceIte, true_or, or_true, and_true]; rw [show (2 : Int32).toInt = 2 from rfl]
      omega
theorem op_or (h : S2 m s x1 x2 x3 σ σ1) (p8 : 0 ≤ x8.toInt ∧ x8.toInt ≤ 19) (hA : mA m σ1 ≤ 59) {y0 y1 : Int32} : Ok (fb_X9_steps_510 n0 σ1 m x1 x6 x8 y0 y1 4 x3 x2 x1) (ZP m s (ti x1) x2 x3 σ) := by
  have hS := h.1
  unfold fb_X9_steps_510
  refine ok_bd (s2_met (b := 0) h (by decide) (by decide) (by decide) (fun e => absurd e (by decide)) rfl) (fun r u hu => ?_)
  unfold fb_X9_steps_529 fb_X9_steps_548
  refine ok_ite (fun e => ok_p e ?_) (fun e => ok_n e ?_)
  · rcases hu with ⟨a, b⟩ | ⟨a, -⟩
    · exact lfF hS b (vw_m (vw_m (vw_m vw_r rfl) rfl) rfl) p8 e (fun c => by
        have := ef3 hS b c
        simp only [gI_I, eq_self, true_and, Nat.reduceEqDiff, reduceIte, true_or, or_true, and_true]
        exact ⟨rfl, this.2⟩)
    · exact absurd e a
  · rcases hu with ⟨a, b⟩ | ⟨a, ⟨d, d3⟩, -⟩
    · exact absurd a e
    · have d3 : (sx_I u m 30).toInt = 0 ∧ (sx_I u m 36).toInt = 0 ∧ (sx_I u m 37).toInt = 0 := et3 hS d3
      have hq := s2_lat (v := wx_I u m 30 4) h d (vw_m vw_r rfl)
      refine ok_bre hq (l1085 e (lfE hS d (vw_m (vw_m (vw_m vw_r rfl) rfl) rfl) e ?_))
      simp only [gI_I, eq_self, true_and, Nat.reduceEqDiff, reduceIte, true_or, or_true, and_true]; rw [show (4 : Int32).toInt = 4 from rfl]
      omega
theorem s2_starts {y4 y5 y6 y7 : Int32} (h : S2 m s x1 x2 x3 σ σ1) (h4 : y4 = 7 ∨ y4 = 14) (p5 : 0 ≤ y5.toInt ∧ y5.toInt ≤ 5) (p6 : -1 ≤ y6.toInt ∧ (x3 ≠ 0 → y6.toInt ≤ 39 ∧ y6.toInt ≤ mW m σ1)) : Ok (f_X9_starts σ1 m x1 x2 x3 y4 y5 y6 y7) (fun r => (r.1 = 0 ∧ EF m x2 σ1 r.2) ∨ (r.1 ≠ 0 ∧ ET m s (ti x1) x2 x3 0 σ1 r.2 ∧ E3 m σ1 r.2)) := by
  obtain ⟨⟨m1, k1, xs1, h48, rm, rb, n26, eA1, h36, h38, a30, a36, a37, g38⟩, h0, h1, hlv⟩ := h
  exact ok_starts m1 h0 h1 hlv (rq_a rm) rb n26 h48 h4 p5 p6
end OPS
end M7
