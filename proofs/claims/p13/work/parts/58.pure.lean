section M9
variable {m w : Nat} {σ σ1 v u : sx_T} {s : Int} {n0 : Nat} {x2 : Int32} {x1 x3 x4 x5 x6 x7 x8 x9 : Int32}
theorem xs_us (h : US m σ u) : XS m σ u := ⟨h.2.1 45 (by decide), h.2.1 47 (by decide), fun k => h.2.2 9 k (by decide) (by decide) (by decide)⟩
theorem ok_164 (hn : 1000001 ≤ n0) (h : S2 m s x1 x2 x3 σ σ1) (p4 : 0 ≤ x4.toInt ∧ x4.toInt ≤ 119) (p5 : 0 ≤ x5.toInt ∧ x5.toInt ≤ 17) (p6 : 0 ≤ x6.toInt ∧ x6.toInt ≤ 99) (p7 : (x7 = 0 ∧ mA m σ1 < x2.toInt) ∨ (x7 ≠ 0 ∧ x2.toInt ≤ mA m σ1)) (p8 : 0 ≤ x8.toInt ∧ x8.toInt ≤ 19)
    (p9 : x5.toInt = 3 ∨ x5.toInt = 4 → x9 = -1 ∨ (0 ≤ x9.toInt ∧ x9.toInt < (sx_I σ1 m 39).toInt))
    (hb : x5.toInt = 1 ∨ x5.toInt = 2 ∨ x5.toInt = 9 ∨ x5.toInt = 10 ∨ x5.toInt = 11 ∨ x5.toInt = 14 ∨ x5.toInt = 17 → mA m σ1 ≤ 59) (hb4 : x5.toInt = 4 → x9 = -1 → mA m σ1 ≤ 59) (hb12 : x5.toInt = 12 → (sx_I σ1 m 32).toInt ≤ 19) : Ok (fb_X9_steps_164 n0 σ1 m x1 x2 x3 x4 x5 x6 x7 x8 x9) (ZP m s (ti x1) x2 x3 σ) := by
  have hS := h.1
  have hS' := h.1
  have h0 := h.2.1
  have h1 := h.2.2.1
  have hlv := h.2.2.2
  obtain ⟨m1, k1, xs1, h48, rm, rb, n26, eA1, h36, h38, a30, a36, a37, g38⟩ := hS'
  have hs := m1.st
  have hwf := m1.wf
  have tw := ti_of h0
  have hA := rq_a rm
  have hA' : 1 ≤ (sx_I σ1 m 27).toInt ∧ (sx_I σ1 m 27).toInt ≤ 134 := hA
  have rm' := rm
  unfold RM RQ at rm'
  have l2 : (2 : Int32).toInt = 2 := rfl
  have l3 : (3 : Int32).toInt = 3 := rfl
  have n10 : ¬ (1 : Int32) = 0 := by decide
  have i1 := n_160 (w := x1) (a := sx_I σ1 m 27) h0 h1 (by omega) (by omega)
  have i2 := ti_160 (w := x1) (a := sx_I σ1 m 27) h0 h1 (by omega) (by omega)
  have ik : 0 ≤ (160 * x1 + sx_I σ1 m 27).toInt ∧ (160 * x1 + sx_I σ1 m 27).toInt < ((6560 : Nat) : Int) := by omega
  have b41 : 0 ≤ x1.toInt ∧ x1.toInt < ((41 : Nat) : Int) := by omega
  have hK : (sx_I σ1 m 39).toInt ≤ 160 := by omega
  -- one that uses a signal
  have us : ∀ {u : sx_T} {k : Nat}, US m σ1 u → (sx_I u m 39).toInt = (sx_I σ1 m 39).toInt - 1 → 0 ≤ (sx_I u m 39).toInt → ∀ {v}, KP m u v → XS m u v → (∀ k, k ≠ 29 → k ≠ 31 → sx_I v m k = sx_I u m k) → ZP m s (ti x1) x2 x3 σ (1, v) := by
    intro u _ q1 q2 q3 v kv xv fv
    have f : ∀ k, k ≠ 29 → k ≠ 31 → k ≠ 39 → sx_I v m k = sx_I σ1 m k := fun k a b c => (fv k a b).trans (q1.2.1 k c)
    refine lfN hS (kp_t q1.1 kv) (xs_t (xs_us q1) xv) (fun k hk => f k (by omega) (by omega) (by omega)) ?_ ?_ ?_ ?_
    · rw [f 28 (by decide) (by decide) (by decide)]; omega
    · rw [f 32 (by decide) (by decide) (by decide)]; omega
    · rw [fv 39 (by decide) (by decide)]; omega
    · rw [f 36 (by decide) (by decide) (by decide), f 30 (by decide) (by decide) (by decide)]; omega
  -- one that touches no more than fields 28, 29, 30, 31, 34, 35, 36
  have nf : ∀ {v}, KP m σ1 v → XS m σ1 v → (∀ k, k = 26 ∨ k = 27 ∨ k = 32 ∨ k = 37 ∨ k = 38 ∨ k = 39 ∨ k = 48 → sx_I v m k = sx_I σ1 m k) → (0 ≤ (sx_I v m 28).toInt ∧ (sx_I v m 28).toInt ≤ 19) → (((sx_I v m 36).toInt = 0 ∧ ((sx_I v m 30).toInt = 0 ∨ (sx_I v m 30).toInt = 3)) ∨ (0 < (sx_I v m 36).toInt ∧ (sx_I v m 30).toInt = 0)) → ZP m s (ti x1) x2 x3 σ (1, v) := by
    intro v kv xv fv p28 hw
    refine lfN hS kv xv (fun k hk => fv k (by omega)) p28 ?_ ?_ hw
    · rw [fv 32 (by omega)]; omega
    · rw [fv 39 (by omega)]; omega
  unfold fb_X9_steps_164
  refine ok_ite (fun c => op_end h p8) (fun c0 => ok_ite (fun c => op_act h p8 p7 (hb (Or.inl (q_1.mp c)))) (fun c1 => ok_ite (fun c => ?_) (fun c2 => ok_ite (fun c => ?_) (fun c3 => ok_ite (fun c => ?_) (fun c4 => ok_ite (fun c => ?_) (fun c5 => ok_ite (fun c => ?_) (fun c6 => ok_ite (fun c => ?_) (fun c7 => ok_ite (fun c => ?_) (fun c8 => ok_ite (fun c => op_kid h p6 p8 (hb (by rw [q_9] at c; omega))) (fun c9 => ok_ite (fun c => op_own h p6 p8 (hb (by rw [q_10] at c; omega))) (fun c10 => ok_ite (fun c => op_draw h p6 p8 (hb (by rw [q_11] at c; omega))) (fun c11 => ok_ite (fun c => ?_) (fun c12 => ok_ite (fun c => ?_) (fun c13 => ok_ite (fun c => ?_) (fun c14 => ok_ite (fun c => ?_) (fun c15 => ok_ite (fun c => ?_) (fun c16 => ?_)))))))))))))))))
  · have hA59 := hb (by rw [q_2] at c; omega)
    exact ok_ite (fun _ => op_tick h p8 hA59) (fun _ => op_tick h p8 hA59)
  · have p9 := p9 (by rw [q_3] at c; omega)
    unfold fb_X9_steps_431 fb_X9_steps_446
    refine ok_ite (fun c9 => ok_p c9 (l1085 n10 (nf (kp_m (kp_m (kp_m kp_r rfl) rfl) rfl) (xs_m (xs_m (xs_m xs_r (by decide)) (by decide)) (by decide)) (fun k hk => ?_) ?_ ?_))) (fun c9 => ?_)
    · rw [kn (by omega), kn (by omega), kn (by omega)]
    · simp only [gI_I, eq_self, true_and, Nat.reduceEqDiff, reduceIte, true_or, or_true, and_true]; omega
    · simp only [gI_I, eq_self, true_and, Nat.reduceEqDiff, reduceIte, true_or, or_true, and_true]; rw [l3]; omega
    · have p9 := p9.resolve_left c9
      refine ok_bd (ok_uses hn hs hK p9.1 p9.2) (fun y z hz => ok_n c9 (l1085 n10 ?_))
      obtain ⟨z1, z2⟩ := hz
      have z1 : US m σ1 z := z1
      have z2 : (sx_I z m 39).toInt = (sx_I σ1 m 39).toInt - 1 := z2
      have f : ∀ k, k ≠ 29 → k ≠ 30 → k ≠ 31 → sx_I (wx_I (wx_I (wx_I z m 29 y) m 30 0) m 31 x6) m k = sx_I z m k := fun k a b d => by rw [kn d, kn b, kn a]
      have g : ∀ k, k ≠ 29 → k ≠ 30 → k ≠ 31 → k ≠ 39 → sx_I (wx_I (wx_I (wx_I z m 29 y) m 30 0) m 31 x6) m k = sx_I σ1 m k := fun k a b d e => (f k a b d).trans (z1.2.1 k e)
      refine lfN hS (kp_t z1.1 (kp_m (kp_m (kp_m kp_r rfl) rfl) rfl)) (xs_t (xs_us z1) (xs_m (xs_m (xs_m xs_r (by decide)) (by decide)) (by decide))) (fun k hk => g k (by omega) (by omega) (by omega) (by omega)) ?_ ?_ ?_ ?_
      · rw [g 28 (by decide) (by decide) (by decide) (by decide)]; omega
      · rw [g 32 (by decide) (by decide) (by decide) (by decide)]; omega
      · rw [f 39 (by decide) (by decide) (by decide)]; omega
      · rw [g 36 (by decide) (by decide) (by decide) (by decide), kn (by decide), ke, l_0]; omega
  · have p9 := p9 (by rw [q_4] at c; omega)
    refine ok_ite (fun c9 => ?_) (fun c9 => ?_)
    · have hA59 := hb4 (q_4.mp c) c9
      have b3 : 0 ≤ x4.toInt ∧ x4.toInt < ((sx_N σ1 (m + 3) : Nat) : Int) := by rw [hs.n3]; omega
      exact ok_qb hs.r5 (ok_ck b3 (ok_ite (fun _ => ok_qb hs.r5 (ok_ck b3 (op_or h p8 hA59))) (fun _ => op_or h p8 hA59)))
    · have p9 := p9.resolve_left c9
      refine ok_bd (ok_uses hn hs hK p9.1 p9.2) (fun y z hz => ok_some ?_)
      obtain ⟨z1, z2⟩ := hz
      have z1 : US m σ1 z := z1
      have z2 : (sx_I z m 39).toInt = (sx_I σ1 m 39).toInt - 1 := z2
      exact us (k := 0) z1 z2 (by omega) (kp_m kp_r rfl) (xs_m xs_r (by decide)) (fun k a b => kn a)
  · have j := jr_20 p6.1 p6.2
    have go : ∀ y : Int32, 0 ≤ y.toInt → y.toInt ≤ 19 → Ok (fb_X9_steps_580 n0 σ1 m x8 1 y) (ZP m s (ti x1) x2 x3 σ) := by
      intro y y0 y1
      unfold fb_X9_steps_580
      refine l1085 n10 (nf (kp_m kp_r rfl) (xs_m xs_r (by decide)) (fun k hk => kn (by omega)) (by rw [ke]; exact ⟨y0, y1⟩) ?_)
      simp only [gI_I, eq_self, true_and, Nat.reduceEqDiff, reduceIte, true_or, or_true, and_true]; omega
    exact ok_ite (fun _ => go _ j.1 j.2) (fun _ => go _ (by omega) (by omega))
  · have j := jr_20 p6.1 p6.2
    refine ok_some (nf (kp_m kp_r rfl) (xs_m xs_r (by decide)) (fun k hk => kn (by omega)) (by rw [ke]; exact j) ?_)
    simp only [gI_I, eq_self, true_and, Nat.reduceEqDiff, reduceIte, true_or, or_true, and_true]; omega
  · refine ok_some (nf (kp_m kp_r rfl) (xs_m xs_r (by decide)) (fun k hk => kn (by omega)) (by rw [kn (by decide)]; omega) ?_)
    simp only [gI_I, eq_self, true_and, Nat.reduceEqDiff, reduceIte, true_or, or_true, and_true]; omega
  · refine ok_some (nf (kp_m kp_r rfl) (xs_m xs_r (by decide)) (fun k hk => kn (by omega)) (by rw [kn (by decide)]; omega) ?_)
    simp only [gI_I, eq_self, true_and, Nat.reduceEqDiff, reduceIte, true_or, or_true, and_true]; omega
  · have hP := hb12 (q_12.mp c)
    have eP : (sx_I σ1 m 32 + 1).toInt = (sx_I σ1 m 32).toInt + 1 := n_add1 (by omega) (by omega)
    refine ok_qb hs.r33 (ok_ck (by rw [hs.n20]; omega) (ok_some ?_))
    have f : ∀ k, k ≠ 32 → sx_I (wx_I (wx_I σ1 (m + 20) (ti (sx_I σ1 m 32)) x6) m 32 (sx_I σ1 m 32 + 1)) m k = sx_I σ1 m k := fun k a => by rw [kn a, gI_I, if_neg (by omega)]
    refine lfN hS (kp_m (kp_a kp_r rfl (by decide) (by decide)) rfl) ⟨f 45 (by decide), f 47 (by decide), fun k => by rw [gI_I, if_neg (by omega), gI_I, if_neg (by omega)]⟩ (fun k hk => f k (by omega)) ?_ ?_ ?_ ?_
    · rw [f 28 (by decide)]; omega
    · rw [ke, eP]; omega
    · rw [f 39 (by decide)]; omega
    · rw [f 36 (by decide), f 30 (by decide)]; omega
  · refine ok_some (nf (kp_m kp_r rfl) (xs_m xs_r (by decide)) (fun k hk => kn (by omega)) (by rw [kn (by decide)]; omega) ?_)
    simp only [gI_I, eq_self, true_and, Nat.reduceEqDiff, reduceIte, true_or, or_true, and_true]; rw [l2]; omega
  · have hA59 := hb (by rw [q_14] at c; omega)
    refine ok_ite (fun _ => op_mark h p8 hA59) (fun cx => ?_)
    rw [n_le] at cx
    have hlt : mA m σ1 < x2.toInt := by unfold mA; omega
    have f97 : Ok (fb_X9_steps_897 n0 σ1 m x8 1) (ZP m s (ti x1) x2 x3 σ) := op_898 h hA59 hlt (Or.inl rfl)
    exact ok_qb hs.r14 (ok_ck (by rw [hs.n11]; exact ik) (ok_ite (fun ce => ok_qb hs.r15 (ok_ck (by rw [hs.n12]; exact ik) (ok_ite (fun _ => op_898 h hA59 hlt (Or.inr ⟨rfl, by rw [i2] at ce; exact ce⟩)) (fun _ => f97)))) (fun _ => f97)))
  · refine ok_some (nf (kp_m kp_r rfl) (xs_m xs_r (by decide)) (fun k hk => kn (by omega)) (by rw [kn (by decide)]; omega) ?_)
    simp only [gI_I, eq_self, true_and, Nat.reduceEqDiff, reduceIte, true_or, or_true, and_true]; omega
  · have go : ∀ y : Int32, (y.toInt = 0 ∨ y.toInt = 3) → Ok (fb_X9_steps_1000 n0 (wx_I σ1 m 34 0) m x8 1 y) (ZP m s (ti x1) x2 x3 σ) := by
      intro y hy
      unfold fb_X9_steps_1000
      refine l1085 n10 (nf (kp_m (kp_m (kp_m kp_r rfl) rfl) rfl) (xs_m (xs_m (xs_m xs_r (by decide)) (by decide)) (by decide)) (fun k hk => by rw [kn (by omega), kn (by omega), kn (by omega)]) (by simp only [gI_I, eq_self, true_and, Nat.reduceEqDiff, reduceIte, true_or, or_true, and_true]; omega) ?_)
      simp only [gI_I, eq_self, true_and, Nat.reduceEqDiff, reduceIte, true_or, or_true, and_true]; omega
    exact ok_ite (fun _ => go _ (Or.inl a36)) (fun _ => go 3 (Or.inr l3))
  · have h17 : x5.toInt = 17 := by
      rw [q_0] at c0
      rw [q_1] at c1
      rw [q_2] at c2
      rw [q_3] at c3
      rw [q_4] at c4
      rw [q_5] at c5
      rw [q_6] at c6
      rw [q_7] at c7
      rw [q_8] at c8
      rw [q_9] at c9
      rw [q_10] at c10
      rw [q_11] at c11
      rw [q_12] at c12
      rw [q_13] at c13
      rw [q_14] at c14
      rw [q_15] at c15
      rw [q_16] at c16
      omega
    have hA59 := hb (by omega)
    obtain ⟨g1, g2, -⟩ := m1.pw (ti x1) (by omega)
    have g3 : -1 ≤ (sx_I σ1 (m + 5) (ti x1)).toInt ∧ (x3 ≠ 0 → (sx_I σ1 (m + 5) (ti x1)).toInt ≤ 39 ∧ (sx_I σ1 (m + 5) (ti x1)).toInt ≤ mW m σ1) := ⟨g2.1, fun e => ⟨g2.2, by have := m1.pa (ti x1) (by have := hlv e; omega); omega⟩⟩
    refine ok_qb hs.r7 (ok_ck (by rw [hs.n4]; exact b41) (ok_qb hs.r8 (ok_ck (by rw [hs.n5]; exact b41) (ok_qb hs.r8 (ok_ck (by rw [hs.n5]; exact b41) (ok_ite (fun _ => op_anew h p8 hA59 g1 g3) (fun _ => ok_qb hs.r9 (ok_ck (by rw [hs.n6]; exact b41) (op_anew h p8 hA59 g1 g3)))))))))
end M9
