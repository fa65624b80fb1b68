section M18
variable {m w i : Nat} {σ v u β : sx_T} {s D : Int} {n0 : Nat} {x1 x2 x3 : Int32}
theorem ok_rests_l (hn : 1000001 ≤ n0) (hD : 0 ≤ D) (h0 : 0 ≤ x1.toInt) : ∀ (p n : Nat) (σ : sx_T) (x3 : Int32), QI n0 m D σ → x1.toInt < mW m σ → sx_I σ (m + 7) (ti x1) = 0 → 0 ≤ x3.toInt → x3.toInt ≤ 2100 → mT m σ - x3.toInt ≤ p → p < n → Ok (fl_X9_rests_25 n0 n σ m x1 x2 x3) (RE n0 m D σ) := by
  intro p
  induction p with
  | zero =>
    intro n σ x3 h h1 he g0 g1 g2 g3
    obtain ⟨n, rfl⟩ : ∃ k, n = k + 1 := ⟨n - 1, by omega⟩
    have hm := h.1
    have hs := hm.st
    have hwf := hm.wf
    unfold fl_X9_rests_25
    refine ok_p (by rw [n_le]; unfold mT at g2; omega) (ok_ite (fun _ => ok_rests102 hn hD h h0 h1 he) (fun _ => ok_qb hs.r13 (ok_ck (by rw [hs.n10]; omega) (ok_ite (fun c => ?_) (fun _ => ok_rests102 hn hD h h0 h1 he)))))
    refine ok_bd (ok_makesTask (d := 1) hm h0 h1 (Or.inr ⟨rfl, c⟩) (by omega)) (fun r u hu => ?_)
    obtain ⟨u1, u2, u3, u4, u5, u6⟩ := hu
    have u1 : MI m (0 + 1 - 1) u := u1
    have u1 : MI m 0 u := u1
    have u2 : LR m σ u := u2
    have u3 : SF m 17 σ u := u3
    have u6 : sx_I u m 6 = sx_I σ m 6 := u6
    have hq := qi_lr h u1 u2 (u3.1 45 (by decide)) (u3.2 9 (Or.inl rfl) (by decide))
    have eW : mW m u = mW m σ := by unfold mW; rw [u6]
    have b : RE n0 m D σ u := ⟨hq, u2.1, eW, u2.2.2 23 (by omega)⟩
    exact ok_m (ok_rests102 hn hD hq h0 (by rw [eW]; exact h1) (by rw [u2.2.2 7 (by omega)]; exact he)) (fun r hr => re_t b hr)
  | succ p ih =>
    intro n σ x3 h h1 he g0 g1 g2 g3
    by_cases cx : mT m σ ≤ x3.toInt
    · obtain ⟨n, rfl⟩ : ∃ k, n = k + 1 := ⟨n - 1, by omega⟩
      have hm := h.1
      have hs := hm.st
      have hwf := hm.wf
      unfold fl_X9_rests_25
      refine ok_p (by rw [n_le]; unfold mT at cx; omega) (ok_ite (fun _ => ok_rests102 hn hD h h0 h1 he) (fun _ => ok_qb hs.r13 (ok_ck (by rw [hs.n10]; omega) (ok_ite (fun c => ?_) (fun _ => ok_rests102 hn hD h h0 h1 he)))))
      refine ok_bd (ok_makesTask (d := 1) hm h0 h1 (Or.inr ⟨rfl, c⟩) (by omega)) (fun r u hu => ?_)
      obtain ⟨u1, u2, u3, u4, u5, u6⟩ := hu
      have u1 : MI m (0 + 1 - 1) u := u1
      have u1 : MI m 0 u := u1
      have u2 : LR m σ u := u2
      have u3 : SF m 17 σ u := u3
      have u6 : sx_I u m 6 = sx_I σ m 6 := u6
      have hq := qi_lr h u1 u2 (u3.1 45 (by decide)) (u3.2 9 (Or.inl rfl) (by decide))
      have eW : mW m u = mW m σ := by unfold mW; rw [u6]
      have b : RE n0 m D σ u := ⟨hq, u2.1, eW, u2.2.2 23 (by omega)⟩
      exact ok_m (ok_rests102 hn hD hq h0 (by rw [eW]; exact h1) (by rw [u2.2.2 7 (by omega)]; exact he)) (fun r hr => re_t b hr)
    · obtain ⟨n, rfl⟩ : ∃ k, n = k + 1 := ⟨n - 1, by omega⟩
      have hm := h.1
      have hs := hm.st
      have hwf := hm.wf
      have hb := mt_b hm
      have t3 := ti_of g0
      have e1 : (x3 + 1).toInt = x3.toInt + 1 := n_add1 (by omega) (by omega)
      have go : Ok (fl_X9_rests_25 n0 n σ m x1 x2 (x3 + 1)) (RE n0 m D σ) := ih n σ (x3 + 1) h h1 he (by omega) (by omega) (by omega) (by omega)
      have cl : Ok (fb_X9_rests_67 n0 (fl_X9_rests_25 n0 n) σ m x1 x2 x3) (RE n0 m D σ) := by
        unfold fb_X9_rests_67
        refine ok_br (ok_closes hs ⟨g0, by omega⟩) (fun u hu => ?_)
        obtain ⟨k1, k2, k3⟩ := hu
        have hq := qi_lr h (mi_kp hm k1) (lr_kp k1) (k2 45) (fun k => k3 9 k (by decide) (by decide) (by decide))
        have eW := kp_W k1
        have eT : mT m u = mT m σ := by unfold mT; rw [k2]
        have b : RE n0 m D σ u := ⟨hq, (lr_kp k1).1, eW, fun k => k3 23 k (by decide) (by decide) (by decide)⟩
        exact ok_m (ih n u (x3 + 1) hq (by rw [eW]; exact h1) (by rw [k3 7 _ (by decide) (by decide) (by decide)]; exact he) (by omega) (by omega) (by rw [eT]; omega) (by omega)) (fun r hr => re_t b hr)
      have i1 : 0 ≤ x3.toInt ∧ x3.toInt < ((2100 : Nat) : Int) := by omega
      unfold fl_X9_rests_25
      refine ok_n (by rw [n_le]; unfold mT at cx; exact cx) (ok_qb hs.r17 (ok_ck (by rw [hs.n13]; exact i1) (ok_ite (fun _ => ok_qb hs.r19 (ok_ck (by rw [hs.n15]; exact i1) (ok_ite (fun _ => go) (fun _ => ok_ite (fun _ => cl) (fun _ => ok_qb hs.r13 (ok_ck (by rw [hs.n10]; omega) (ok_ite (fun _ => go) (fun _ => cl)))))))) (fun _ => go))))
theorem ok_rests (hn : 1000001 ≤ n0) (hD : 0 ≤ D) (h : QI n0 m D σ) (h0 : 0 ≤ x1.toInt) (h1 : x1.toInt < mW m σ) (he : sx_I σ (m + 7) (ti x1) = 0) : Ok (f_X9_rests n0 σ m x1) (RE n0 m D σ) := by
  have hb := mt_b h.1
  have g : ∀ x2, Ok (fl_X9_rests_25 n0 n0 σ m x1 x2 0) (RE n0 m D σ) := fun x2 => ok_rests_l hn hD h0 2100 n0 σ 0 h h1 he (by decide) (by decide) (by rw [l_0]; omega) (by omega)
  unfold f_X9_rests
  exact ok_ite (fun _ => g 1) (fun _ => ok_ite (fun _ => g 1) (fun _ => g 0))
theorem qi_ac (h : QI n0 m D σ) (hu : MI m 0 u) (hl : LR m σ u) (ha : AC n0 m x1 x3 σ u) (h0 : 0 ≤ x1.toInt) (h1 : x1.toInt < mW m σ) : QI n0 m D u := by
  rcases ha with ⟨a, b⟩ | ⟨-, b, c, d, e, f⟩
  · exact qi_lr h hu hl a b
  · obtain ⟨q1, q2, q3, q4, q5⟩ := h
    have hwf := q1.wf
    have tw := ti_of h0
    have hup := hl.1.up
    have ex : Int32.ofNat (ti x1) = x1 := of_ti h0 (by omega)
    have key : nR n0 m σ + 1 ≤ nR n0 m u := by
      refine sumC_lt (j := ti x1) 40 (by omega) (rI_lt (by rw [ex]; exact b) (by rw [ex]; exact c)) (fun w hw => rI_le (fun hr => ?_))
      by_cases ew : w = ti x1
      · rw [ew, ex]; exact c
      · have hlt := rc_w q1 hw hr
        exact rc_up hr hl.1 (by rw [ti_ofNat (by omega)]; exact ⟨hlt, by omega⟩) (by rw [ti_ofNat (by omega), e w ew]; exact Int.le_refl _)
    have e7 : nd m u = nd m σ := nd_e (hl.2.2 7 (by omega))
    refine ⟨hu, ne_l q2 hl.1 hu, by omega, by rw [hl.2.1, e7]; exact q4, fun k hk => ?_⟩
    rw [hl.2.1] at hk
    rw [hl.2.2 24 (by omega)]
    have := q5 k hk
    omega
theorem qi_hw (h : QI n0 m D σ) (hD : 0 ≤ D) : HW n0 m x1 σ := by
  have := qi_b h hD
  have := h.2.2.1
  exact ⟨by omega, Or.inl (by omega)⟩
/-- what going on leaves -/
def GO (n0 m : Nat) (D : Int) (σ u : sx_T) : Prop := QI n0 m D u ∧ LW m σ u
theorem go_t {D' : Int} (h1 : GO n0 m D σ v) (h2 : GO n0 m D' v u) : GO n0 m D' σ u := ⟨h2.1, lw_t h1.2 h2.2⟩
theorem ok_goesOn_l (hn : 1000001 ≤ n0) (hD : 0 ≤ D) {W : Int} (hW0 : 0 ≤ W) : ∀ (p n : Nat) (σ : sx_T) (x2 : Int32), QI n0 m D σ → 0 ≤ x2.toInt → x2.toInt ≤ 1 + (mW m σ - W) → (∀ k : Nat, (k : Int) < x2.toInt → 0 ≤ (sx_I σ (m + 23) k).toInt ∧ (sx_I σ (m + 23) k).toInt < mW m σ) → 2 * (40 - mW m σ) + x2.toInt ≤ p → p < n → Ok (fl_X9_goesOn_9 n0 n σ m x2) (GO n0 m D σ) := by
  intro p
  induction p with
  | zero =>
    intro n σ x2 h g0 g1 g2 g3 g4
    obtain ⟨n, rfl⟩ : ∃ k, n = k + 1 := ⟨n - 1, by omega⟩
    have hwf := h.1.wf
    unfold fl_X9_goesOn_9
    exact ok_p (by rw [n_le, l_0]; omega) (ok_some ⟨h, lw_r⟩)
  | succ p ih =>
    intro n σ x2 h g0 g1 g2 g3 g4
    obtain ⟨n, rfl⟩ : ∃ k, n = k + 1 := ⟨n - 1, by omega⟩
    have hm := h.1
    have hs := hm.st
    have hwf := hm.wf
    unfold fl_X9_goesOn_9
    refine ok_ite (fun _ => ok_some ⟨h, lw_r⟩) (fun c => ?_)
    rw [n_le, l_0] at c
    have hx2 : 1 ≤ x2.toInt ∧ x2.toInt ≤ 41 := ⟨by omega, by omega⟩
    have e2 : (x2 + 1).toInt = x2.toInt + 1 := n_add1 (by omega) (by omega)
    have e1 : (x2 - 1).toInt = x2.toInt - 1 := n_sub1 (by omega)
    have t1 : ((ti (x2 - 1) : Nat) : Int) = (x2 - 1).toInt := ti_of (by omega)
    have t2 := ti_of g0
    have em0 : (x2 + -1).toInt = x2.toInt + (-1 : Int32).toInt := n_add (by rw [l_m1]; omega) (by rw [l_m1]; omega)
    have em : (x2 + -1).toInt = x2.toInt - 1 := by
      rw [em0, l_m1]
      omega
    clear em0
    generalize hxm : x2 + -1 = xm at em
    refine ok_qb hs.r42 (ok_ck (by rw [hs.n23]; omega) ?_)
    have hv := g2 (ti (x2 - 1)) (by omega)
    generalize sx_I σ (m + 23) (ti (x2 - 1)) = y at hv ⊢
    have ty := ti_of hv.1
    have b41 : 0 ≤ y.toInt ∧ y.toInt < ((41 : Nat) : Int) := by omega
    -- behind a replaying
    have g69 : ∀ z : sx_T, QI n0 m D z → LW m σ z → mW m z = mW m σ → (∀ k, sx_I z (m + 23) k = sx_I σ (m + 23) k) → (sx_I z (m + 7) (ti y) = 0 → sx_I z m 26 ≠ 0 → mA m z = mE m z (ti y)) → Ok (fb_X9_goesOn_69 n0 (fl_X9_goesOn_9 n0 n) z m x2 y) (GO n0 m D σ) := by
      intro z q1 q2 q3 q4 q5
      have hsz := q1.1.st
      have go : ∀ z' : sx_T, RE n0 m D z z' → Ok (fl_X9_goesOn_9 n0 n z' m xm) (GO n0 m D σ) := by
        intro z' q
        have eW : mW m z' = mW m σ := q.2.2.1.trans q3
        refine ok_m (ih n z' xm q.1 (by omega) (by omega) (fun k hk => ?_) (by omega) (by omega)) (fun r hr => ⟨hr.1, lw_t (lw_t q2 q.2.1) hr.2⟩)
        rw [q.2.2.2, q4, eW]
        exact g2 k (by omega)
      have go0 := go z ⟨q1, lw_r, rfl, fun _ => rfl⟩
      unfold fb_X9_goesOn_69
      rw [hxm]
      refine ok_qb hsz.r10 (ok_ck (by rw [hsz.n7]; exact b41) (ok_ite (fun c7 => ok_ite (fun _ => go0) (fun c26 => ok_qb hsz.r12 (ok_ck (by rw [hsz.n9]; exact b41) ?_))) (fun _ => go0)))
      have q5 := q5 c7 c26
      have l1 : LW m z (wx_I z (m + 9) (ti y) (sx_I z m 27)) := lw_j (by omega)
      have m1 : MI m 0 (wx_I z (m + 9) (ti y) (sx_I z m 27)) := mi_j q1.1 (by omega)
      have f9 : ∀ k, sx_I (wx_I z (m + 9) (ti y) (sx_I z m 27)) (m + 9) k = if k = ti y then sx_I z m 27 else sx_I z (m + 9) k := fun k => by
        rw [gI_I]
        by_cases e : k = ti y
        · rw [if_pos ⟨rfl, e⟩, if_pos e]
        · rw [if_neg (fun q => e q.2), if_neg e]
      have fj : ∀ j k, j ≠ 9 → sx_I (wx_I z (m + 9) (ti y) (sx_I z m 27)) (m + j) k = sx_I z (m + j) k := fun j k a => by rw [gI_I, if_neg (by omega)]
      have fm : ∀ k, sx_I (wx_I z (m + 9) (ti y) (sx_I z m 27)) m k = sx_I z m k := fun k => by rw [gI_I, if_neg (by omega)]
      generalize wx_I z (m + 9) (ti y) (sx_I z m 27) = z1 at l1 m1 f9 fj fm ⊢
      have eW1 : mW m z1 = mW m z := by unfold mW; rw [fm]
      have hq1 : QI n0 m D z1 := qi_s q1 m1 l1 (fm 45) (fun w hw => by
        rw [f9]
        by_cases e : w = ti y
        · right
          rw [if_pos e, e]
          have : mE m z1 (ti y) = mE m z (ti y) := by unfold mE; rw [fj 8 _ (by decide)]
          rw [this, ← q5]
          exact Int.le_refl _
        · left
          rw [if_neg e]
          exact Int.le_refl _) (fm 43) (fun k => fj 24 k (by decide)) (by rw [nd_e (fun k => fj 7 k (by decide))]; exact Int.le_refl _)
      refine ok_br (ok_rests hn hD hq1 hv.1 (by rw [eW1, q3]; exact hv.2) (by rw [fj 7 _ (by decide)]; exact c7)) (fun z' hz' => go z' ⟨hz'.1, lw_t l1 hz'.2.1, hz'.2.2.1.trans eW1, fun k => (hz'.2.2.2 k).trans (fj 23 k (by decide))⟩)
    refine ok_qb hs.r10 (ok_ck (by rw [hs.n7]; exact b41) (ok_ite (fun _ => ?_) (fun c7 => g69 σ h lw_r rfl (fun _ => rfl) (fun e => by rw [e, n_le] at c7; omega))))
    have hl1 : (1 : Int32) ≠ 0 := by decide
    refine ok_qb hs.r11 (ok_ck (by rw [hs.n8]; exact b41) (ok_bd (ok_replays (x3 := 1) (x2 := sx_I σ (m + 8) (ti y)) hn hm hv.1 (by omega) (fun _ => hv.2) rfl (h.2.1 (ti y) (by omega)) (fun _ => qi_hw h hD)) (fun r z hz => ?_)))
    obtain ⟨z1, z2, z3, z4⟩ := hz
    have z1 : MI m 0 z := z1
    have z2 : LR m σ z := z2
    have hqz := qi_ac h z1 z2 z4 hv.1 hv.2
    unfold fb_X9_goesOn_47
    rcases z3 with ⟨a, b, d⟩ | ⟨-, b, d⟩
    · have a : r = -1 := a
      exact ok_p a (g69 z hqz z2.1 b (fun k => z2.2.2 23 (by omega) k) (fun _ e => (d e).1))
    · have d : r.toInt = mW m σ := d
      have b : mW m z = mW m σ + 1 := b
      have hwz := z1.wf
      have hsz := z1.st
      refine ok_n (fun e => by rw [e, l_m1] at d; omega) (ok_qb hsz.r42 (ok_ck (by rw [hsz.n23]; omega) ?_))
      have l1 : LW m z (wx_I z (m + 23) (ti x2) r) := lw_j (by omega)
      have m1 : MI m 0 (wx_I z (m + 23) (ti x2) r) := mi_j z1 (by omega)
      have f23 : ∀ k, sx_I (wx_I z (m + 23) (ti x2) r) (m + 23) k = if k = ti x2 then r else sx_I z (m + 23) k := fun k => by
        rw [gI_I]
        by_cases e : k = ti x2
        · rw [if_pos ⟨rfl, e⟩, if_pos e]
        · rw [if_neg (fun q => e q.2), if_neg e]
      have fj : ∀ j k, j ≠ 23 → sx_I (wx_I z (m + 23) (ti x2) r) (m + j) k = sx_I z (m + j) k := fun j k a => by rw [gI_I, if_neg (by omega)]
      have fm : ∀ k, sx_I (wx_I z (m + 23) (ti x2) r) m k = sx_I z m k := fun k => by rw [gI_I, if_neg (by omega)]
      generalize wx_I z (m + 23) (ti x2) r = z' at l1 m1 f23 fj fm ⊢
      have eW1 : mW m z' = mW m z := by unfold mW; rw [fm]
      have hq1 : QI n0 m D z' := qi_s hqz m1 l1 (fm 45) (fun w hw => Or.inl (by rw [fj 9 w (by decide)]; exact Int.le_refl _)) (fm 43) (fun k => fj 24 k (by decide)) (by rw [nd_e (fun k => fj 7 k (by decide))]; exact Int.le_refl _)
      refine ok_m (ih n z' (x2 + 1) hq1 (by omega) (by omega) (fun k hk => ?_) (by omega) (by omega)) (fun r hr => ⟨hr.1, lw_t z2.1 (lw_t l1 hr.2)⟩)
      rw [f23, eW1, b]
      by_cases e : k = ti x2
      · rw [if_pos e]; omega
      · rw [if_neg e, z2.2.2 23 (by omega)]
        have := g2 k (by omega)
        omega
theorem ok_goesOn (hn : 1000001 ≤ n0) (hD : 0 ≤ D) (h : QI n0 m D σ) (h0 : 0 ≤ x1.toInt) (h1 : x1.toInt < mW m σ) : Ok (f_X9_goesOn n0 σ m x1) (GO n0 m D σ) := by
  have hm := h.1
  have hs := hm.st
  have hwf := hm.wf
  have t0 : ti (0 : Int32) = 0 := by decide
  unfold f_X9_goesOn
  refine ok_qb hs.r42 (ok_ck (by rw [hs.n23]; decide) ?_)
  rw [t0]
  have l1 : LW m σ (wx_I σ (m + 23) 0 x1) := lw_j (by omega)
  have m1 : MI m 0 (wx_I σ (m + 23) 0 x1) := mi_j hm (by omega)
  have f23 : sx_I (wx_I σ (m + 23) 0 x1) (m + 23) 0 = x1 := by rw [gI_I, if_pos ⟨rfl, rfl⟩]
  have fj : ∀ j k, j ≠ 23 → sx_I (wx_I σ (m + 23) 0 x1) (m + j) k = sx_I σ (m + j) k := fun j k a => by rw [gI_I, if_neg (by omega)]
  have fm : ∀ k, sx_I (wx_I σ (m + 23) 0 x1) m k = sx_I σ m k := fun k => by rw [gI_I, if_neg (by omega)]
  generalize wx_I σ (m + 23) 0 x1 = z' at l1 m1 f23 fj fm ⊢
  have eW1 : mW m z' = mW m σ := by unfold mW; rw [fm]
  have hq1 : QI n0 m D z' := qi_s h m1 l1 (fm 45) (fun w hw => Or.inl (by rw [fj 9 w (by decide)]; exact Int.le_refl _)) (fm 43) (fun k => fj 24 k (by decide)) (by rw [nd_e (fun k => fj 7 k (by decide))]; exact Int.le_refl _)
  refine ok_m (ok_goesOn_l (W := mW m σ) hn hD (by omega) 200 n0 z' 1 hq1 (by decide) (by rw [l_1]; omega) (fun k hk => ?_) (by rw [l_1]; omega) (by omega)) (fun r hr => ⟨hr.1, lw_t l1 hr.2⟩)
  rw [l_1] at hk
  have : k = 0 := by omega
  rw [this, f23]
  omega
end M18
