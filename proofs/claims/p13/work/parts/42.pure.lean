section G15
variable {c : CP} {σ : sx_T} {n0 : Nat}
theorem nT_b (hg : GI c 0 σ) : 0 ≤ nT c σ ∧ nT c σ ≤ 5640 := by
  have h8 := hg.ws
  have h9 := hg.fc
  have h7 : nE c σ ≤ (40 : Nat) * 140 := sumC_b 40 (fun i hi => (hg.ha _ (hg.kf i hi).2.1).2.2)
  obtain ⟨e, -, -, -, w4, -⟩ := hg.wl
  omega
theorem ok_get {x : Int32} (hg : GI c 0 σ) (h0 : 0 ≤ x.toInt) (h1 : x.toInt < nT c σ) : Ok (f_Jx4a65c_get_915e3 σ c.w x) (fun r => ∀ a, r = some a → sx_K σ a = 9) := by
  obtain ⟨e, w1, w2, w3, w4, w5, w6⟩ := hg.wl
  have hL : nL c σ = lenE σ e := by unfold nL; rw [w1]
  have hk : sx_K σ e = 17 := by
    rcases w2 with q | q
    · exact q
    · unfold lenE at hL
      rw [if_neg (by omega)] at hL
      omega
  have hN : nL c σ = sx_N σ e := by rw [hL]; unfold lenE; rw [if_pos hk]
  have hc : f_J15_checkIndex_7cf53 σ x (sx_I σ c.w 2) = some x := by
    unfold f_J15_checkIndex_7cf53 f_J3_checkIndex_8e157
    rw [if_neg (by rw [n_lt, l_0]; omega), if_pos (by rw [n_lt]; exact h1)]
    rfl
  unfold f_Jx4a65c_get_915e3 f_Jx4a65c_elementData_915e3
  refine ok_bre hc (ok_br (Q := fun r => ∀ a, r = some a → sx_K σ a = 9) (ok_qb w1 (ok_gk hk (ok_ck (by omega) (ok_qv (ok_some (fun a ea => ?_)))))) (fun r hr => ok_some hr))
  have h9 := hg.ww.2.1 e (ti x) a (by rw [hk]; unfold ty_r; simp) ea
  rw [hk] at h9
  exact h9
theorem ok_taskAt {x : Int32} (hg : GI c 0 σ) : Ok (f_X8_taskAt σ c.L x) (fun r => ∀ a, r = some a → sx_K σ a = 9) := by
  unfold f_X8_taskAt
  refine ok_ite (fun _ => ok_some (fun a e => by cases e)) (fun c1 => ok_qb hg.rf.2.2.2.1 (ok_bre rfl (ok_ite (fun _ => ok_some (fun a e => by cases e)) (fun c2 => ok_qb hg.rf.2.2.2.1 (ok_br (ok_get hg ?_ ?_) (fun r hr => ok_some hr))))))
  · rw [n_lt, l_0] at c1; omega
  · rw [n_le] at c2
    unfold nT
    omega
theorem ok_tDue {a : Nat} {x : Int32} (hg : GI c 0 σ) (ha : sx_K σ a = 9) : ∃ r, f_X7_isDue σ a x = some r := by
  obtain ⟨f, hf, of⟩ := gi_t hg ha
  obtain ⟨-, r, -, -, ⟨h3, -⟩, -⟩ := gi_f hg (op_k hg of)
  have k16 : Ok (fb_X7_isDue_16 σ a x) (fun _ => True) := by
    unfold fb_X7_isDue_16
    exact ok_ite (fun _ => ok_some trivial) (fun _ => ok_qb hf (ok_qb h3 (ok_ite (fun _ => ok_some trivial) (fun _ => ok_some trivial))))
  have h1 : Ok (f_X7_isDue σ a x) (fun _ => True) := by
    unfold f_X7_isDue
    exact ok_ite (fun _ => k16) (fun _ => ok_ite (fun _ => k16) (fun _ => ok_some trivial))
  obtain ⟨r, hr, -⟩ := h1
  exact ⟨r, hr⟩
theorem ok_pass {a : Nat} {x : Int32} (hg : GI c 0 σ) (ha : sx_K σ a = 9) : Ok (f_X7_pass σ a x) (fun u => UP c 0 σ u) := by
  unfold f_X7_pass
  refine ok_ite (fun _ => ok_br (ok_loseTry hg ha) (fun u hu => ok_some hu)) (fun _ => ok_some ?_)
  have u1 := gi_I (a := a) (k := 3) (x := 0) hg (Or.inr (Or.inr (Or.inl ha)))
  exact up_t u1 (gi_I (a := a) (k := 6) (x := 0) u1.1 (Or.inr (Or.inr (Or.inl ha))))
theorem ok_passTasks_l (hn : 1000001 ≤ n0) : ∀ (m n : Nat) (σ : sx_T) (x : Int32), GI c 0 σ → 0 ≤ x.toInt → 5640 - x.toInt ≤ m → m < n → Ok (fl_X8_passTasks_2 n0 n σ c.L x) (fun u => UP c 0 σ u) := by
  intro m
  induction m with
  | zero =>
    intro n σ x hg h0 h1 h2
    obtain ⟨n, rfl⟩ : ∃ k, n = k + 1 := ⟨n - 1, by omega⟩
    have hb := nT_b hg
    unfold nT at hb
    unfold fl_X8_passTasks_2
    exact ok_qb hg.rf.2.2.2.1 (ok_bre rfl (ok_p (by rw [n_le]; omega) (ok_some (up_r hg))))
  | succ m ih =>
    intro n σ x hg h0 h1 h2
    obtain ⟨n, rfl⟩ : ∃ k, n = k + 1 := ⟨n - 1, by omega⟩
    have hb := nT_b hg
    unfold nT at hb
    unfold fl_X8_passTasks_2
    refine ok_qb hg.rf.2.2.2.1 (ok_bre rfl (ok_ite (fun _ => ok_some (up_r hg)) (fun c1 => ?_)))
    rw [n_le] at c1
    have e1 : (x + 1).toInt = x.toInt + 1 := n_add1 (by omega) (by omega)
    have go : ∀ u, UP c 0 σ u → Ok (fl_X8_passTasks_2 n0 n u c.L (x + 1)) (fun v => UP c 0 σ v) := fun u hu => ok_m (ih n u (x + 1) hu.1 (by omega) (by omega) (by omega)) (fun v hv => up_t hu hv)
    refine ok_br (ok_taskAt hg) (fun r hr => ok_oc (fun _ => go σ (up_r hg)) (fun a ea => ?_))
    have ka := hr a ea
    obtain ⟨d, hd⟩ := ok_tDue (x := sx_I σ c.L 8) hg ka
    exact ok_bre hd (ok_ite (fun _ => go σ (up_r hg)) (fun _ => ok_br (ok_pass hg ka) (fun u hu => ok_qv (ok_br (ok_goTask hn hu.1 (k_u hu (by decide) ka)) (fun v hv => go v (up_t hu hv))))))
theorem ok_passTasks (hn : 1000001 ≤ n0) (hg : GI c 0 σ) : Ok (f_X8_passTasks n0 σ c.L) (fun u => UP c 0 σ u) :=
  ok_passTasks_l hn 5640 n0 σ 0 hg (by decide) (by decide) (by omega)
theorem ok_rDue {r : Nat} {x : Int32} : ∃ d, f_X5_isDue σ r x = some d := by
  have k23 : Ok (fb_X5_isDue_23 σ r x) (fun _ => True) := by
    unfold fb_X5_isDue_23
    exact ok_ite (fun _ => ok_some trivial) (fun _ => ok_some trivial)
  have h1 : Ok (f_X5_isDue σ r x) (fun _ => True) := by
    unfold f_X5_isDue
    exact ok_ite (fun _ => ok_ite (fun _ => k23) (fun _ => ok_ite (fun _ => k23) (fun _ => ok_some trivial))) (fun _ => ok_some trivial)
  obtain ⟨d, hd, -⟩ := h1
  exact ⟨d, hd⟩
theorem ok_passTimers_l (hn : 1000001 ≤ n0) : ∀ (m n : Nat) (σ : sx_T) (x : Int32), GI c 0 σ → 0 ≤ x.toInt → 40 - x.toInt ≤ m → m < n → Ok (fl_X8_passTimers_2 n0 n σ c.L x) (fun u => UP c 0 σ u) := by
  intro m
  induction m with
  | zero =>
    intro n σ x hg h0 h1 h2
    obtain ⟨n, rfl⟩ : ∃ k, n = k + 1 := ⟨n - 1, by omega⟩
    have hF := hg.fc
    unfold nF at hF
    unfold fl_X8_passTimers_2
    exact ok_p (by rw [n_le]; omega) (ok_some (up_r hg))
  | succ m ih =>
    intro n σ x hg h0 h1 h2
    obtain ⟨n, rfl⟩ : ∃ k, n = k + 1 := ⟨n - 1, by omega⟩
    have hF := hg.fc
    unfold nF at hF
    unfold fl_X8_passTimers_2
    refine ok_ite (fun _ => ok_some (up_r hg)) (fun c1 => ?_)
    rw [n_le] at c1
    have e1 : (x + 1).toInt = x.toInt + 1 := n_add1 (by omega) (by omega)
    have go : ∀ u, UP c 0 σ u → Ok (fl_X8_passTimers_2 n0 n u c.L (x + 1)) (fun v => UP c 0 σ v) := fun u hu => ok_m (ih n u (x + 1) hu.1 (by omega) (by omega) (by omega)) (fun v hv => up_t hu hv)
    refine ok_br (ok_flowAt hg) (fun r hr => ok_oc (fun _ => go σ (up_r hg)) (fun f ef => ?_))
    have of := hr f ef
    obtain ⟨h, q, -, ⟨h1', h2'⟩, ⟨h3, h4⟩, -⟩ := gi_f hg (op_k hg of)
    obtain ⟨d, hd⟩ := ok_rDue (σ := σ) (r := q) (x := sx_I σ c.L 8)
    exact ok_qb h3 (ok_bre hd (ok_ite (fun _ => go σ (up_r hg)) (fun _ => ok_qb h1' (ok_br (ok_add hg (op_h hg of h1') (fun e => absurd e (by decide))) (fun u hu => ok_br (ok_goOn hn hu.1.1 (fun b eb => by cases eb; exact op_u hu.1 of)) (fun v hv => go v (up_t hu.1 hv)))))))
theorem ok_passTimers (hn : 1000001 ≤ n0) (hg : GI c 0 σ) : Ok (f_X8_passTimers n0 σ c.L) (fun u => UP c 0 σ u) :=
  ok_passTimers_l hn 40 n0 σ 0 hg (by decide) (by decide) (by omega)
end G15
