section M23
variable {m w i : Nat} {σ v u β : sx_T} {s D : Int} {n0 : Nat} {x1 x2 x3 x4 x5 : Int32}
theorem ok_workflowsM (h : MG m σ) : Ok (f_X9_workflows σ m) (M2 m σ) := ok_some (mu_f (k := 0) (x := 0) h (by decide))
theorem ok_tasksM (h : MG m σ) : Ok (f_X9_tasks σ m) (M2 m σ) := ok_some (mu_f (k := 0) (x := 0) h (by decide))
theorem ok_nowM (h : MG m σ) : Ok (f_X9_now σ m) (fun r => r.1 = sx_I σ m 1 ∧ MU m σ r.2) := ok_some ⟨rfl, mu_f (k := 0) (x := 0) h (by decide)⟩
theorem ok_stateM (hn : 1000001 ≤ n0) (h : MG m σ) : Ok (f_X9_state n0 σ m x1) (M2 m σ) := by
  unfold f_X9_state
  refine ok_br ok_isWorkflow (fun r2 h2 => ok_bd ok_needs1 (fun r8 u9 h8 => ?_))
  obtain ⟨⟨y, e⟩, h9⟩ := h8
  have e : u9 = wx_I σ m 0 y := e
  obtain ⟨a1, a2, a3, a4⟩ := mg_0 (x := y) h (k := 0) (by decide)
  rw [e]
  refine ok_ite (fun _ => ok_some a2) (fun c => ?_)
  have h2 := h2 (h9 c) h.1.wf.1
  generalize wx_I σ m 0 y = z at a1 a2 a3 a4 ⊢
  have hs := a1.1.st
  have hwf := a1.1.wf
  have t1 := ti_of h2.1
  have b41 : 0 ≤ x1.toInt ∧ x1.toInt < ((41 : Nat) : Int) := by omega
  refine ok_qb hs.r10 (ok_ck (by rw [hs.n7]; exact b41) (ok_ite (fun _ => ?_) (fun _ => ok_qb hs.r10 (ok_ck (by rw [hs.n7]; exact b41) (ok_some a2)))))
  refine ok_bd (ok_isFit hn a1.1 h2.1 (by omega) (a1.2 _ (by omega))) (fun r k hk => ?_)
  have q : MU m σ k := mu_t a2 (mu_l (fi_mg a1 hk) hk.2.1.1)
  exact ok_ite (fun _ => ok_some q) (fun _ => ok_some q)
theorem ok_told41 (hn : 1000001 ≤ n0) (h : MG m σ) {y0 y1 y2 : Int32} (hy : y2 ≠ 0 → 0 ≤ x1.toInt ∧ x1.toInt < mW m σ) : Ok (fb_X9_told_41 n0 σ m x1 x2 y0 y1 y2) (M2 m σ) := by
  unfold fb_X9_told_41
  refine ok_bd ok_needs3 (fun r8 u9 h8 => ?_)
  obtain ⟨⟨y, e⟩, h9⟩ := h8
  have e : u9 = wx_I σ m 0 y := e
  obtain ⟨a1, a2, a3, a4⟩ := mg_0 (x := y) h (k := 0) (by decide)
  rw [e]
  refine ok_ite (fun _ => ok_some a2) (fun c => ?_)
  have h2 := hy (h9 c).1
  generalize wx_I σ m 0 y = z at a1 a2 a3 a4 ⊢
  have hs := a1.1.st
  have hwf := a1.1.wf
  have b41 : 0 ≤ x1.toInt ∧ x1.toInt < ((41 : Nat) : Int) := by omega
  have q : ∀ r : Int32, Ok (some (r, z)) (M2 m σ) := fun r => ok_some a2
  refine ok_ite (fun _ => ok_qb hs.r7 (ok_ck (by rw [hs.n4]; exact b41) (q _))) (fun _ => ok_ite (fun _ => q _) (fun _ => ok_ite (fun _ => q _) (fun _ => ok_ite (fun _ => q _) (fun _ => ok_ite (fun _ => ok_ite (fun _ => ok_qb hs.r13 (ok_ck (by rw [hs.n10]; exact b41) (q _))) (fun _ => ok_ite (fun _ => ok_qb hs.r13 (ok_ck (by rw [hs.n10]; exact b41) (q _))) (fun _ => ok_ite (fun _ => q _) (fun _ => q _)))) (fun _ => ok_ite (fun _ => q _) (fun _ => ok_ite (fun _ => ok_ite (fun _ => q _) (fun _ => q _)) (fun _ => ok_ite (fun _ => ok_ite (fun _ => q _) (fun _ => q _)) (fun _ => q _))))))))
theorem ok_told (hn : 1000001 ≤ n0) (h : MG m σ) : Ok (f_X9_told n0 σ m x1 x2) (M2 m σ) := by
  unfold f_X9_told
  refine ok_br ok_isWorkflow (fun r2 h2 => ok_br ok_in (fun r5 _ => ?_))
  have hy : ∀ z, mW m z = mW m σ → r2 ≠ 0 → 0 ≤ x1.toInt ∧ x1.toInt < mW m z := fun z e q => by rw [e]; exact h2 q h.1.wf.1
  unfold fb_X9_told_40
  refine ok_ite (fun _ => ok_told41 hn h (hy σ rfl)) (fun c => ok_ite (fun _ => ok_told41 hn h (hy σ rfl)) (fun _ => ?_))
  have h3 := hy σ rfl c
  have hwf := h.1.wf
  have t1 := ti_of h3.1
  refine ok_bd (ok_isFit hn h.1 h3.1 (by omega) (h.2 _ (by omega))) (fun r k hk => ?_)
  have q : MU m σ k := mu_l (fi_mg h hk) hk.2.1.1
  have eW : mW m k = mW m σ := hk.2.2.1
  exact ok_ite (fun _ => ok_m (ok_told41 hn q.1 (hy k eW)) (fun r hr => mu_t q hr)) (fun _ => ok_m (ok_told41 hn q.1 (hy k eW)) (fun r hr => mu_t q hr))
theorem ok_aboutM (hn : 1000001 ≤ n0) (h : MG m σ) : Ok (f_X9_about n0 σ m x1 x2) (M2 m σ) := by
  unfold f_X9_about
  exact ok_bd (ok_told hn h) (fun r z hz => ok_some hz)
theorem ok_aboutAnewM (hn : 1000001 ≤ n0) (h : MG m σ) : Ok (f_X9_aboutAnew n0 σ m x1 x2) (M2 m σ) := by
  unfold f_X9_aboutAnew
  exact ok_bd (ok_told hn h) (fun r z hz => ok_some hz)
theorem ok_parentM (h : MG m σ) : Ok (f_X9_parent σ m x1) (M2 m σ) := by
  unfold f_X9_parent
  refine ok_br ok_isWorkflow (fun r2 h2 => ok_bd ok_needs1 (fun r8 u9 h8 => ?_))
  obtain ⟨⟨y, e⟩, h9⟩ := h8
  have e : u9 = wx_I σ m 0 y := e
  obtain ⟨a1, a2, a3, a4⟩ := mg_0 (x := y) h (k := 0) (by decide)
  rw [e]
  refine ok_ite (fun _ => ok_some a2) (fun c => ?_)
  have h2 := h2 (h9 c) h.1.wf.1
  have hs := a1.1.st
  have hwf := h.1.wf
  exact ok_qb hs.r8 (ok_ck (by rw [hs.n5]; omega) (ok_some a2))
theorem ok_eventsM (h : MG m σ) : Ok (f_X9_events σ m x1) (M2 m σ) := by
  unfold f_X9_events
  refine ok_br ok_isWorkflow (fun r2 h2 => ok_bd ok_needs1 (fun r8 u9 h8 => ?_))
  obtain ⟨⟨y, e⟩, h9⟩ := h8
  have e : u9 = wx_I σ m 0 y := e
  obtain ⟨a1, a2, a3, a4⟩ := mg_0 (x := y) h (k := 0) (by decide)
  rw [e]
  refine ok_ite (fun _ => ok_some a2) (fun c => ?_)
  have h2 := h2 (h9 c) h.1.wf.1
  have hs := a1.1.st
  have hwf := h.1.wf
  exact ok_qb hs.r11 (ok_ck (by rw [hs.n8]; omega) (ok_some a2))
theorem ok_isEventM (h : MG m σ) : Ok (f_X9_isEvent σ m x1 x2) (fun r => r ≠ 0 → 0 ≤ (160 * x1 + x2).toInt ∧ (160 * x1 + x2).toInt < 6560) := by
  unfold f_X9_isEvent
  refine ok_br ok_isWorkflow (fun r2 h2 => ok_ite (fun _ => ok_some (fun e => absurd rfl e)) (fun c => ?_))
  have h2 := h2 c h.1.wf.1
  have hs := h.1.st
  have hwf := h.1.wf
  have t1 := ti_of h2.1
  have hE := h.1.eb (ti x1) (by omega)
  unfold mE at hE
  refine ok_qb hs.r11 (ok_ck (by rw [hs.n8]; omega) (ok_br ok_in (fun r3 h3 => ok_ite (fun _ => ok_some (fun e => absurd rfl e)) (fun c3 => ok_some (fun _ => ?_)))))
  have h3 := h3 c3
  rw [n_sub1 (by omega), l_0] at h3
  have i1 := n_160 (w := x1) (a := x2) h2.1 (by omega) (by omega) (by omega)
  omega
theorem ok_kindM (h : MG m σ) : Ok (f_X9_kind σ m x1 x2) (M2 m σ) := by
  unfold f_X9_kind
  refine ok_br (ok_isEventM h) (fun r2 h2 => ok_bd ok_needs1 (fun r8 u9 h8 => ?_))
  obtain ⟨⟨y, e⟩, h9⟩ := h8
  have e : u9 = wx_I σ m 0 y := e
  obtain ⟨a1, a2, a3, a4⟩ := mg_0 (x := y) h (k := 0) (by decide)
  rw [e]
  refine ok_ite (fun _ => ok_some a2) (fun c => ?_)
  have h2 := h2 (h9 c)
  have hs := a1.1.st
  exact ok_qb hs.r14 (ok_ck (by rw [hs.n11]; omega) (ok_some a2))
theorem ok_numberM (h : MG m σ) : Ok (f_X9_number σ m x1 x2) (fun r => MU m σ r.2) := by
  unfold f_X9_number
  refine ok_br (ok_isEventM h) (fun r2 h2 => ok_bd ok_needs1 (fun r8 u9 h8 => ?_))
  obtain ⟨⟨y, e⟩, h9⟩ := h8
  have e : u9 = wx_I σ m 0 y := e
  obtain ⟨a1, a2, a3, a4⟩ := mg_0 (x := y) h (k := 0) (by decide)
  rw [e]
  refine ok_ite (fun _ => ok_some a2) (fun c => ?_)
  have h2 := h2 (h9 c)
  have hs := a1.1.st
  exact ok_qb hs.r15 (ok_ck (by rw [hs.n12]; omega) (ok_some a2))
theorem ok_taskM (h : MG m σ) : Ok (f_X9_task σ m x1 x2) (M2 m σ) := by
  have hb := mt_b h.1
  have hk := h.1.tk
  have hin : Ok (f_X9_in σ x1 0 (sx_I σ m 16 - 1)) (fun r => r ≠ 0 → 0 ≤ x1.toInt ∧ x1.toInt < 2100) := ok_m ok_in (fun r hr e => by
    have := hr e
    rw [n_sub1 (by unfold mT at hk; omega), l_0] at this
    unfold mT at hb
    omega)
  unfold f_X9_task
  refine ok_br hin (fun r2 h2 => ok_br ok_in (fun r5 _ => ok_bd ok_needs2 (fun r8 u9 h8 => ?_)))
  obtain ⟨⟨y, e⟩, h9⟩ := h8
  have e : u9 = wx_I σ m 0 y := e
  obtain ⟨a1, a2, a3, a4⟩ := mg_0 (x := y) h (k := 0) (by decide)
  rw [e]
  refine ok_ite (fun _ => ok_some a2) (fun c => ?_)
  have h2 := h2 (h9 c).1
  generalize wx_I σ m 0 y = z at a1 a2 a3 a4 ⊢
  have hs := a1.1.st
  have q : ∀ r : Int32, Ok (some (r, z)) (M2 m σ) := fun r => ok_some a2
  exact ok_ite (fun _ => ok_qb hs.r17 (ok_ck (by rw [hs.n13]; omega) (q _))) (fun _ => ok_ite (fun _ => ok_qb hs.r18 (ok_ck (by rw [hs.n14]; omega) (q _))) (fun _ => ok_ite (fun _ => ok_qb hs.r19 (ok_ck (by rw [hs.n15]; omega) (q _))) (fun _ => ok_ite (fun _ => ok_qb hs.r20 (ok_ck (by rw [hs.n16]; omega) (q _))) (fun _ => ok_ite (fun _ => ok_qb hs.r21 (ok_ck (by rw [hs.n17]; omega) (q _))) (fun _ => ok_qb hs.r22 (ok_ck (by rw [hs.n18]; omega) (q _)))))))
end M23
