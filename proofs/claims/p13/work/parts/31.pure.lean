section G4
variable {c : CP} {s : Int} {σ : sx_T} {t n0 : Nat}
theorem op_k {f : Nat} (hg : GI c s σ) (h : OP c σ f) : sx_K σ f = 2 := by
  obtain ⟨j, h1, -, rfl⟩ := h
  exact (hg.kf j h1).1
theorem op_u {f : Nat} {s' : Int} {u : sx_T} (hu : UP c s' σ u) (h : OP c σ f) : OP c u f := op_m hu.2.1.fm h
theorem k_u {a kd : Nat} {s' : Int} {u : sx_T} (hu : UP c s' σ u) (h0 : kd ≠ 0) (h : sx_K σ a = kd) : sx_K u a = kd := (hu.2.1.kk a (by rw [h]; exact h0)).1.trans h
/-- what a workflow has -/
theorem gi_f {f : Nat} (hg : GI c s σ) (hf : sx_K σ f = 2) : ∃ h r d, (sx_R σ f 1 = some h ∧ sx_K σ h = 3) ∧ (sx_R σ f 2 = some r ∧ sx_K σ r = 7) ∧ (sx_R σ f 3 = some d ∧ sx_K σ d = 6) := by
  obtain ⟨h, hh, kh, -⟩ := ww_r hg.ww (k := 1) hf rfl rfl (by decide)
  obtain ⟨r, hr, kr, -⟩ := ww_r hg.ww (k := 2) hf rfl rfl (by decide)
  obtain ⟨d, hd, kd, -⟩ := ww_r hg.ww (k := 3) hf rfl rfl (by decide)
  exact ⟨h, r, d, ⟨hh, kh⟩, ⟨hr, kr⟩, hd, kd⟩
theorem op_h {f h : Nat} (hg : GI c s σ) (ho : OP c σ f) (hh : sx_R σ f 1 = some h) : HX c σ h := by
  obtain ⟨j, h1, h2, rfl⟩ := ho
  have h9 := (hg.kf j h1).2.2.1
  rw [hh] at h9
  cases h9
  exact ⟨j, h1, h2, rfl⟩
theorem ok_flowAt {x : Int32} (hg : GI c s σ) : Ok (f_X8_flowAt σ c.L x) (fun r => ∀ f, r = some f → OP c σ f) := by
  have e40 : (Int32.ofNat 40).toInt = 40 := by decide
  unfold f_X8_flowAt
  refine ok_ite (fun _ => ok_some (fun f e => by cases e)) (fun c1 => ok_ite (fun _ => ok_some (fun f e => by cases e)) (fun c2 => ok_qb hg.rf.1 ?_))
  rw [hg.rf.2.2.1]
  refine ok_ite (fun _ => ok_some (fun f e => by cases e)) (fun c3 => ok_qb hg.rf.1 ?_)
  rw [hg.rf.2.2.1]
  rw [n_lt, l_0] at c1
  rw [n_le] at c2
  rw [n_le, e40] at c3
  have ht := ti_of (x := x) (by omega)
  refine ok_ck (by omega) (ok_qv (ok_some (fun f e => ?_)))
  rw [(hg.kf (ti x) (by omega)).2.2.2] at e
  cases e
  exact ⟨ti x, by omega, by unfold nF; omega, rfl⟩
theorem ok_programAt {x : Int32} (hg : GI c s σ) : Ok (f_X8_programAt σ c.L x) (fun r => ∀ d, r = some d → sx_K σ d = 6) := by
  obtain ⟨a, ha, hka, hna⟩ := ww_r hg.ww (k := 0) hg.kL rfl rfl (by decide)
  have hka' : sx_K σ a = 16 := hka
  unfold f_X8_programAt
  refine ok_ite (fun _ => ok_some (fun f e => by cases e)) (fun c1 => ok_qb ha (ok_ite (fun _ => ok_some (fun f e => by cases e)) (fun c3 => ok_qb ha (ok_ck ?_ (ok_qv (ok_some (fun f e => ?_)))))))
  · rw [n_lt, l_0] at c1
    rw [n_le, n_ofNat hna] at c3
    omega
  · have h9 := hg.ww.2.1 a (ti x) f (by rw [hka']; exact (by decide : (6 : Nat) ≠ 0)) e
    rw [hka'] at h9
    exact h9
theorem ok_ending {h : Nat} (hg : GI c s σ) (hh : sx_K σ h = 3) : ∃ r, f_X1_ending σ h = some r := by
  unfold f_X1_ending
  obtain ⟨a, r2, -, h2, -⟩ := ok_kindAt (x := sx_I σ h 2 - 1) hg.ww hh
  obtain ⟨r6, h6⟩ := ok_numberAt (x := sx_I σ h 2 - 1) hg.ww hh
  obtain ⟨r9, h9⟩ := ok_fmod (σ := σ) (x := r6)
  rw [h2]
  show ∃ r, (if r2 = 13 then br (f_X1_numberAt σ h (sx_I σ h 2 - 1)) fun r6 => br (f_J9_floorMod_f86c9 σ r6 10) fun r9 => some r9.toInt32 else some 0) = some r
  rw [h6]
  show ∃ r, (if r2 = 13 then br (f_J9_floorMod_f86c9 σ r6 10) fun r9 => some r9.toInt32 else some 0) = some r
  rw [h9]
  by_cases e : r2 = 13
  · rw [if_pos e]; exact ⟨_, rfl⟩
  · rw [if_neg e]; exact ⟨_, rfl⟩
theorem ok_hasEnded {f : Nat} (hg : GI c s σ) (hf : sx_K σ f = 2) : ∃ r, f_X0_hasEnded σ f = some r := by
  obtain ⟨h, r, d, ⟨h1, h2⟩, -⟩ := gi_f hg hf
  obtain ⟨e, he⟩ := ok_ending hg h2
  unfold f_X0_hasEnded
  rw [h1]
  show ∃ r, (br (f_X1_ending σ h) fun r4 => if r4 = 0 then some (0 : Int32) else some 1) = some r
  rw [he]
  show ∃ r, (if e = 0 then some (0 : Int32) else some 1) = some r
  by_cases q : e = 0
  · rw [if_pos q]; exact ⟨_, rfl⟩
  · rw [if_neg q]; exact ⟨_, rfl⟩
theorem hg_c {h : Nat} (hg : GI c s σ) (hh : sx_K σ h = 3) : (sx_I σ h 2).toInt ≤ 140 := (hg.ha h hh).2.2
theorem ok_findAgain {f : Nat} (hn : 1000001 ≤ n0) (hg : GI c s σ) (hf : sx_K σ f = 2) : Ok (f_X0_findAgain n0 σ f) (fun u => UP c s σ u) := by
  obtain ⟨h, r, d, ⟨h1, h2⟩, ⟨h3, h4⟩, h5, h6⟩ := gi_f hg hf
  unfold f_X0_findAgain
  refine ok_qv (ok_qv (ok_qv ?_))
  rw [h1, h3, h5]
  refine ok_bq rfl (ok_br (ok_begin hg h4 h6 h2) (fun u hu => ?_))
  have hR : ∀ k, sx_R u f k = sx_R σ f k := fun k => hu.2.2.1 f k (by rw [hf]; decide)
  refine ok_qv (ok_qv ?_)
  rw [hR, hR, h1, h3]
  refine ok_bq rfl (ok_bre rfl (ok_bq rfl (ok_br (ok_advance hn hu.1.1 (k_u hu.1 (by decide) h4) (hg_c hu.1.1 (k_u hu.1 (by decide) h2))) (fun v hv => ok_some (up_t hu.1 hv.1)))))
theorem ok_crash_l (hn : 1000001 ≤ n0) : ∀ (m n : Nat) (σ : sx_T) (x1 x2 : Int32), GI c s σ → 0 ≤ x2.toInt → 40 - x2.toInt ≤ m → m < n → Ok (fl_X8_crash_4 n0 n σ c.L x1 x2) (fun r => UP c s σ r.2) := by
  intro m
  induction m with
  | zero =>
    intro n σ x1 x2 hg h0 h1 h2
    obtain ⟨n, rfl⟩ : ∃ k, n = k + 1 := ⟨n - 1, by omega⟩
    have := hg.fc
    unfold fl_X8_crash_4
    exact ok_p (by rw [n_le]; unfold nF at this; omega) (ok_some (up_r hg))
  | succ m ih =>
    intro n σ x1 x2 hg h0 h1 h2
    obtain ⟨n, rfl⟩ : ∃ k, n = k + 1 := ⟨n - 1, by omega⟩
    have hF := hg.fc
    unfold nF at hF
    unfold fl_X8_crash_4
    refine ok_ite (fun _ => ok_some (up_r hg)) (fun c1 => ?_)
    rw [n_le] at c1
    have e1 : (x2 + 1).toInt = x2.toInt + 1 := n_add1 (by omega) (by omega)
    have go : ∀ u y, UP c s σ u → Ok (fl_X8_crash_4 n0 n u c.L y (x2 + 1)) (fun r => UP c s σ r.2) := fun u y hu => ok_m (ih n u y (x2 + 1) hu.1 (by omega) (by omega) (by omega)) (fun r hr => up_t hu hr)
    refine ok_br (ok_flowAt hg) (fun r hr => ok_oc (fun _ => go σ _ (up_r hg)) (fun f e => ?_))
    have hk := op_k hg (hr f e)
    obtain ⟨e, he⟩ := ok_hasEnded hg hk
    exact ok_bre he (ok_ite (fun _ => ok_br (ok_findAgain hn hg hk) (fun u hu => go u _ hu)) (fun _ => go σ _ (up_r hg)))
theorem ok_crash (hn : 1000001 ≤ n0) (hg : GI c s σ) : Ok (f_X8_crash n0 σ c.L) (fun r => UP c s σ r.2) :=
  ok_crash_l hn 40 n0 σ 0 0 hg (by decide) (by decide) (by omega)
theorem ok_movingTask {x y : Int32} (hg : GI c s σ) : Ok (f_X8_movingTask σ c.L x y) (fun r => ∀ a, r = some a → sx_K σ a = 9) := by
  unfold f_X8_movingTask
  refine ok_br (ok_flowAt hg) (fun r hr => ok_oc (fun _ => ok_some (fun f e => by cases e)) (fun f e => ?_))
  have hk := op_k hg (hr f e)
  obtain ⟨h, r, d, -, ⟨h3, h4⟩, -⟩ := gi_f hg hk
  refine ok_qb h3 (ok_ite (fun _ => ok_qv (ok_oc (fun _ => ok_some (fun f e => by cases e)) (fun a ha => ok_ite (fun _ => ok_some (fun b e => ?_)) (fun _ => ok_some (fun f e => by cases e))))) (fun _ => ok_some (fun f e => by cases e)))
  cases e
  have h9 := hg.ww.2.1 f 7 a (by rw [hk]; decide) ha
  rw [hk] at h9
  exact h9
/-- what a task has -/
theorem gi_t {a : Nat} (hg : GI c s σ) (hk : sx_K σ a = 9) : ∃ f, sx_R σ a 1 = some f ∧ OP c σ f := by
  obtain ⟨f, hf, -⟩ := ww_r hg.ww (k := 1) hk rfl rfl (by decide)
  exact ⟨f, hf, hg.ta a f hk hf⟩
theorem ok_runningTask_l {x : Int32} (hg : GI c s σ) : ∀ (m n : Nat) (x2 : Int32), 0 ≤ x2.toInt → 40 - x2.toInt ≤ m → m < n → Ok (fl_X8_runningTask_2 n0 n σ c.L x x2) (fun r => ∀ a, r = some a → sx_K σ a = 9) := by
  have hF := hg.fc
  unfold nF at hF
  intro m
  induction m with
  | zero =>
    intro n x2 h0 h1 h2
    obtain ⟨n, rfl⟩ : ∃ k, n = k + 1 := ⟨n - 1, by omega⟩
    unfold fl_X8_runningTask_2
    exact ok_p (by rw [n_le]; omega) (ok_some (fun f e => by cases e))
  | succ m ih =>
    intro n x2 h0 h1 h2
    obtain ⟨n, rfl⟩ : ∃ k, n = k + 1 := ⟨n - 1, by omega⟩
    unfold fl_X8_runningTask_2
    refine ok_ite (fun _ => ok_some (fun f e => by cases e)) (fun c1 => ?_)
    rw [n_le] at c1
    have e1 : (x2 + 1).toInt = x2.toInt + 1 := n_add1 (by omega) (by omega)
    have go := ih n (x2 + 1) (by omega) (by omega) (by omega)
    exact ok_br (ok_movingTask hg) (fun r hr => ok_oc (fun _ => go) (fun a e => ok_ite (fun _ => ok_some (fun b eb => by cases eb; exact hr a e)) (fun _ => go)))
theorem ok_runningTask {x : Int32} (hn : 1000001 ≤ n0) (hg : GI c s σ) : Ok (f_X8_runningTask n0 σ c.L x) (fun r => ∀ a, r = some a → sx_K σ a = 9) :=
  ok_runningTask_l hg 40 n0 0 (by decide) (by decide) (by omega)
end G4
