section G21
variable {c : CP} {σ : sx_T} {n0 : Nat}
theorem ok_state {x : Int32} (hg : GI c 0 σ) : Ok (f_X8_state σ c.L x) (fun r => UP c 0 σ r.2) := by
  unfold f_X8_state
  refine ok_br (ok_flowAt hg) (fun r hr => ok_oc (fun _ => ok_some (up_r hg)) (fun f ef => ?_))
  have kf := op_k hg (hr f ef)
  obtain ⟨h, q, -, ⟨h1, h2⟩, ⟨q1, q2⟩, -⟩ := gi_f hg kf
  obtain ⟨e, he⟩ := ok_hasEnded hg kf
  obtain ⟨w, hw⟩ := ok_ending hg h2
  exact ok_bre he (ok_ite (fun _ => ok_qb q1 (ok_ite (fun _ => ok_some (up_r hg)) (fun _ => ok_some (up_r hg)))) (fun _ => ok_qb h1 (ok_bre hw (ok_some (up_r hg)))))
theorem ok_waitedNumber {t : Nat} : ∃ r, f_X5_waitedNumber σ t = some r := by
  have k : Ok (f_X5_waitedNumber σ t) (fun _ => True) := by
    unfold f_X5_waitedNumber
    exact ok_ite (fun _ => ok_some trivial) (fun _ => ok_ite (fun _ => ok_some trivial) (fun _ => ok_ite (fun _ => ok_some trivial) (fun _ => ok_ite (fun _ => ok_some trivial) (fun _ => ok_some trivial))))
  obtain ⟨r, h, -⟩ := k
  exact ⟨r, h⟩
theorem ok_fact {f t : Nat} {x : Int32} (hg : GI c 0 σ) (hf : sx_K σ f = 2) (ht : sx_K σ t = 7) : ∃ r, f_X8_fact σ c.L (some f) (some t) x = some r := by
  obtain ⟨-, -, d, -, -, d1, d2⟩ := gi_f hg hf
  obtain ⟨p, p1, -⟩ := ww_r hg.ww (k := 0) ht rfl rfl (by decide)
  obtain ⟨q, q1, -⟩ := ww_r hg.ww (k := 1) ht rfl rfl (by decide)
  obtain ⟨w, hw⟩ := ok_waitedNumber (σ := σ) (t := t)
  obtain ⟨a, ha⟩ := ok_wfa (σ := σ) (r := t)
  have k86 : ∀ v, Ok (fb_X8_fact_86 σ (some t) v) (fun _ => True) := fun v => by
    unfold fb_X8_fact_86
    exact ok_oc (fun _ => ok_bq rfl (ok_bre hw (ok_some trivial))) (fun _ _ => ok_some trivial)
  have k : Ok (f_X8_fact σ c.L (some f) (some t) x) (fun _ => True) := by
    unfold f_X8_fact
    refine ok_ite (fun _ => ok_bq rfl (ok_qb d1 (ok_some trivial))) (fun _ => ?_)
    refine ok_ite (fun _ => ok_bq rfl (ok_some trivial)) (fun _ => ?_)
    refine ok_ite (fun _ => ok_bq rfl (ok_some trivial)) (fun _ => ?_)
    refine ok_ite (fun _ => ok_bq rfl (ok_some trivial)) (fun _ => ?_)
    refine ok_ite (fun _ => ok_bq rfl (ok_bre ha (ok_ite (fun _ => k86 _) (fun _ => ok_bq rfl (ok_qv (k86 _)))))) (fun _ => ?_)
    refine ok_ite (fun _ => ok_bq rfl (ok_qb p1 (ok_bre rfl (ok_some trivial)))) (fun _ => ?_)
    refine ok_ite (fun _ => ok_bq rfl (ok_ite (fun _ => ok_some trivial) (fun _ => ok_some trivial))) (fun _ => ?_)
    refine ok_ite (fun _ => ok_bq rfl (ok_ite (fun _ => ok_some trivial) (fun _ => ok_some trivial))) (fun _ => ?_)
    exact ok_bq rfl (ok_qb q1 (ok_bre rfl (ok_some trivial)))
  obtain ⟨r, h, -⟩ := k
  exact ⟨r, h⟩
theorem ok_about58 {f t : Nat} {x : Int32} (hg : GI c 0 σ) (hf : sx_K σ f = 2) (ht : sx_K σ t = 7) : Ok (fb_X8_about_58 n0 σ c.L x (some f) (some t)) (fun r => UP c 0 σ r.2) := by
  obtain ⟨r, hr⟩ := ok_fact (x := x) hg hf ht
  unfold fb_X8_about_58
  exact ok_bq rfl (ok_ite (fun _ => ok_bre hr (ok_some (up_r hg))) (fun _ => ok_some (up_r hg)))
theorem ok_about {x1 x2 : Int32} (hn : 1000001 ≤ n0) (hg : GI c 0 σ) : Ok (f_X8_about n0 σ c.L x1 x2) (fun r => UP c 0 σ r.2) := by
  obtain ⟨b, hb⟩ := ok_isBelow (σ := σ) (x := x2) (y := 9)
  unfold f_X8_about
  refine ok_br (ok_flowAt hg) (fun r hr => ok_oc (fun _ => ok_some (up_r hg)) (fun f ef => ok_bre hb (ok_ite (fun _ => ok_some (up_r hg)) (fun _ => ?_))))
  have kf := op_k hg (hr f ef)
  obtain ⟨h, q, -, ⟨h1, h2⟩, ⟨q1, q2⟩, -⟩ := gi_f hg kf
  obtain ⟨e, he⟩ := ok_hasEnded hg kf
  refine ok_bre he (ok_ite (fun _ => ok_qv (by rw [q1]; exact ok_about58 hg kf q2)) (fun _ => ok_bd (ok_replayed hn hg kf) (fun r u hu => ?_)))
  obtain ⟨u1, w, ew, kw⟩ := hu
  have ew : r = some w := ew
  rw [ew]
  exact ok_m (ok_about58 u1.1 (k_u u1 (by decide) kf) kw) (fun v hv => up_t u1 hv)
theorem ok_aboutAnew {x1 x2 : Int32} (hn : 1000001 ≤ n0) (hg : GI c 0 σ) : Ok (f_X8_aboutAnew n0 σ c.L x1 x2) (fun r => UP c 0 σ r.2) := by
  obtain ⟨b, hb⟩ := ok_isBelow (σ := σ) (x := x2) (y := 9)
  unfold f_X8_aboutAnew
  refine ok_br (ok_flowAt hg) (fun r hr => ok_oc (fun _ => ok_some (up_r hg)) (fun f ef => ok_bre hb (ok_ite (fun _ => ok_some (up_r hg)) (fun _ => ?_))))
  have kf := op_k hg (hr f ef)
  refine ok_bd (ok_replayed hn hg kf) (fun r u hu => ?_)
  obtain ⟨u1, w, ew, kw⟩ := hu
  have ew : r = some w := ew
  rw [ew]
  obtain ⟨d, hd⟩ := ok_fact (x := x2) u1.1 (k_u u1 (by decide) kf) kw
  exact ok_bq rfl (ok_ite (fun _ => ok_bre hd (ok_some u1)) (fun _ => ok_some u1))
theorem ok_kindX {x1 x2 : Int32} (hg : GI c 0 σ) : Ok (f_X8_kind σ c.L x1 x2) (fun r => UP c 0 σ r.2) := by
  have k24 : Ok (fb_X8_kind_24 σ) (fun r => UP c 0 σ r.2) := ok_some (up_r hg)
  unfold f_X8_kind
  refine ok_br (ok_flowAt hg) (fun r hr => ok_oc (fun _ => k24) (fun f ef => ?_))
  obtain ⟨h, -, -, ⟨h1, h2⟩, -⟩ := gi_f hg (op_k hg (hr f ef))
  obtain ⟨b, hb⟩ := ok_isBelow (σ := σ) (x := x2) (y := sx_I σ h 2)
  obtain ⟨y, hy, -⟩ := ok_kB (x := x2) hg h2
  exact ok_qb h1 (ok_bre rfl (ok_bre hb (ok_ite (fun _ => k24) (fun _ => ok_qb h1 (ok_bre hy (ok_some (up_r hg)))))))
theorem ok_numberX {x1 x2 : Int32} (hg : GI c 0 σ) : Ok (f_X8_number σ c.L x1 x2) (fun r => UP c 0 σ r.2) := by
  have k24 : Ok (fb_X8_number_24 σ) (fun r => UP c 0 σ r.2) := ok_some (up_r hg)
  unfold f_X8_number
  refine ok_br (ok_flowAt hg) (fun r hr => ok_oc (fun _ => k24) (fun f ef => ?_))
  obtain ⟨h, -, -, ⟨h1, h2⟩, -⟩ := gi_f hg (op_k hg (hr f ef))
  obtain ⟨b, hb⟩ := ok_isBelow (σ := σ) (x := x2) (y := sx_I σ h 2)
  obtain ⟨y, hy⟩ := ok_numberAt (x := x2) hg.ww h2
  exact ok_qb h1 (ok_bre rfl (ok_bre hb (ok_ite (fun _ => k24) (fun _ => ok_qb h1 (ok_bre hy (ok_some (up_r hg)))))))
theorem ok_taskX {x1 x2 : Int32} (hg : GI c 0 σ) : Ok (f_X8_task σ c.L x1 x2) (fun r => UP c 0 σ r.2) := by
  obtain ⟨b, hb⟩ := ok_isBelow (σ := σ) (x := x2) (y := 6)
  unfold f_X8_task
  refine ok_br (ok_taskAt hg) (fun r hr => ok_oc (fun _ => ok_some (up_r hg)) (fun a ea => ok_bre hb (ok_ite (fun _ => ok_some (up_r hg)) (fun _ => ?_))))
  obtain ⟨f, hf, -⟩ := ww_r hg.ww (k := 1) (hr a ea) rfl rfl (by decide)
  have k : Ok (f_X7_fact σ a x2) (fun _ => True) := by
    unfold f_X7_fact
    refine ok_ite (fun _ => ok_qb hf (ok_some trivial)) (fun _ => ?_)
    exact ok_ite (fun _ => ok_some trivial) (fun _ => ok_ite (fun _ => ok_some trivial) (fun _ => ok_ite (fun _ => ok_some trivial) (fun _ => ok_ite (fun _ => ok_some trivial) (fun _ => ok_some trivial))))
  exact ok_br k (fun _ _ => ok_some (up_r hg))
theorem ok_tasksX (hg : GI c 0 σ) : ∃ r, f_X8_tasks σ c.L = some r := by
  have k : Ok (f_X8_tasks σ c.L) (fun _ => True) := by
    unfold f_X8_tasks
    exact ok_qb hg.rf.2.2.2.1 (ok_bre rfl (ok_some trivial))
  obtain ⟨r, h, -⟩ := k
  exact ⟨r, h⟩
end G21
