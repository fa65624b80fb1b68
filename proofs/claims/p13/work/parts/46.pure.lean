section G19
variable {c : CP} {σ : sx_T} {n0 : Nat}
theorem ok_parent {x : Int32} (hg : GI c 0 σ) : Ok (f_X8_parent σ c.L x) (fun r => UP c 0 σ r.2) := by
  unfold f_X8_parent
  exact ok_br (ok_flowAt hg) (fun r hr => ok_oc (fun _ => ok_some (up_r hg)) (fun f ef => ok_some (up_r hg)))
theorem ok_events {x : Int32} (hg : GI c 0 σ) : Ok (f_X8_events σ c.L x) (fun r => UP c 0 σ r.2) := by
  unfold f_X8_events
  refine ok_br (ok_flowAt hg) (fun r hr => ok_oc (fun _ => ok_some (up_r hg)) (fun f ef => ?_))
  obtain ⟨h, -, -, ⟨h1, h2⟩, -⟩ := gi_f hg (op_k hg (hr f ef))
  exact ok_qb h1 (ok_bre rfl (ok_some (up_r hg)))
theorem ok_canLead {f : Nat} {x : Int32} (hn : 1000001 ≤ n0) (hg : GI c 0 σ) (hf : sx_K σ f = 2) (hx : x.toInt ≤ 140) : Ok (f_X8_canLead n0 σ c.L (some f) x) (fun r => UP c 0 σ r.2) := by
  obtain ⟨h, r, d, ⟨h1, h2⟩, -, h5, h6⟩ := gi_f hg hf
  obtain ⟨q, hq, kq, -⟩ := ww_r hg.ww (k := 6) hg.kL rfl rfl (by decide)
  unfold f_X8_canLead
  refine ok_qv (ok_bq rfl (ok_qv (ok_qv ?_)))
  rw [hq, h5, h1]
  refine ok_bq rfl (ok_br (ok_begin hg kq h6 h2) (fun u hu => ?_))
  have R6 : sx_R u c.L 6 = some q := by rw [hu.2.2.1 c.L 6 (by rw [hg.kL]; decide)]; exact hq
  refine ok_qb R6 (ok_br (ok_advance hn hu.1.1 (k_u hu.1 (by decide) kq) hx) (fun v hv => ?_))
  have R6' : sx_R v c.L 6 = some q := by rw [hv.2.1.2.2.1]; exact R6
  have u2 := up_t hu.1 hv.1
  exact ok_qb R6' (ok_ite (fun _ => ok_qb R6' (ok_ite (fun _ => ok_some u2) (fun _ => ok_some u2))) (fun _ => ok_some u2))
end G19
