section G14
variable {c : CP} {σ : sx_T} {n0 : Nat}
theorem ok_send {f : Nat} {x2 : Int32} {x3 : Int64} (hn : 1000001 ≤ n0) (hg : GI c 0 σ) (of : OP c σ f) : Ok (f_X8_send n0 σ c.L (some f) x2 x3) (fun r => UP c 0 σ r.2) := by
  have hkf := op_k hg of
  obtain ⟨h, -, -, ⟨h1, h2⟩, -⟩ := gi_f hg hkf
  unfold f_X8_send
  refine ok_bq rfl (ok_br (ok_canReceive hg hkf h1) (fun r hr => ok_ite (fun _ => ok_some (up_r hg)) (fun c1 => ok_qb h1 (ok_br (ok_add hg (op_h hg of h1) (fun _ => hr c1)) (fun u hu => ?_)))))
  exact ok_br (ok_goOn hn hu.1.1 (fun b eb => by cases eb; exact op_u hu.1 of)) (fun v hv => ok_some (up_t hu.1 hv))
theorem ok_goTask {a : Nat} (hn : 1000001 ≤ n0) (hg : GI c 0 σ) (ha : sx_K σ a = 9) : Ok (f_X8_goOn n0 σ c.L (sx_R σ a 1)) (fun u => UP c 0 σ u) := by
  refine ok_goOn hn hg (fun f e => hg.ta a f ha e)
theorem ok_fail {x : Int32} (hn : 1000001 ≤ n0) (hg : GI c 0 σ) : Ok (f_X8_fail n0 σ c.L x) (fun r => UP c 0 σ r.2) := by
  unfold f_X8_fail
  exact ok_br (ok_runningTask hn hg) (fun r hr => ok_oc (fun _ => ok_some (up_r hg)) (fun a e => ok_br (ok_loseTry hg (hr a e)) (fun u hu => ok_qv (ok_br (ok_goTask hn hu.1 (k_u hu (by decide) (hr a e))) (fun v hv => ok_some (up_t hu hv))))))
theorem ok_beat {x : Int32} (hn : 1000001 ≤ n0) (hg : GI c 0 σ) : Ok (f_X8_beat n0 σ c.L x) (fun r => UP c 0 σ r.2) := by
  unfold f_X8_beat
  exact ok_br (ok_runningTask hn hg) (fun r hr => ok_oc (fun _ => ok_some (up_r hg)) (fun a e => ok_some (gi_I hg (Or.inr (Or.inr (Or.inl (hr a e)))))))
theorem ok_complete {x y : Int32} (hn : 1000001 ≤ n0) (hg : GI c 0 σ) : Ok (f_X8_complete n0 σ c.L x y) (fun r => UP c 0 σ r.2) := by
  unfold f_X8_complete
  refine ok_ite (fun _ => ok_some (up_r hg)) (fun _ => ok_ite (fun _ => ?_) (fun _ => ok_some (up_r hg)))
  exact ok_br (ok_runningTask hn hg) (fun r hr => ok_oc (fun _ => ok_some (up_r hg)) (fun a e => ok_br (ok_finish hg (hr a e) (Or.inl rfl)) (fun u hu => ok_qv (ok_br (ok_goTask hn hu.1 (k_u hu (by decide) (hr a e))) (fun v hv => ok_some (up_t hu hv))))))
theorem ok_isBelow {x y : Int32} : ∃ r, f_X8_isBelow σ x y = some r := by
  unfold f_X8_isBelow
  split
  · exact ⟨_, rfl⟩
  · split
    · exact ⟨_, rfl⟩
    · exact ⟨_, rfl⟩
theorem ok_isStep {x y z : Int32} : ∃ r, f_X8_isStep σ x y z = some r := by
  have h1 : Ok (f_X8_isStep σ x y z) (fun _ => True) := by
    obtain ⟨a, ha⟩ := ok_isBelow (σ := σ) (x := x) (y := 18)
    obtain ⟨b, hb⟩ := ok_isBelow (σ := σ) (x := y) (y := 100)
    obtain ⟨d, hd⟩ := ok_isBelow (σ := σ) (x := z) (y := 100)
    unfold f_X8_isStep
    exact ok_bre ha (ok_ite (fun _ => ok_some trivial) (fun _ => ok_bre hb (ok_ite (fun _ => ok_some trivial) (fun _ => ok_bre hd (ok_ite (fun _ => ok_some trivial) (fun _ => ok_some trivial))))))
  obtain ⟨r, hr, -⟩ := h1
  exact ⟨r, hr⟩
theorem ok_put {d : Nat} {x1 x2 x3 x4 : Int32} (hg : GI c 0 σ) (hd : sx_K σ d = 6) : Ok (f_X4_put σ d x1 x2 x3 x4) (fun u => UP c 0 σ u) := by
  obtain ⟨a, ha, ka, na⟩ := ww_r hg.ww (k := 1) hd rfl rfl (by decide)
  obtain ⟨b, hb, kb, nb⟩ := ww_r hg.ww (k := 2) hd rfl rfl (by decide)
  obtain ⟨e, he, ke, ne⟩ := ww_r hg.ww (k := 3) hd rfl rfl (by decide)
  have d0 : sx_K σ d ≠ 0 := by rw [hd]; decide
  have d1 : sx_K σ d ≠ 11 := by rw [hd]; decide
  have pa : PA σ a := ⟨ka, d, 1, d0, d1, ha⟩
  have pb : PA σ b := ⟨kb, d, 2, d0, d1, hb⟩
  have pe : PA σ e := ⟨ke, d, 3, d0, d1, he⟩
  unfold f_X4_put
  refine ok_ite (fun _ => ok_some (up_r hg)) (fun c1 => ok_qb ha (ok_ite (fun _ => ok_some (up_r hg)) (fun c2 => ok_qb hb (ok_ite (fun _ => ok_some (up_r hg)) (fun c3 => ok_qb he (ok_ite (fun _ => ok_some (up_r hg)) (fun c4 => ok_qb ha (ok_ck ?_ (ok_qb hb (ok_ck ?_ (ok_qb he (ok_ck ?_ (ok_some ?_)))))))))))))
  all_goals rw [n_lt, l_0] at c1
  · rw [n_le, n_ofNat na] at c2; omega
  · rw [n_le, n_ofNat nb] at c3; omega
  · rw [n_le, n_ofNat ne] at c4; omega
  · have u1 := gi_I (a := a) (k := ti x1) (x := x2) hg (Or.inr (Or.inr (Or.inr (Or.inl pa))))
    have u2 := up_t u1 (gi_I (a := b) (k := ti x1) (x := x3) u1.1 (Or.inr (Or.inr (Or.inr (Or.inl pb)))))
    exact up_t u2 (gi_I (a := e) (k := ti x1) (x := x4) u2.1 (Or.inr (Or.inr (Or.inr (Or.inl pe)))))
theorem ok_signal {x1 x2 x3 : Int32} (hn : 1000001 ≤ n0) (hg : GI c 0 σ) : Ok (f_X8_signal n0 σ c.L x1 x2 x3) (fun r => UP c 0 σ r.2) := by
  obtain ⟨a, ha⟩ := ok_isBelow (σ := σ) (x := x2) (y := 100)
  obtain ⟨b, hb⟩ := ok_isBelow (σ := σ) (x := x3) (y := 100)
  unfold f_X8_signal
  exact ok_br (ok_flowAt hg) (fun r hr => ok_oc (fun _ => ok_some (up_r hg)) (fun f e => ok_bre ha (ok_ite (fun _ => ok_some (up_r hg)) (fun _ => ok_bre hb (ok_ite (fun _ => ok_some (up_r hg)) (fun _ => ok_bd (ok_send hn hg (hr f e)) (fun r u hu => ok_some hu)))))))
theorem ok_cancel {x1 : Int32} (hn : 1000001 ≤ n0) (hg : GI c 0 σ) : Ok (f_X8_cancel n0 σ c.L x1) (fun r => UP c 0 σ r.2) := by
  unfold f_X8_cancel
  exact ok_br (ok_flowAt hg) (fun r hr => ok_oc (fun _ => ok_some (up_r hg)) (fun f e => ok_bd (ok_send hn hg (hr f e)) (fun r u hu => ok_some hu)))
theorem ok_start {x1 x2 : Int32} (hn : 1000001 ≤ n0) (hg : GI c 0 σ) : Ok (f_X8_start n0 σ c.L x1 x2) (fun r => UP c 0 σ r.2) := by
  unfold f_X8_start
  refine ok_br (ok_programAt hg) (fun r hr => ok_oc (fun _ => ok_some (up_r hg)) (fun d e => ok_ite (fun _ => ok_some (up_r hg)) (fun _ => ok_ite (fun _ => ok_bd (ok_open hg (fun b eb => by cases eb; exact hr d e)) (fun r u hu => ?_)) (fun _ => ok_some (up_r hg)))))
  have u1 : UP c 0 σ u := hu.1
  exact ok_oc (fun _ => ok_some u1) (fun f ef => ok_br (ok_goOn hn u1.1 (fun b eb => by cases eb; exact (hu.2 f ef).2.1)) (fun v hv => ok_some (up_t u1 hv)))
end G14
