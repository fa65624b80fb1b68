section G17
variable {c : CP} {σ : sx_T} {n0 : Nat}
theorem ok_findAgains_l (hn : 1000001 ≤ n0) {v : Option Nat} : ∀ (m n : Nat) (σ : sx_T) (x : Int32), GI c 0 σ → 0 ≤ x.toInt → 40 - x.toInt ≤ m → m < n → Ok (fl_X8_findAgain_2 n0 n σ c.L v x) (fun u => UP c 0 σ u) := by
  intro m
  induction m with
  | zero =>
    intro n σ x hg h0 h1 h2
    obtain ⟨n, rfl⟩ : ∃ k, n = k + 1 := ⟨n - 1, by omega⟩
    have hF := hg.fc
    unfold nF at hF
    unfold fl_X8_findAgain_2
    exact ok_p (by rw [n_le]; omega) (ok_some (up_r hg))
  | succ m ih =>
    intro n σ x hg h0 h1 h2
    obtain ⟨n, rfl⟩ : ∃ k, n = k + 1 := ⟨n - 1, by omega⟩
    have hF := hg.fc
    unfold nF at hF
    unfold fl_X8_findAgain_2
    refine ok_ite (fun _ => ok_some (up_r hg)) (fun c1 => ?_)
    rw [n_le] at c1
    have e1 : (x + 1).toInt = x.toInt + 1 := n_add1 (by omega) (by omega)
    have go : ∀ u, UP c 0 σ u → Ok (fl_X8_findAgain_2 n0 n u c.L v (x + 1)) (fun w => UP c 0 σ w) := fun u hu => ok_m (ih n u (x + 1) hu.1 (by omega) (by omega) (by omega)) (fun w hw => up_t hu hw)
    refine ok_br (ok_flowAt hg) (fun r hr => ok_oc (fun _ => go σ (up_r hg)) (fun f ef => ok_qv (ok_ite (fun _ => ?_) (fun _ => go σ (up_r hg)))))
    have hk := op_k hg (hr f ef)
    obtain ⟨e, he⟩ := ok_hasEnded hg hk
    exact ok_bre he (ok_ite (fun _ => ok_br (ok_findAgain hn hg hk) (fun u hu => go u hu)) (fun _ => go σ (up_r hg)))
theorem ok_countAstray_l {v : Option Nat} (hg : GI c 0 σ) : ∀ (m n : Nat) (y x : Int32), 0 ≤ x.toInt → 40 - x.toInt ≤ m → m < n → Ok (fl_X8_countAstray_4 n0 n σ c.L v y x) (fun _ => True) := by
  have hF := hg.fc
  unfold nF at hF
  intro m
  induction m with
  | zero =>
    intro n y x h0 h1 h2
    obtain ⟨n, rfl⟩ : ∃ k, n = k + 1 := ⟨n - 1, by omega⟩
    unfold fl_X8_countAstray_4
    exact ok_p (by rw [n_le]; omega) (ok_some trivial)
  | succ m ih =>
    intro n y x h0 h1 h2
    obtain ⟨n, rfl⟩ : ∃ k, n = k + 1 := ⟨n - 1, by omega⟩
    unfold fl_X8_countAstray_4
    refine ok_ite (fun _ => ok_some trivial) (fun c1 => ?_)
    rw [n_le] at c1
    have e1 : (x + 1).toInt = x.toInt + 1 := n_add1 (by omega) (by omega)
    have go := fun y => ih n y (x + 1) (by omega) (by omega) (by omega)
    refine ok_br (ok_flowAt hg) (fun r hr => ok_oc (fun _ => go _) (fun f ef => ok_qv (ok_ite (fun _ => ?_) (fun _ => go _))))
    have hk := op_k hg (hr f ef)
    obtain ⟨-, q, -, -, ⟨h3, -⟩, -⟩ := gi_f hg hk
    obtain ⟨e, he⟩ := ok_hasEnded hg hk
    exact ok_bre he (ok_ite (fun _ => ok_qb h3 (ok_ite (fun _ => go _) (fun _ => go _))) (fun _ => go _))
theorem ok_set_l (hn : 1000001 ≤ n0) {v : Option Nat} : ∀ (m n : Nat) (σ : sx_T) (x : Int32), GI c 0 σ → 0 ≤ x.toInt → 40 - x.toInt ≤ m → m < n → Ok (fl_X8_set_72 n0 n σ c.L v x) (fun r => UP c 0 σ r.2) := by
  have fin : ∀ σ, GI c 0 σ → Ok (br (f_X8_countAstray n0 σ c.L v) fun r3 => some ((Sum.inl r3 : Sum Int32 String), σ)) (fun r => UP c 0 σ r.2) := fun σ hg => ok_br (ok_countAstray_l (n0 := n0) (v := v) hg 40 n0 0 0 (by decide) (by decide) (by omega)) (fun r _ => ok_some (up_r hg))
  intro m
  induction m with
  | zero =>
    intro n σ x hg h0 h1 h2
    obtain ⟨n, rfl⟩ : ∃ k, n = k + 1 := ⟨n - 1, by omega⟩
    have hF := hg.fc
    unfold nF at hF
    unfold fl_X8_set_72
    exact ok_p (by rw [n_le]; omega) (fin σ hg)
  | succ m ih =>
    intro n σ x hg h0 h1 h2
    obtain ⟨n, rfl⟩ : ∃ k, n = k + 1 := ⟨n - 1, by omega⟩
    have hF := hg.fc
    unfold nF at hF
    unfold fl_X8_set_72
    refine ok_ite (fun _ => fin σ hg) (fun c1 => ?_)
    rw [n_le] at c1
    have e1 : (x + 1).toInt = x.toInt + 1 := n_add1 (by omega) (by omega)
    have go : ∀ u, UP c 0 σ u → Ok (fl_X8_set_72 n0 n u c.L v (x + 1)) (fun r => UP c 0 σ r.2) := fun u hu => ok_m (ih n u (x + 1) hu.1 (by omega) (by omega) (by omega)) (fun w hw => up_t hu hw)
    refine ok_br (ok_flowAt hg) (fun r hr => ok_oc (fun _ => go σ (up_r hg)) (fun f ef => ok_qv (ok_ite (fun _ => ?_) (fun _ => go σ (up_r hg)))))
    have of := hr f ef
    obtain ⟨e, he⟩ := ok_hasEnded hg (op_k hg of)
    exact ok_bre he (ok_ite (fun _ => ok_br (ok_goOn hn hg (fun b eb => by cases eb; exact of)) (fun u hu => go u hu)) (fun _ => go σ (up_r hg)))
theorem ok_set {x1 x2 x3 x4 x5 : Int32} (hn : 1000001 ≤ n0) (hg : GI c 0 σ) : Ok (f_X8_set n0 σ c.L x1 x2 x3 x4 x5) (fun r => UP c 0 σ r.2) := by
  obtain ⟨a, ha⟩ := ok_isBelow (σ := σ) (x := x2) (y := 20)
  obtain ⟨b, hb⟩ := ok_isStep (σ := σ) (x := x3) (y := x4) (z := x5)
  have k21 : Ok (fb_X8_set_21 n0 σ) (fun r => UP c 0 σ r.2) := ok_some (up_r hg)
  unfold f_X8_set
  refine ok_br (ok_programAt hg) (fun r hr => ok_oc (fun _ => k21) (fun d e => ok_bre ha (ok_ite (fun _ => k21) (fun _ => ok_bre hb (ok_ite (fun _ => ok_some (up_r hg)) (fun _ => ok_br (ok_put hg (hr d e)) (fun u hu => ?_)))))))
  exact ok_br (ok_findAgains_l hn 40 n0 u 0 hu.1 (by decide) (by decide) (by omega)) (fun v hv => ok_m (ok_set_l hn 40 n0 v 0 hv.1 (by decide) (by decide) (by omega)) (fun w hw => up_t (up_t hu hv) hw))
end G17
