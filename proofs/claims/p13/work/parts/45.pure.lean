section G18
variable {c : CP} {σ : sx_T} {n0 : Nat}
theorem ok_replayed {f : Nat} (hn : 1000001 ≤ n0) (hg : GI c 0 σ) (hf : sx_K σ f = 2) : Ok (f_X8_replayed n0 σ c.L (some f)) (fun r => UP c 0 σ r.2 ∧ ∃ q, r.1 = some q ∧ sx_K r.2 q = 7) := by
  obtain ⟨h, r, d, ⟨h1, h2⟩, -, h5, h6⟩ := gi_f hg hf
  obtain ⟨q, hq, kq, -⟩ := ww_r hg.ww (k := 6) hg.kL rfl rfl (by decide)
  unfold f_X8_replayed
  refine ok_qv (ok_bq rfl (ok_qv (ok_qv ?_)))
  rw [hq, h5, h1]
  refine ok_bq rfl (ok_br (ok_begin hg kq h6 h2) (fun u hu => ?_))
  have R6 : sx_R u c.L 6 = some q := by rw [hu.2.2.1 c.L 6 (by rw [hg.kL]; decide)]; exact hq
  have R1 : sx_R u f 1 = some h := by rw [hu.2.2.1 f 1 (by rw [hf]; decide)]; exact h1
  refine ok_qv (ok_qv ?_)
  rw [R6, R1]
  refine ok_bq rfl (ok_bre rfl (ok_bq rfl (ok_br (ok_advance hn hu.1.1 (k_u hu.1 (by decide) kq) (hg_c hu.1.1 (k_u hu.1 (by decide) h2))) (fun v hv => ok_qv (ok_some ⟨up_t hu.1 hv.1, q, ?_, ?_⟩)))))
  · rw [hv.2.1.2.2.1]
    exact R6
  · exact k_u (up_t hu.1 hv.1) (by decide) kq
theorem ok_check_l (hn : 1000001 ≤ n0) {d : Nat} {x2 x7 x8 x9 : Int32} : ∀ (m n : Nat) (σ : sx_T) (y x : Int32), GI c 0 σ → sx_K σ d = 6 → 0 ≤ x.toInt → 40 - x.toInt ≤ m → m < n → Ok (fl_X8_check_93 n0 n σ c.L x2 (some d) x7 x8 x9 y x) (fun r => UP c 0 σ r.2) := by
  have fin : ∀ (σ : sx_T) (y : Int32), GI c 0 σ → sx_K σ d = 6 → Ok (bq (some d) fun a2 => br (f_X4_put σ a2 x2 x7 x8 x9) fun u4 => some ((Sum.inl y : Sum Int32 String), u4)) (fun r => UP c 0 σ r.2) := fun σ y hg hd => ok_bq rfl (ok_br (ok_put hg hd) (fun u hu => ok_some hu))
  intro m
  induction m with
  | zero =>
    intro n σ y x hg hd h0 h1 h2
    obtain ⟨n, rfl⟩ : ∃ k, n = k + 1 := ⟨n - 1, by omega⟩
    have hF := hg.fc
    unfold nF at hF
    unfold fl_X8_check_93
    exact ok_p (by rw [n_le]; omega) (fin σ y hg hd)
  | succ m ih =>
    intro n σ y x hg hd h0 h1 h2
    obtain ⟨n, rfl⟩ : ∃ k, n = k + 1 := ⟨n - 1, by omega⟩
    have hF := hg.fc
    unfold nF at hF
    unfold fl_X8_check_93
    refine ok_ite (fun _ => fin σ y hg hd) (fun c1 => ?_)
    rw [n_le] at c1
    have e1 : (x + 1).toInt = x.toInt + 1 := n_add1 (by omega) (by omega)
    have go : ∀ u y, UP c 0 σ u → Ok (fl_X8_check_93 n0 n u c.L x2 (some d) x7 x8 x9 y (x + 1)) (fun r => UP c 0 σ r.2) := fun u y hu => ok_m (ih n u y (x + 1) hu.1 (k_u hu (by decide) hd) (by omega) (by omega) (by omega)) (fun w hw => up_t hu hw)
    refine ok_br (ok_flowAt hg) (fun r hr => ok_oc (fun _ => go σ _ (up_r hg)) (fun f ef => ok_qv (ok_ite (fun _ => ?_) (fun _ => go σ _ (up_r hg)))))
    have hk := op_k hg (hr f ef)
    obtain ⟨e, he⟩ := ok_hasEnded hg hk
    refine ok_bre he (ok_ite (fun _ => ok_bd (ok_replayed hn hg hk) (fun r u hu => ?_)) (fun _ => go σ _ (up_r hg)))
    obtain ⟨u1, q, eq, -⟩ := hu
    exact ok_bq eq (ok_ite (fun _ => go u _ u1) (fun _ => go u _ u1))
theorem ok_check {x1 x2 x3 x4 x5 : Int32} (hn : 1000001 ≤ n0) (hg : GI c 0 σ) : Ok (f_X8_check n0 σ c.L x1 x2 x3 x4 x5) (fun r => UP c 0 σ r.2) := by
  obtain ⟨a, ha⟩ := ok_isBelow (σ := σ) (x := x2) (y := 20)
  obtain ⟨b, hb⟩ := ok_isStep (σ := σ) (x := x3) (y := x4) (z := x5)
  have k21 : Ok (fb_X8_check_21 n0 σ) (fun r => UP c 0 σ r.2) := ok_some (up_r hg)
  unfold f_X8_check
  refine ok_br (ok_programAt hg) (fun r hr => ok_oc (fun _ => k21) (fun d e => ok_bre ha (ok_ite (fun _ => k21) (fun _ => ok_bre hb (ok_ite (fun _ => ok_some (up_r hg)) (fun _ => ?_))))))
  have kd := hr d e
  obtain ⟨⟨r4, h4⟩, ⟨r9, h9⟩, ⟨r14, h14⟩⟩ := ok_prog (x := x2) hg.ww kd
  exact ok_bre h4 (ok_bre h9 (ok_bre h14 (ok_br (ok_put hg kd) (fun u hu => ok_m (ok_check_l hn 40 n0 u 0 0 hu.1 (k_u hu (by decide) kd) (by decide) (by decide) (by omega)) (fun w hw => up_t hu hw)))))
end G18
