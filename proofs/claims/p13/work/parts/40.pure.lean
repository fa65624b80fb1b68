section G13
variable {c : CP} {s : Int} {σ : sx_T} {n0 : Nat}
theorem ok_holder_l (hg : GI c s σ) : ∀ (m n : Nat) (v : Option Nat) (x : Int32), (∀ f, v = some f → OP c σ f) → 0 ≤ x.toInt → 40 - x.toInt ≤ m → m < n → Ok (fl_X8_holder_8 n0 n σ c.L v x) (fun r => ∀ f, r = some f → OP c σ f) := by
  have l40 : (40 : Int32).toInt = 40 := by decide
  intro m
  induction m with
  | zero =>
    intro n v x hv h0 h1 h2
    obtain ⟨n, rfl⟩ : ∃ k, n = k + 1 := ⟨n - 1, by omega⟩
    unfold fl_X8_holder_8
    exact ok_p (by rw [n_le, l40]; omega) (ok_some hv)
  | succ m ih =>
    intro n v x hv h0 h1 h2
    obtain ⟨n, rfl⟩ : ∃ k, n = k + 1 := ⟨n - 1, by omega⟩
    unfold fl_X8_holder_8
    refine ok_ite (fun _ => ok_some hv) (fun c1 => ?_)
    rw [n_le, l40] at c1
    have e1 : (x + 1).toInt = x.toInt + 1 := n_add1 (by omega) (by omega)
    exact ok_oc (fun _ => ok_some (fun f e => by cases e)) (fun a ea => ok_ite (fun _ => ok_some (fun f e => by cases e; exact hv a ea)) (fun _ => ok_br (ok_flowAt hg) (fun r hr => ih n r (x + 1) hr (by omega) (by omega) (by omega))))
theorem ok_holder {x : Int32} (hn : 1000001 ≤ n0) (hg : GI c s σ) : Ok (f_X8_holder n0 σ c.L x) (fun r => ∀ f, r = some f → OP c σ f) := by
  unfold f_X8_holder
  exact ok_br (ok_flowAt hg) (fun r hr => ok_holder_l hg 40 n0 r 0 hr (by decide) (by decide) (by omega))
theorem ok_canReceive {f h : Nat} (hg : GI c s σ) (hf : sx_K σ f = 2) (h1 : sx_R σ f 1 = some h) : Ok (f_X0_canReceive σ f) (fun r => r ≠ 0 → (sx_I σ h 2).toInt < 90) := by
  obtain ⟨e, he⟩ := ok_hasEnded hg hf
  unfold f_X0_canReceive
  refine ok_bre he (ok_ite (fun _ => ok_qb h1 (ok_bre rfl (ok_ite (fun _ => ok_some (fun e => absurd rfl e)) (fun c1 => ok_some (fun _ => ?_))))) (fun _ => ok_some (fun e => absurd rfl e)))
  rw [n_le, l_90] at c1
  omega
theorem ok_leave68 {v : Option Nat} (hg : GI c s σ) (hv : ∀ f, v = some f → OP c σ f) : Ok (fb_X8_leave_68 n0 σ c.L v) (fun u => UP c s σ u) := by
  unfold fb_X8_leave_68
  refine ok_oc (fun _ => ok_some (up_r hg)) (fun f e => ?_)
  have of := hv f e
  have hkf := op_k hg of
  obtain ⟨h, -, -, ⟨h1, h2⟩, -⟩ := gi_f hg hkf
  refine ok_br (ok_canReceive hg hkf h1) (fun r hr => ok_ite (fun _ => ok_some (up_r hg)) (fun c1 => ok_qb h1 (ok_br (ok_add hg (op_h hg of h1) (fun _ => hr c1)) (fun u hu => ?_))))
  obtain ⟨l, hl, kl, -⟩ := ww_r hu.1.1.ww (k := 4) hu.1.1.kL rfl rfl (by decide)
  exact ok_qb hl (ok_br (ok_addLast hu.1.1 kl (fun b eb => by cases eb; exact op_u hu.1 of)) (fun w hw => ok_some (up_t hu.1 hw)))
theorem ok_leave {f : Nat} (hn : 1000001 ≤ n0) (hg : GI c s σ) (of : OP c σ f) : Ok (f_X8_leave n0 σ c.L (some f)) (fun u => UP c s σ u) := by
  obtain ⟨l, hl, kl, -⟩ := ww_r hg.ww (k := 4) hg.kL rfl rfl (by decide)
  unfold f_X8_leave
  refine ok_qb hl (ok_br (ok_removeLast hg kl) (fun u hu => ok_bq rfl ?_))
  have u1 := hu.1
  have of' := op_u u1 of
  have hkf := op_k u1.1 of'
  obtain ⟨h, r, -, ⟨h1, h2⟩, ⟨h3, h4⟩, -⟩ := gi_f u1.1 hkf
  have k37 : ∀ y, Ok (fb_X8_leave_37 n0 u c.L (some f) y) (fun v => UP c s σ v) := by
    intro y
    have u2 := gi_I (a := f) (k := 8) (x := sx_I u h 2) u1.1 (Or.inl hkf)
    have u3 := up_t u1 u2
    unfold fb_X8_leave_37
    refine ok_bq rfl (ok_qb h1 (ok_bre rfl (ok_ite (fun _ => ok_m (ok_leave68 u3.1 (fun f e => by cases e)) (fun v hv => up_t u3 hv)) (fun _ => ok_qb h3 (ok_br (ok_holder hn u3.1) (fun r hr => ok_m (ok_leave68 u3.1 hr) (fun v hv => up_t u3 hv)))))))
  exact ok_qb h3 (ok_ite (fun _ => ok_qb h3 (ok_ite (fun _ => k37 _) (fun _ => k37 _))) (fun _ => ok_some u1))
theorem ok_goOn41 {kl : sx_T → Nat → Int32 → Option sx_T} {x : Int32} (hn : 1000001 ≤ n0) (hg : GI c 0 σ) (ih : ∀ u, GI c 0 u → Ok (kl u c.L (x + 1)) (fun v => UP c 0 u v)) : Ok (fb_X8_goOn_41 n0 kl σ c.L x) (fun v => UP c 0 σ v) := by
  obtain ⟨l, hl, kl1, -⟩ := ww_r hg.ww (k := 4) hg.kL rfl rfl (by decide)
  unfold fb_X8_goOn_41
  refine ok_qb hl (ok_br (ok_last hg kl1) (fun r hr => ok_oc (fun _ => ok_some (up_r hg)) (fun f e => ?_)))
  have of := hr f e
  have hkf := op_k hg of
  obtain ⟨h, r, -, ⟨h1, h2⟩, ⟨h3, h4⟩, -⟩ := gi_f hg hkf
  refine ok_qv (ok_qv ?_)
  rw [h1, h3]
  refine ok_bq rfl (ok_bre rfl (ok_bq rfl (ok_br (ok_advance hn hg h4 (hg_c hg h2)) (fun u hu => ?_))))
  obtain ⟨u1, ⟨a1, a2⟩⟩ := hu
  have hkf1 := k_u u1 (by decide) hkf
  refine ok_br (ok_letGo u1.1 hkf1) (fun v hv => ?_)
  obtain ⟨v1, v2, v3, v4⟩ := hv
  have u2 := up_t u1 v1
  have of2 := op_u u2 of
  have R1 : sx_R v f 1 = some h := by rw [v4 f 1 (by decide), a1.2.2.1]; exact h1
  have R2 : sx_R v f 2 = some r := by rw [v4 f 2 (by decide), a1.2.2.1]; exact h3
  have kr : sx_K u r = 7 := k_u u1 (by decide) h4
  have kh : sx_K u h = 3 := k_u u1 (by decide) h2
  have Ir : ∀ k, sx_I v r k = sx_I u r k := fun k => v3 r k (by rw [kr]; decide)
  have Ih : sx_I v h 2 = sx_I σ h 2 := by
    rw [v3 h 2 (by rw [kh]; decide), a1.2.2.2.2.2.1 h (fun q => by unfold KA at q; omega)]
  obtain ⟨w, hw1, hw2⟩ := ok_wantsEvent (σ := v) (r := r)
  refine ok_qb R2 (ok_bre hw1 (ok_ite (fun _ => ok_br (ok_leave hn u2.1 of2) (fun y hy => ok_m (ih y hy.1) (fun z hz => up_t (up_t u2 hy) hz))) (fun c1 => ?_)))
  obtain ⟨q1, q2⟩ := hw2 c1
  refine ok_bd (ok_make u2.1 (Int.le_refl _) of2 (fun r' h' e1 e2 => ?_)) (fun b y hy => ?_)
  · rw [R2] at e1
    rw [R1] at e2
    cases e1
    cases e2
    refine ⟨q1, q2, ?_⟩
    rw [Ih, Ir]
    rw [Ir] at q1 q2
    exact a2 q1 q2
  · have y1 : UP c 0 v y := hy.1
    have y2 : ∀ f, b = some f → OP c y f := hy.2
    have u3 := up_t u2 y1
    have hkf3 := k_u u3 (by decide) hkf
    obtain ⟨h', r', -, ⟨g1, g2⟩, ⟨g3, g4⟩, -⟩ := gi_f u3.1 hkf3
    refine ok_qv (ok_qv ?_)
    rw [g1, g3]
    refine ok_bq rfl (ok_bre rfl (ok_bq rfl (ok_br (ok_advance hn u3.1 g4 (hg_c u3.1 g2)) (fun z hz => ?_))))
    have u4 := up_t u3 hz.1
    obtain ⟨l', hl', kl', -⟩ := ww_r u4.1.ww (k := 4) u4.1.kL rfl rfl (by decide)
    exact ok_qb hl' (ok_br (ok_addLast u4.1 kl' (fun f ef => op_u hz.1 (y2 f ef))) (fun t ht => ok_m (ih t ht.1) (fun t' ht' => up_t (up_t u4 ht) ht')))
theorem ok_goOn_l (hn : 1000001 ≤ n0) : ∀ (m n : Nat) (σ : sx_T) (x : Int32), GI c 0 σ → 0 ≤ x.toInt → 1000000 - x.toInt ≤ m → m < n → Ok (fl_X8_goOn_10 n0 n σ c.L x) (fun v => UP c 0 σ v) := by
  have lM : (1000000 : Int32).toInt = 1000000 := by decide
  intro m
  induction m with
  | zero =>
    intro n σ x hg h0 h1 h2
    obtain ⟨n, rfl⟩ : ∃ k, n = k + 1 := ⟨n - 1, by omega⟩
    unfold fl_X8_goOn_10
    exact ok_p (by rw [n_le, lM]; omega) (ok_some (up_r hg))
  | succ m ih =>
    intro n σ x hg h0 h1 h2
    obtain ⟨n, rfl⟩ : ∃ k, n = k + 1 := ⟨n - 1, by omega⟩
    obtain ⟨l, hl, kl, -⟩ := ww_r hg.ww (k := 4) hg.kL rfl rfl (by decide)
    obtain ⟨l5, hl5, kl5, -⟩ := ww_r hg.ww (k := 5) hg.kL rfl rfl (by decide)
    unfold fl_X8_goOn_10
    refine ok_ite (fun _ => ok_some (up_r hg)) (fun c1 => ?_)
    rw [n_le, lM] at c1
    have e1 : (x + 1).toInt = x.toInt + 1 := n_add1 (by omega) (by omega)
    have go : ∀ u, GI c 0 u → Ok (fb_X8_goOn_41 n0 (fl_X8_goOn_10 n0 n) u c.L x) (fun v => UP c 0 u v) := fun u hu => ok_goOn41 hn hu (fun w hw => ih n w (x + 1) hw (by omega) (by omega) (by omega))
    obtain ⟨e, he⟩ := ok_isEmpty (σ := σ) (l := l)
    refine ok_qb hl (ok_bre he (ok_ite (fun _ => go σ hg) (fun _ => ok_qv (ok_qb hl5 (ok_bd (ok_removeFirst hg kl5) (fun r u hu => ok_bq hl ?_))))))
    have u1 : UP c 0 σ u := hu.1
    have hr : ∀ f, r = some f → OP c σ f := hu.2
    exact ok_br (ok_addLast u1.1 (k_u u1 (by decide) kl) (fun f e => op_u u1 (hr f e))) (fun w hw => ok_m (go w hw.1) (fun z hz => up_t (up_t u1 hw) hz))
theorem ok_goOn {v : Option Nat} (hn : 1000001 ≤ n0) (hg : GI c 0 σ) (hv : ∀ f, v = some f → OP c σ f) : Ok (f_X8_goOn n0 σ c.L v) (fun u => UP c 0 σ u) := by
  obtain ⟨l, hl, kl, -⟩ := ww_r hg.ww (k := 4) hg.kL rfl rfl (by decide)
  unfold f_X8_goOn
  exact ok_qb hl (ok_br (ok_addLast hg kl hv) (fun u hu => ok_m (ok_goOn_l hn 1000000 n0 u 0 hu.1 (by decide) (by decide) (by omega)) (fun w hw => up_t hu hw)))
end G13
