section G10
variable {c : CP} {s : Int} {σ : sx_T} {n0 : Nat}
theorem la_task {f : Nat} {x y : Int32} (hg : GI c s σ) (of : OP c σ f) : LA c s 0 σ (wx_I (wx_R (wx_I (wx_I (wx_N σ 9 0) (sx_Z σ) 3 0) (sx_Z σ) 0 x) (sx_Z σ) 1 (some f)) (sx_Z σ) 2 y) ∧ nL c (wx_I (wx_R (wx_I (wx_I (wx_N σ 9 0) (sx_Z σ) 3 0) (sx_Z σ) 0 x) (sx_Z σ) 1 (some f)) (sx_Z σ) 2 y) = nL c σ := by
  have hz : ∀ a, sx_K σ a ≠ 0 → a ≠ sx_Z σ := fun a ha e => by have := hg.zf a ha; omega
  have hkf := op_k hg of
  generalize hv : wx_I (wx_R (wx_I (wx_I (wx_N σ 9 0) (sx_Z σ) 3 0) (sx_Z σ) 0 x) (sx_Z σ) 1 (some f)) (sx_Z σ) 2 y = v
  have hK : sx_K v = sx_K (wx_N σ 9 0) := by rw [← hv]; rfl
  have hN : sx_N v = sx_N (wx_N σ 9 0) := by rw [← hv]; rfl
  have hJ : sx_J v = sx_J (wx_N σ 9 0) := by rw [← hv]; rfl
  have hI : ∀ a k, a ≠ sx_Z σ → sx_I v a k = sx_I σ a k := fun a k ha => by
    rw [← hv, gI_I, if_neg (fun q => ha q.1), gI_R, gI_I, if_neg (fun q => ha q.1), gI_I, if_neg (fun q => ha q.1)]
    exact if_neg ha
  have hR : ∀ a k, a ≠ sx_Z σ → sx_R v a k = sx_R σ a k := fun a k ha => by
    rw [← hv, gR_I, gR_R, if_neg (fun q => ha q.1), gR_I, gR_I]
    exact if_neg ha
  have hRz : ∀ k, sx_R v (sx_Z σ) k = if k = 1 then some f else none := fun k => by
    rw [← hv, gR_I, gR_R, gR_I, gR_I]
    by_cases q : k = 1
    · rw [if_pos ⟨rfl, q⟩, if_pos q]
    · rw [if_neg (fun q' => q q'.2), if_neg q]
      exact if_pos rfl
  obtain ⟨g1, g2, g3, g4, g5, g6, g7⟩ := gi_new (v := v) (kd := 9) hg (Or.inl rfl) (by rw [hK]; exact if_pos rfl) (fun a ha => ⟨by rw [hK]; exact if_neg ha, by rw [hN]; exact if_neg ha, fun k => hI a k ha, fun k => by rw [hJ]; exact if_neg ha, fun k => hR a k ha⟩) (by rw [← hv]; rfl) (by rw [hN]; show (if sx_Z σ = sx_Z σ then 0 else sx_N σ (sx_Z σ)) ≤ 1000000; rw [if_pos rfl]; omega) (fun k r hr => by
    rw [hRz] at hr
    split at hr
    · rename_i q
      cases hr
      rw [q]
      exact ⟨Or.inl hkf, fun _ => hkf⟩
    · cases hr) (fun _ => ⟨f, by rw [hRz, if_pos rfl], of⟩)
  exact ⟨⟨g1, g2, by omega, g5, g6, g7, by rw [← hv]; show sx_Z σ ≤ sx_Z σ + 1; omega, fun a k h0 _ => hI a k (hz a h0), fun a k h0 _ _ => hR a k (hz a h0)⟩, g4⟩
/-- behind a task that was made -/
def SD (c : CP) (σ u : sx_T) : Prop := GR c σ u ∧ CK c σ u ∧ (∀ a k, sx_K σ a = 3 ∨ sx_K σ a = 7 → sx_I u a k = sx_I σ a k) ∧ (∀ a k, sx_K σ a = 2 → k ≠ 7 → sx_R u a k = sx_R σ a k)
theorem ok_schedule {f : Nat} {x : Int32} (hg : GI c s σ) (hT : nT c σ ≤ 6000) (of : OP c σ f) : Ok (f_X8_schedule σ c.L (some f) x) (fun u => GI c (s + 1) u ∧ SD c σ u) := by
  have hz : ∀ a, sx_K σ a ≠ 0 → a ≠ sx_Z σ := fun a ha e => by have := hg.zf a ha; omega
  have nL0 : c.L ≠ sx_Z σ := hz _ (by rw [hg.kL]; decide)
  have hRL : ∀ k, sx_R (wx_N σ 9 0) c.L k = sx_R σ c.L k := fun k => if_neg nL0
  unfold f_X8_schedule
  refine ok_qn (ok_qv ?_)
  rw [hRL, hg.rf.2.2.2.1]
  refine ok_bq rfl (ok_bre rfl (ok_bre rfl ?_))
  obtain ⟨t1, t2⟩ := la_task (x := sx_I (wx_N σ 9 0) c.w 2) (y := x) hg of
  have hZ : sx_Z (wx_I (wx_R (wx_I (wx_I (wx_N σ 9 0) (sx_Z σ) 3 0) (sx_Z σ) 0 (sx_I (wx_N σ 9 0) c.w 2)) (sx_Z σ) 1 (some f)) (sx_Z σ) 2 x) = sx_Z σ + 1 := rfl
  have hS : sx_S (wx_I (wx_R (wx_I (wx_I (wx_N σ 9 0) (sx_Z σ) 3 0) (sx_Z σ) 0 (sx_I (wx_N σ 9 0) c.w 2)) (sx_Z σ) 1 (some f)) (sx_Z σ) 2 x) = sx_S σ + 7 := rfl
  have hKz : sx_K (wx_I (wx_R (wx_I (wx_I (wx_N σ 9 0) (sx_Z σ) 3 0) (sx_Z σ) 0 (sx_I (wx_N σ 9 0) c.w 2)) (sx_Z σ) 1 (some f)) (sx_Z σ) 2 x) (sx_Z σ) = 9 := if_pos rfl
  generalize wx_I (wx_R (wx_I (wx_I (wx_N σ 9 0) (sx_Z σ) 3 0) (sx_Z σ) 0 (sx_I (wx_N σ 9 0) c.w 2)) (sx_Z σ) 1 (some f)) (sx_Z σ) 2 x = v at t1 t2 hZ hS hKz
  have t3 := t1.2.2.1
  refine ok_qv ?_
  rw [t1.1.rf.2.2.2.1]
  refine ok_bq rfl (ok_bd (ok_listAdd t1.1 hKz (by omega)) (fun r w hw => ok_bq rfl (ok_some ?_)))
  obtain ⟨q1, q2, q3⟩ := hw
  have q1' : LA c (s + 1) 1 v w := q1
  have q2' : sx_Z w ≤ sx_Z v + 1 := q2
  have q3' : (sx_S w : Int) + 4 * nL c v ≤ sx_S v + 2 + 4 * nL c w := q3
  have h9 := la_t t1 q1'
  obtain ⟨b1, b2, b3, b4, b5, b6, b7, b8, b9⟩ := h9
  have of' : OP c w f := op_m (by omega) of
  have hkz' : sx_K w (sx_Z σ) = 9 := (q1'.2.1.1 _ (by rw [hKz]; decide)).1.trans hKz
  have hkf' := op_k b1 of'
  have r1 := gi_R (a := f) (k := 7) (v := some (sx_Z σ)) b1 (Or.inl ⟨hkf', Or.inr rfl⟩) (fun r e => by cases e; rw [hkf', hkz']; rfl) (fun _ => ⟨_, rfl⟩) (fun e => by rw [hkf'] at e; cases e)
  have g9 : GR c σ w := ⟨b2.1, b2.2.1, b2.2.2.1, b2.2.2.2, by omega, by omega⟩
  refine ⟨r1.1, gr_t g9 r1.2.1, r1.2.2.trans b6, fun a k ha => ?_, fun a k ha hk7 => ?_⟩
  · rw [gI_R]
    have ha0 : sx_K σ a ≠ 0 := by omega
    refine b8 a k ha0 (fun e => ?_)
    rw [e, hg.rf.2.2.2.2] at ha
    omega
  · rw [gR_R, if_neg (fun q => hk7 q.2)]
    exact b9 a k (by omega) (by omega) (by omega)
end G10
