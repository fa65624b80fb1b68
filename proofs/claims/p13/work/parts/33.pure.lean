section G6
variable {c : CP} {s : Int} {σ v : sx_T}
/-- a relation as before, without what it costs -/
def GQ (c : CP) (σ u : sx_T) : Prop := (∀ a, sx_K σ a ≠ 0 → sx_K u a = sx_K σ a ∧ sx_N u a = sx_N σ a) ∧ (∀ a, MO σ a → ∀ k, sx_I u a k = sx_I σ a k ∧ sx_J u a k = sx_J σ a k ∧ sx_R u a k = sx_R σ a k) ∧ (∀ a, sx_K σ a = 13 ∨ sx_K σ a = 14 → CO u a → CO σ a) ∧ nF c σ ≤ nF c u
/-- a new task, a new row of the list -/
theorem gi_new {kd : Nat} (hg : GI c s σ) (hkd : kd = 9 ∨ kd = 17) (e1 : sx_K v (sx_Z σ) = kd) (e2 : ∀ a, a ≠ sx_Z σ → sx_K v a = sx_K σ a ∧ sx_N v a = sx_N σ a ∧ (∀ k, sx_I v a k = sx_I σ a k) ∧ (∀ k, sx_J v a k = sx_J σ a k) ∧ ∀ k, sx_R v a k = sx_R σ a k) (e3 : sx_Z v = sx_Z σ + 1) (e4 : sx_N v (sx_Z σ) ≤ 1000000) (e5 : ∀ k r, sx_R v (sx_Z σ) k = some r → (sx_K σ r = 2 ∨ sx_K σ r = 9) ∧ (ty_r kd k ≠ 0 → sx_K σ r = ty_r kd k)) (e6 : kd = 9 → ∃ f, sx_R v (sx_Z σ) 1 = some f ∧ OP c σ f) : GI c s v ∧ GQ c σ v ∧ nT c v = nT c σ ∧ nL c v = nL c σ ∧ nF c v = nF c σ ∧ nE c v = nE c σ ∧ sx_I v c.L 8 = sx_I σ c.L 8 := by
  have hz : ∀ a, sx_K σ a ≠ 0 → a ≠ sx_Z σ := fun a ha e => by have := hg.zf a ha; omega
  have hkz : sx_K σ (sx_Z σ) = 0 := Classical.byContradiction fun q => hz _ q rfl
  have old : ∀ a m, sx_K v a = m → m ≠ kd → a ≠ sx_Z σ ∧ sx_K σ a = m := fun a m h1 h2 => by
    have : a ≠ sx_Z σ := fun e => h2 (by rw [← h1, e, e1])
    exact ⟨this, (e2 a this).1.symm.trans h1⟩
  have hI : ∀ a k, sx_K σ a ≠ 0 → sx_I v a k = sx_I σ a k := fun a k ha => (e2 a (hz a ha)).2.2.1 k
  have hR : ∀ a k, sx_K σ a ≠ 0 → sx_R v a k = sx_R σ a k := fun a k ha => (e2 a (hz a ha)).2.2.2.2 k
  have hK : ∀ a, sx_K σ a ≠ 0 → sx_K v a = sx_K σ a := fun a ha => (e2 a (hz a ha)).1
  have hN : ∀ a, sx_K σ a ≠ 0 → sx_N v a = sx_N σ a := fun a ha => (e2 a (hz a ha)).2.1
  have nL0 : sx_K σ c.L ≠ 0 := by rw [hg.kL]; decide
  have nw0 : sx_K σ c.w ≠ 0 := by rw [hg.rf.2.2.2.2]; decide
  have nfa : sx_K σ c.fa ≠ 0 := by rw [hg.rf.2.1]; decide
  have nh : ∀ i, i < 40 → sx_K σ (c.hx i) ≠ 0 := fun i hi => by rw [(hg.kf i hi).2.1]; decide
  have nf : ∀ i, i < 40 → sx_K σ (c.fx i) ≠ 0 := fun i hi => by rw [(hg.kf i hi).1]; decide
  have hT : nT c v = nT c σ := by unfold nT; rw [hI _ _ nw0]
  have hF : nF c v = nF c σ := by unfold nF; rw [hI _ _ nL0]
  have hE : nE c v = nE c σ := sumC_e 40 (fun i hi => by show (sx_I v (c.hx i) 2).toInt = _; rw [hI _ _ (nh i hi)])
  obtain ⟨e, w1, w2, w3, w4, w5, w6⟩ := hg.wl
  have hez : e ≠ sx_Z σ := by omega
  have hLn : nL c v = nL c σ := by
    unfold nL lenE
    rw [hR _ _ nw0, w1]
    show ((if sx_K v e = 17 then sx_N v e else 0 : Nat) : Int) = ((if sx_K σ e = 17 then sx_N σ e else 0 : Nat) : Int)
    rw [(e2 e hez).1, (e2 e hez).2.1]
  have hop : ∀ f, OP c σ f → OP c v f := fun f => op_m (by omega)
  have kd0 : kd ≠ 0 := by omega
  refine ⟨⟨⟨?_, ?_, ?_⟩, ?_, ?_, ?_, ?_, ?_, ?_, ?_, hg.inj, ?_, ?_, ?_, by rw [hF]; exact hg.fc, ?_, ?_, ?_, ?_, ?_⟩, ⟨?_, ?_, ?_, by omega⟩, hT, hLn, hF, hE, hI _ _ nL0⟩
  · intro a k hk
    by_cases q : a = sx_Z σ
    · rw [q, e1] at hk
      rw [q]
      rcases hkd with q2 | q2
      · rw [q2] at hk
        obtain ⟨f, hf, -⟩ := e6 q2
        have : k = 1 := by
          unfold nn at hk
          split at hk <;> first | rfl | (simp at *)
        rw [this]
        exact ⟨f, hf⟩
      · rw [q2] at hk
        unfold nn at hk
        split at hk <;> simp at *
    · rw [(e2 a q).1] at hk
      rw [(e2 a q).2.2.2.2]
      exact hg.ww.1 a k hk
  · intro a k r h0 hr
    by_cases q : a = sx_Z σ
    · rw [q, e1] at h0
      rw [q] at hr
      rw [q, e1]
      have h9 := (e5 k r hr).2 h0
      rw [hK r (by rw [h9]; exact h0)]
      exact h9
    · rw [(e2 a q).1] at h0
      rw [(e2 a q).2.2.2.2] at hr
      have h9 := hg.ww.2.1 a k r h0 hr
      rw [(e2 a q).1, hK r (by rw [h9]; exact h0)]
      exact h9
  · intro a ha
    by_cases q : a = sx_Z σ
    · rw [q]; exact e4
    · rw [(e2 a q).1] at ha
      rw [(e2 a q).2.1]
      exact hg.ww.2.2 a ha
  · intro a ha
    rw [e3]
    by_cases q : a = sx_Z σ
    · omega
    · rw [(e2 a q).1] at ha
      have := hg.zf a ha
      omega
  · rw [hK _ nL0]; exact hg.kL
  · intro x y p hx hy h1 h2
    obtain ⟨-, x2⟩ := old x 7 hx (by omega)
    obtain ⟨-, y2⟩ := old y 7 hy (by omega)
    rw [hR x 0 (by rw [x2]; decide)] at h1
    rw [hR y 0 (by rw [y2]; decide)] at h2
    exact hg.pi x y p x2 y2 h1 h2
  · intro x y p hx hy h1 h2
    obtain ⟨-, x2⟩ := old x 3 hx (by omega)
    obtain ⟨-, y2⟩ := old y 3 hy (by omega)
    rw [hR x 0 (by rw [x2]; decide)] at h1
    rw [hR y 0 (by rw [y2]; decide)] at h2
    exact hg.bi x y p x2 y2 h1 h2
  · intro x p hx h1
    obtain ⟨-, x2⟩ := old x 7 hx (by omega)
    rw [hR x 0 (by rw [x2]; decide)] at h1
    have hkp := hg.ww.2.1 x 0 p (by rw [x2]; decide) h1
    rw [x2] at hkp
    have hkp' : sx_K σ p = 5 := hkp
    have x0 : sx_K σ x ≠ 0 := by rw [x2]; decide
    have h9 := hg.ra x p x2 h1
    unfold RI at h9 ⊢
    rw [hI x _ x0, hI x _ x0, hI x _ x0, hI x _ x0, hI x _ x0, hI x _ x0, hI x _ x0, hI p _ (by rw [hkp']; decide)]
    exact h9
  · intro x hx
    obtain ⟨-, x2⟩ := old x 3 hx (by omega)
    have x0 : sx_K σ x ≠ 0 := by rw [x2]; decide
    obtain ⟨q1, q2⟩ := hg.ha x x2
    refine ⟨fun a ha z z0 z1 z2 => ?_, by rw [hI x _ x0]; exact q2⟩
    rw [hR x 0 x0] at ha
    have hka := hg.ww.2.1 x 0 a (by rw [x2]; decide) ha
    rw [x2] at hka
    have hka' : sx_K σ a = 12 := hka
    rw [hI x _ x0] at z1
    rw [hI a _ (by rw [hka']; decide)] at z2
    exact q1 a ha z z0 z1 z2
  · intro x b hx hb
    obtain ⟨-, x2⟩ := old x 3 hx (by omega)
    have x0 : sx_K σ x ≠ 0 := by rw [x2]; decide
    rw [hR x 0 x0, hR x 1 x0] at hb
    have kb : sx_K σ b ≠ 0 := by
      rcases hb with hb | hb
      · have h9 := hg.ww.2.1 x 0 b (by rw [x2]; decide) hb
        rw [x2] at h9
        rw [h9]; decide
      · have h9 := hg.ww.2.1 x 1 b (by rw [x2]; decide) hb
        rw [x2] at h9
        rw [h9]; decide
    rw [hN b kb]
    exact hg.hn x b x2 hb
  · intro i hi
    rw [hK _ (nf i hi), hK _ (nh i hi), hR _ _ (nf i hi), hR _ _ nfa]
    exact hg.kf i hi
  · intro f hf
    exact hg.af f (old f 2 hf (by omega)).2
  · rw [hR _ _ nL0, hR _ _ nL0, hK _ nfa, hN _ nfa, hK _ nw0]
    exact hg.rf
  · intro i hi hfi
    rw [hF] at hfi
    rw [hI _ _ (nh i hi)]
    exact hg.nz i hi hfi
  · intro x b hx hb
    obtain ⟨-, x2⟩ := old x 4 hx (by omega)
    rw [hR x 0 (by rw [x2]; decide)] at hb
    obtain ⟨q1, q2⟩ := hg.la x b x2 hb
    have hkb := hg.ww.2.1 x 0 b (by rw [x2]; decide) hb
    rw [x2] at hkb
    have hkb' : sx_K σ b = 15 := hkb
    refine ⟨q1, fun k f hf => hop f (q2 k f ?_)⟩
    rw [hR b k (by rw [hkb']; decide)] at hf
    exact hf
  · intro x f hx hf
    by_cases q : x = sx_Z σ
    · rw [q, e1] at hx
      obtain ⟨f', hf', of'⟩ := e6 hx
      rw [q, hf'] at hf
      cases hf
      exact hop _ of'
    · rw [(e2 x q).1] at hx
      rw [(e2 x q).2.2.2.2] at hf
      exact hop f (hg.ta x f hx hf)
  · refine ⟨e, by rw [hR _ _ nw0]; exact w1, by rw [(e2 e hez).1]; exact w2, by omega, ?_, ?_, ?_⟩
    · rw [hT]; exact w4
    · rw [hT, hLn]; exact w5
    · rw [hT, hLn]; exact w6
  · rw [hT, hE, hF]; exact hg.ws
  · exact fun a ha => ⟨hK a ha, hN a ha⟩
  · intro a ha k
    have a0 : sx_K σ a ≠ 0 := by
      rcases ha with ha | ⟨ha | ha, -⟩ <;> rw [ha] <;> decide
    exact ⟨hI a k a0, (e2 a (hz a a0)).2.2.2.1 k, hR a k a0⟩
  · intro a ha h9
    obtain ⟨o, k, h1, h2, h3⟩ := h9
    by_cases q : o = sx_Z σ
    · rw [q] at h3
      have := (e5 k a h3).1
      omega
    · rw [(e2 o q).1] at h1 h2
      rw [(e2 o q).2.2.2.2] at h3
      exact ⟨o, k, h1, h2, h3⟩
end G6
