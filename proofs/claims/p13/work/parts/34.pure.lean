section G7
variable {c : CP} {s s' : Int} {σ v u : sx_T}
theorem n_half {x : Int32} (_h : 0 ≤ x.toInt) : (x >>> (1 &&& 31)).toInt = x.toInt / 2 := by
  have e : (1 &&& 31 : Int32) = 1 := by decide
  rw [e]
  show (x >>> 1).toBitVec.toInt = x.toInt / 2
  rw [Int32.toBitVec_shiftRight, BitVec.toInt_sshiftRight', Int.shiftRight_eq_div_pow]
  have e2 : ((1 : Int32).toBitVec.smod 32).toNat = 1 := by decide
  rw [e2]
  rfl
/-- the list has changed -/
theorem gi_lst (hg : GI c s σ) (hK : sx_K u = sx_K σ) (hN : sx_N u = sx_N σ) (hZ : sx_Z u = sx_Z σ) (hJ : sx_J u = sx_J σ) (hI : ∀ a k, a ≠ c.w → sx_I u a k = sx_I σ a k) (hR : ∀ a k, sx_K σ a ≠ 1 → sx_K σ a ≠ 17 → sx_R u a k = sx_R σ a k) (h17 : ∀ a k r, sx_K σ a = 17 → sx_R u a k = some r → sx_K σ r = 9) (h1 : ∀ a k, sx_K σ a = 1 → sx_R u a k = sx_R σ a k ∨ ∃ r, sx_R u a k = some r ∧ sx_K σ r = 17) (hl : ∃ e, sx_R u c.w 1 = some e ∧ (sx_K σ e = 17 ∨ sx_K σ e = 0) ∧ e < sx_Z σ ∧ 0 ≤ nT c u ∧ nT c u ≤ nL c u ∧ nL c u ≤ 10 + 2 * nT c u) (hs : nT c u ≤ nE c σ + nF c σ + s') : GI c s' u ∧ GQ c σ u ∧ nF c u = nF c σ ∧ nE c u = nE c σ ∧ sx_I u c.L 8 = sx_I σ c.L 8 := by
  have kw := hg.rf.2.2.2.2
  have ne : ∀ a, sx_K σ a ≠ 1 → a ≠ c.w := fun a h e => h (by rw [e]; exact kw)
  have hLw : c.L ≠ c.w := ne _ (by rw [hg.kL]; decide)
  have hF : nF c u = nF c σ := by unfold nF; rw [hI _ _ hLw]
  have hE : nE c u = nE c σ := sumC_e 40 (fun i hi => by show (sx_I u (c.hx i) 2).toInt = _; rw [hI _ _ (ne _ (by rw [(hg.kf i hi).2.1]; decide))])
  have hop : ∀ f, OP c σ f → OP c u f := fun f => op_m (by omega)
  have h1' : ∀ a k r, sx_K σ a = 1 → sx_R u a k = some r → sx_R σ a k = some r ∨ sx_K σ r = 17 := by
    intro a k r ha hr
    rcases h1 a k ha with e | ⟨r', e, e2⟩
    · exact Or.inl (by rw [← e]; exact hr)
    · rw [hr] at e; cases e; exact Or.inr e2
  have hRk : ∀ a k m, sx_K σ a = m → m ≠ 1 ∧ m ≠ 17 → sx_R u a k = sx_R σ a k := fun a k m h h2 => hR a k (by rw [h]; exact h2.1) (by rw [h]; exact h2.2)
  refine ⟨⟨⟨?_, ?_, ?_⟩, ?_, ?_, ?_, ?_, ?_, ?_, ?_, hg.inj, ?_, ?_, ?_, by rw [hF]; exact hg.fc, ?_, ?_, ?_, ?_, ?_⟩, ⟨?_, ?_, ?_, by omega⟩, hF, hE, hI _ _ hLw⟩
  · intro a k hk
    rw [hK] at hk
    by_cases q : sx_K σ a = 1
    · rcases h1 a k q with e | ⟨r, e, -⟩
      · rw [e]; exact hg.ww.1 a k hk
      · exact ⟨r, e⟩
    · by_cases q2 : sx_K σ a = 17
      · rw [q2] at hk
        unfold nn at hk
        split at hk <;> simp at *
      · rw [hR a k q q2]; exact hg.ww.1 a k hk
  · intro a k r h0 hr
    rw [hK] at h0 ⊢
    by_cases q : sx_K σ a = 1
    · exfalso
      apply h0
      rw [q]
      unfold ty_r ty_f
      simp
    · by_cases q2 : sx_K σ a = 17
      · rw [h17 a k r q2 hr, q2]; rfl
      · rw [hR a k q q2] at hr; exact hg.ww.2.1 a k r h0 hr
  · rw [hK, hN]; exact hg.ww.2.2
  · rw [hK, hZ]; exact hg.zf
  · rw [hK]; exact hg.kL
  · rw [hK]
    intro x y p hx hy q1 q2
    rw [hRk x 0 7 hx (by decide)] at q1
    rw [hRk y 0 7 hy (by decide)] at q2
    exact hg.pi x y p hx hy q1 q2
  · rw [hK]
    intro x y p hx hy q1 q2
    rw [hRk x 0 3 hx (by decide)] at q1
    rw [hRk y 0 3 hy (by decide)] at q2
    exact hg.bi x y p hx hy q1 q2
  · rw [hK]
    intro x p hx q1
    rw [hRk x 0 7 hx (by decide)] at q1
    have hkp := hg.ww.2.1 x 0 p (by rw [hx]; decide) q1
    rw [hx] at hkp
    have hkp' : sx_K σ p = 5 := hkp
    have x0 : x ≠ c.w := ne _ (by rw [hx]; decide)
    have h9 := hg.ra x p hx q1
    unfold RI at h9 ⊢
    rw [hI x _ x0, hI x _ x0, hI x _ x0, hI x _ x0, hI x _ x0, hI x _ x0, hI x _ x0, hI p _ (ne _ (by rw [hkp']; decide))]
    exact h9
  · rw [hK]
    intro x hx
    have x0 : x ≠ c.w := ne _ (by rw [hx]; decide)
    obtain ⟨q1, q2⟩ := hg.ha x hx
    refine ⟨fun a ha z z0 z1 z2 => ?_, by rw [hI x _ x0]; exact q2⟩
    rw [hRk x 0 3 hx (by decide)] at ha
    have hka := hg.ww.2.1 x 0 a (by rw [hx]; decide) ha
    rw [hx] at hka
    have hka' : sx_K σ a = 12 := hka
    rw [hI x _ x0] at z1
    rw [hI a _ (ne _ (by rw [hka']; decide))] at z2
    exact q1 a ha z z0 z1 z2
  · rw [hK, hN]
    intro x b hx hb
    rw [hRk x 0 3 hx (by decide), hRk x 1 3 hx (by decide)] at hb
    exact hg.hn x b hx hb
  · rw [hK]
    intro i hi
    rw [hRk _ 1 2 (hg.kf i hi).1 (by decide), hRk _ i 15 hg.rf.2.1 (by decide)]
    exact hg.kf i hi
  · rw [hK]; exact hg.af
  · rw [hK, hN, hRk _ 2 10 hg.kL (by decide), hRk _ 3 10 hg.kL (by decide)]
    exact hg.rf
  · intro i hi hfi
    rw [hF] at hfi
    rw [hI _ _ (ne _ (by rw [(hg.kf i hi).2.1]; decide))]
    exact hg.nz i hi hfi
  · rw [hK]
    intro x b hx hb
    rw [hRk x 0 4 hx (by decide)] at hb
    obtain ⟨q1, q2⟩ := hg.la x b hx hb
    have hkb := hg.ww.2.1 x 0 b (by rw [hx]; decide) hb
    rw [hx] at hkb
    refine ⟨q1, fun k f hf => hop f (q2 k f ?_)⟩
    rw [hRk b k 15 hkb (by decide)] at hf
    exact hf
  · rw [hK]
    intro x f hx hf
    rw [hRk x 1 9 hx (by decide)] at hf
    exact hop f (hg.ta x f hx hf)
  · rw [hK, hZ]; exact hl
  · rw [hE, hF]; exact hs
  · rw [hK, hN]; exact fun _ _ => ⟨rfl, rfl⟩
  · intro a ha k
    have a1 : sx_K σ a ≠ 1 ∧ sx_K σ a ≠ 17 := by
      rcases ha with ha | ⟨ha | ha, -⟩ <;> rw [ha] <;> decide
    rw [hJ]
    exact ⟨hI a k (ne _ a1.1), rfl, hR a k a1.1 a1.2⟩
  · intro a ha h9
    obtain ⟨o, k, q1, q2, q3⟩ := h9
    rw [hK] at q1 q2
    by_cases q : sx_K σ o = 1
    · rcases h1' o k a q q3 with e | e
      · exact ⟨o, k, q1, q2, e⟩
      · omega
    · by_cases q4 : sx_K σ o = 17
      · have := h17 o k a q4 q3
        omega
      · rw [hR o k q q4] at q3
        exact ⟨o, k, q1, q2, q3⟩
theorem gq_t (h1 : GQ c σ v) (h2 : GQ c v u) : GQ c σ u := by
  obtain ⟨a1, a2, a3, a4⟩ := h1
  obtain ⟨b1, b2, b3, b4⟩ := h2
  have mo : ∀ a, MO σ a → MO v a := by
    intro a ha
    rcases ha with ha | ⟨ha, hc⟩
    · exact Or.inl ((a1 a (by rw [ha]; decide)).1.trans ha)
    · refine Or.inr ⟨?_, fun e => hc (a3 a ha e)⟩
      have hk := (a1 a (by rcases ha with e | e <;> rw [e] <;> decide)).1
      rw [hk]
      exact ha
  refine ⟨fun a ha => ?_, fun a ha k => ?_, fun a ha e => ?_, by omega⟩
  · have e1 := a1 a ha
    have e2 := b1 a (by rw [e1.1]; exact ha)
    exact ⟨e2.1.trans e1.1, e2.2.trans e1.2⟩
  · have e1 := a2 a ha k
    have e2 := b2 a (mo a ha) k
    exact ⟨e2.1.trans e1.1, e2.2.1.trans e1.2.1, e2.2.2.trans e1.2.2⟩
  · have hk := (a1 a (by rcases ha with e | e <;> rw [e] <;> decide)).1
    exact a3 a ha (b3 a (by rw [hk]; exact ha) e)
end G7
