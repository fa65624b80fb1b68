/-! an event, a task, a workflow more -/
section M2
variable {m : Nat} {σ v u : sx_T} {s : Int}
def AX (m : Nat) (w : Nat) (x4 : Int32) (x5 : Int64) (σ : sx_T) : sx_T := wx_I (wx_J (wx_I σ (m + 11) (160 * w + (mE m σ w).toNat) x4) (m + 12) (160 * w + (mE m σ w).toNat) x5) (m + 8) w (sx_I σ (m + 8) w + 1)
theorem ok_addsM {x1 x4 : Int32} {x5 : Int64} (hs : ST m σ) (h0 : 0 ≤ x1.toInt) (h1 : x1.toInt ≤ 40) (h2 : 0 ≤ mE m σ (ti x1)) (h3 : mE m σ (ti x1) < 140) : f_X9_adds σ m x1 x4 x5 = some (AX m (ti x1) x4 x5 σ) := by
  have key : Ok (f_X9_adds σ m x1 x4 x5) (fun u => u = AX m (ti x1) x4 x5 σ) := by
    unfold mE at h2 h3
    have e1 := n_160 (w := x1) (a := sx_I σ (m + 8) (ti x1)) h0 h1 (by omega) (by omega)
    have e2 := ti_160 (w := x1) (a := sx_I σ (m + 8) (ti x1)) h0 h1 h2 (by omega)
    have r8 : ∀ p, sx_I (wx_I σ (m + 11) p x4) (m + 8) (ti x1) = sx_I σ (m + 8) (ti x1) := fun p => by rw [gI_I, if_neg (by omega)]
    have b : 0 ≤ x1.toInt ∧ x1.toInt < ((sx_N σ (m + 8) : Nat) : Int) := by rw [hs.n8]; exact ⟨h0, by omega⟩
    unfold f_X9_adds
    refine ok_qv (ok_qb hs.r11 (ok_ck b (ok_bq hs.r14 (ok_ck ?_ (ok_qv (ok_qb hs.r11 (ok_ck b (ok_bq hs.r15 (ok_ck ?_ (ok_qb hs.r11 (ok_ck b (ok_ck b (ok_some ?_)))))))))))))
    · rw [hs.n11]; omega
    · rw [hs.n12, r8]; omega
    · rw [r8, e2, gI_J, r8]
      rfl
  obtain ⟨u, h4, rfl⟩ := key
  exact h4
section AXS
variable {w : Nat} {x4 : Int32} {x5 : Int64}
theorem ax_f : FA (MC m) σ (AX m w x4 x5 σ) := fa_t (fa_I (mc_j (by omega))) (fa_t (fa_J (mc_j (by omega))) (fa_I (mc_j (by omega))))
theorem ax_m {k : Nat} : sx_I (AX m w x4 x5 σ) m k = sx_I σ m k := by
  unfold AX
  rw [gI_I, if_neg (by omega), gI_J, gI_I, if_neg (by omega)]
theorem ax_j {j k : Nat} (h1 : j ≠ 8) (h2 : j ≠ 11) : sx_I (AX m w x4 x5 σ) (m + j) k = sx_I σ (m + j) k := by
  unfold AX
  rw [gI_I, if_neg (by omega), gI_J, gI_I, if_neg (by omega)]
theorem ax_E (h0 : 0 ≤ mE m σ w) (h1 : mE m σ w < 1000) : mE m (AX m w x4 x5 σ) w = mE m σ w + 1 := by
  unfold mE at h0 h1 ⊢
  unfold AX
  rw [gI_I, if_pos ⟨rfl, rfl⟩, n_add1 (by omega) (by omega)]
theorem ax_E' {w' : Nat} (h : w' ≠ w) : mE m (AX m w x4 x5 σ) w' = mE m σ w' := by
  unfold mE AX
  rw [gI_I, if_neg (by omega), gI_J, gI_I, if_neg (by omega)]
theorem ax_v {q : Nat} : sx_I (AX m w x4 x5 σ) (m + 11) q = if q = 160 * w + (mE m σ w).toNat then x4 else sx_I σ (m + 11) q := by
  unfold AX
  rw [gI_I, if_neg (by omega), gI_J, gI_I]
  by_cases e : q = 160 * w + (mE m σ w).toNat
  · rw [if_pos ⟨rfl, e⟩, if_pos e]
  · rw [if_neg (fun h => e h.2), if_neg e]
theorem ax_J {q : Nat} (h : q ≠ 160 * w + (mE m σ w).toNat) : sx_J (AX m w x4 x5 σ) (m + 12) q = sx_J σ (m + 12) q := by
  unfold AX
  rw [gJ_I, gJ_J, if_neg (fun e => h e.2), gJ_I]
theorem ax_c {x : Int32} : ∀ n, n ≤ (mE m σ w).toNat → cn m (AX m w x4 x5 σ) x w n = cn m σ x w n := fun n hn => cn_e n (fun k hk => by rw [ax_v, if_neg (by omega)])
theorem ax_c1 {x : Int32} : cn m (AX m w x4 x5 σ) x w ((mE m σ w).toNat + 1) = cn m σ x w (mE m σ w).toNat + if x4 = x then 1 else 0 := by
  show cn m (AX m w x4 x5 σ) x w (mE m σ w).toNat + (if sx_I (AX m w x4 x5 σ) (m + 11) (160 * w + (mE m σ w).toNat) = x then 1 else 0) = _
  rw [ax_c _ (Nat.le_refl _), ax_v, if_pos rfl]
theorem ax_c' {x : Int32} {w' : Nat} (h : w' ≠ w) (hE : (mE m σ w).toNat < 160) : ∀ n, n ≤ 160 → cn m (AX m w x4 x5 σ) x w' n = cn m σ x w' n := fun n hn => cn_e n (fun k hk => by rw [ax_v, if_neg (by omega)])
end AXS
theorem lr_ax {w : Nat} {x4 : Int32} {x5 : Int64} (hb : ∀ w, w < 41 → 0 ≤ mE m σ w ∧ mE m σ w ≤ 140) (hw : w < 41) : LR m σ (AX m w x4 x5 σ) := by
  have h0 := hb w hw
  have eW : mW m (AX m w x4 x5 σ) = mW m σ := by unfold mW; rw [ax_m]
  refine ⟨⟨⟨ax_f, fun _ _ => ax_m, fun j p q k => ax_j (by omega) (by omega), ⟨by unfold mW; rw [ax_m]; exact Int.le_refl _, by unfold mT; rw [ax_m]; exact Int.le_refl _⟩, fun w' _ j p q => ax_j (by omega) (by omega), fun w' hw' => ?_, fun w' hw' k hk => ?_, fun t _ => ax_j (by omega) (by omega)⟩, fun w' _ p q => by omega⟩, ax_m, fun j hj k => ax_j (by omega) (by omega)⟩
  · by_cases e : w' = w
    · rw [e, ax_E h0.1 (by omega)]
      omega
    · rw [ax_E' e]
      exact Int.le_refl _
  · have hk2 := (hb w' hw').2
    have hne : 160 * w' + k ≠ 160 * w + (mE m σ w).toNat := by
      by_cases e : w' = w
      · subst e; omega
      · omega
    rw [ax_v, if_neg hne, ax_J hne]
    exact ⟨rfl, rfl⟩
theorem MI.eb (h : MI m s σ) : ∀ w, w < 41 → 0 ≤ mE m σ w ∧ mE m σ w ≤ 140 := fun w hw => (h.pw w hw).2.2.1
theorem mi_adds {w : Nat} {x4 : Int32} {x5 : Int64} {d : Int} (h : MI m s σ) (hw : (w : Int) < mW m σ) (hE : mE m σ w < 140) (h6 : x4 = 6 ∨ x4 = 12 → mE m σ w < 90) (h1 : x4 = 1 → cn m σ 1 w (mE m σ w).toNat ≤ 29) (h11 : x4 = 11 → cn m σ 11 w (mE m σ w).toNat ≤ 19) (hd : d = 0 ∨ (d = 1 ∧ (x4 = 1 ∨ x4 = 11))) : MI m (s + d) (AX m w x4 x5 σ) := by
  have hwf := h.wf
  have hw4 : w < 40 := by omega
  have hE0 := (h.eb w (by omega)).1
  have eW : mW m (AX m w x4 x5 σ) = mW m σ := by unfold mW; rw [ax_m]
  have eT : mT m (AX m w x4 x5 σ) = mT m σ := by unfold mT; rw [ax_m]
  have eE := ax_E (m := m) (σ := σ) (w := w) (x4 := x4) (x5 := x5) hE0 (by omega)
  have eEn : (mE m σ w + 1).toNat = (mE m σ w).toNat + 1 := by omega
  have b1 := ax_c1 (m := m) (σ := σ) (w := w) (x4 := x4) (x5 := x5) (x := 1)
  have b11 := ax_c1 (m := m) (σ := σ) (w := w) (x4 := x4) (x5 := x5) (x := 11)
  have hno : ¬ (x4 = 1 ∧ x4 = 11) := fun e => by have := e.1.symm.trans e.2; revert this; decide
  refine ⟨st_f ax_f h.st, by rw [eW]; exact h.wf, fun w' hw' => ?_, ?_, ?_, ?_, ?_, ?_⟩
  · have hp := h.pw w' hw'
    unfold PW at hp ⊢
    rw [ax_j (by decide) (by decide), ax_j (by decide) (by decide)]
    by_cases e : w' = w
    · subst e
      obtain ⟨p1, p2, p3, p4, p5, p6⟩ := hp
      rw [eE, eEn, b1, b11]
      refine ⟨p1, p2, ⟨by omega, by omega⟩, fun k hk hk2 => ?_, ?_, ?_⟩
      · rw [ax_v] at hk2
        by_cases e2 : 160 * w' + k = 160 * w' + (mE m σ w').toNat
        · rw [if_pos e2] at hk2
          have := h6 hk2
          omega
        · rw [if_neg e2] at hk2
          exact p4 k (by omega) hk2
      · split
        · next c => have := h1 c; omega
        · omega
      · split
        · next c => have := h11 c; omega
        · omega
    · have hb := (h.eb w' hw').2
      rw [ax_E' e, ax_c' e (by omega) _ (by omega), ax_c' e (by omega) _ (by omega)]
      refine ⟨hp.1, hp.2.1, hp.2.2.1, fun k hk hk2 => ?_, hp.2.2.2.2⟩
      rw [ax_v, if_neg (by omega)] at hk2
      exact hp.2.2.2.1 k hk hk2
  · intro w' hw'
    rw [eW] at hw' ⊢
    rw [ax_j (by decide) (by decide)]
    exact h.pa w' hw'
  · intro w' h2 h3
    rw [eW] at h3
    rw [ax_E' (by omega)]
    exact h.e0 w' h2 h3
  · rw [eT, eW]
    have hsum : ∃ d', (d ≤ d') ∧ sumC (wt m (AX m w x4 x5 σ)) (mW m σ).toNat = sumC (wt m σ) (mW m σ).toNat + d' := by
      refine ⟨(if x4 = 1 then 1 else 0) + (if x4 = 11 then 1 else 0), ?_, sumC_1 (j := w) _ (by omega) ?_ (fun i hi hij => ?_)⟩
      · rcases hd with rfl | ⟨rfl, e | e⟩
        · split <;> split <;> decide
        · rw [if_pos e]; split <;> decide
        · rw [if_pos e]; split <;> decide
      · unfold wt
        rw [eE, eEn, b1, b11, ax_j (by decide) (by decide)]
        omega
      · unfold wt
        have hb := (h.eb i (by omega)).2
        rw [ax_E' hij, ax_c' hij (by omega) _ (by omega), ax_c' hij (by omega) _ (by omega), ax_j (by decide) (by decide)]
    obtain ⟨d', h7, h8⟩ := hsum
    have := h.tk
    omega
  · intro t ht
    rw [eT] at ht
    rw [eW, ax_j (by decide) (by decide)]
    exact h.ow t ht
  · intro k hk
    rw [ax_j (by decide) (by decide), ax_j (by decide) (by decide)]
    exact h.fi k hk
/-- fields and rows that stand -/
def SF (m lo : Nat) (σ u : sx_T) : Prop := (∀ k, lo ≤ k → sx_I u m k = sx_I σ m k) ∧ ∀ j, (j = 9 ∨ 20 ≤ j) → j ≤ 25 → ∀ k, sx_I u (m + j) k = sx_I σ (m + j) k
theorem sf_r {lo : Nat} : SF m lo σ σ := ⟨fun _ _ => rfl, fun _ _ _ _ => rfl⟩
theorem sf_t {lo : Nat} (h1 : SF m lo σ v) (h2 : SF m lo v u) : SF m lo σ u := ⟨fun k hk => (h2.1 k hk).trans (h1.1 k hk), fun j p q k => (h2.2 j p q k).trans (h1.2 j p q k)⟩
theorem sf_le {lo lo' : Nat} (h : SF m lo σ u) (hl : lo ≤ lo') : SF m lo' σ u := ⟨fun k hk => h.1 k (by omega), h.2⟩
theorem sf_ax {w : Nat} {x4 : Int32} {x5 : Int64} : SF m 0 σ (AX m w x4 x5 σ) := ⟨fun _ _ => ax_m, fun j p q k => ax_j (by omega) (by omega)⟩
theorem sf_I {lo k : Nat} {x : Int32} (h : SF m lo σ u) (hk : k < lo) : SF m lo σ (wx_I u m k x) := ⟨fun j hj => by rw [gI_I, if_neg (by omega)]; exact h.1 j hj, fun j p q i => by rw [gI_I, if_neg (by omega)]; exact h.2 j p q i⟩
/-- a task -/
theorem ok_makesTask {x1 x2 : Int32} {d : Int} (h : MI m s σ) (h0 : 0 ≤ x1.toInt) (hw : x1.toInt < mW m σ) (hd : d = 0 ∨ (d = 1 ∧ sx_I σ (m + 10) (ti x1) = -1)) (hs : 1 ≤ s + d) : Ok (f_X9_makesTask σ m x1 x2) (fun r => MI m (s + d - 1) r.2 ∧ LR m σ r.2 ∧ SF m 17 σ r.2 ∧ (∀ w, mE m r.2 w = mE m σ w) ∧ (∀ k, sx_I r.2 (m + 11) k = sx_I σ (m + 11) k) ∧ sx_I r.2 m 6 = sx_I σ m 6) := by
  have hb := mt_b h
  have hk := h.tk
  have hwf := h.wf
  have hs' := h.st
  have tw := ti_of h0
  unfold f_X9_makesTask
  have hT : 0 ≤ (sx_I σ m 16).toInt ∧ (sx_I σ m 16).toInt < ((2100 : Nat) : Int) := by unfold mT at hb hk; omega
  refine ok_qb hs'.r17 (ok_ck (by rw [hs'.n13]; exact hT) (ok_qb hs'.r18 (ok_ck (by rw [hs'.n14]; exact hT) (ok_qb hs'.r19 (ok_ck (by rw [hs'.n15]; exact hT) (ok_qb hs'.r13 (ok_ck (by rw [hs'.n10]; omega) (ok_some ?_))))))))
  generalize ht : ti (sx_I σ m 16) = t
  have htT : (t : Int) = mT m σ := by rw [← ht]; exact ti_of hT.1
  generalize hu : wx_I (wx_I (wx_I (wx_I (wx_I σ (m + 13) t x1) (m + 14) t x2) (m + 15) t 0) (m + 10) (ti x1) (sx_I σ m 16)) m 16 (sx_I σ m 16 + 1) = u
  have e1 : (sx_I σ m 16 + 1).toInt = (sx_I σ m 16).toInt + 1 := n_add1 (by omega) (by omega)
  have fm : ∀ k, k ≠ 16 → sx_I u m k = sx_I σ m k := fun k hk => by
    rw [← hu, gI_I, if_neg (by omega), gI_I, if_neg (by omega), gI_I, if_neg (by omega), gI_I, if_neg (by omega), gI_I, if_neg (by omega)]
  have fj : ∀ j k, 1 ≤ j → j ≠ 13 → j ≠ 14 → j ≠ 15 → j ≠ 10 → sx_I u (m + j) k = sx_I σ (m + j) k := fun j k q0 q1 q2 q3 q4 => by
    rw [← hu, gI_I, if_neg (by omega), gI_I, if_neg (by omega), gI_I, if_neg (by omega), gI_I, if_neg (by omega), gI_I, if_neg (by omega)]
  have f16 : sx_I u m 16 = sx_I σ m 16 + 1 := by rw [← hu, gI_I, if_pos ⟨rfl, rfl⟩]
  have f10 : ∀ k, sx_I u (m + 10) k = if k = ti x1 then sx_I σ m 16 else sx_I σ (m + 10) k := fun k => by
    rw [← hu, gI_I, if_neg (by omega), gI_I]
    by_cases e : k = ti x1
    · rw [if_pos ⟨rfl, e⟩, if_pos e]
    · rw [if_neg (fun q => e q.2), if_neg e, gI_I, if_neg (by omega), gI_I, if_neg (by omega), gI_I, if_neg (by omega)]
  have f13 : ∀ k, sx_I u (m + 13) k = if k = t then x1 else sx_I σ (m + 13) k := fun k => by
    rw [← hu, gI_I, if_neg (by omega), gI_I, if_neg (by omega), gI_I, if_neg (by omega), gI_I, if_neg (by omega), gI_I]
    by_cases e : k = t
    · rw [if_pos ⟨rfl, e⟩, if_pos e]
    · rw [if_neg (fun q => e q.2), if_neg e]
  have hJ : ∀ a k, sx_J u a k = sx_J σ a k := fun a k => by rw [← hu]; rfl
  have hf : FA (MC m) σ u := by
    rw [← hu]
    exact fa_t (fa_I (mc_j (by omega))) (fa_t (fa_I (mc_j (by omega))) (fa_t (fa_I (mc_j (by omega))) (fa_t (fa_I (mc_j (by omega))) (fa_I mc_0))))
  have eW : mW m u = mW m σ := by unfold mW; rw [fm 6 (by decide)]
  have eT : mT m u = mT m σ + 1 := by unfold mT; rw [f16, e1]
  have eE : ∀ w, mE m u w = mE m σ w := fun w => by unfold mE; rw [fj 8 w (by decide) (by decide) (by decide) (by decide) (by decide)]
  have ev : ∀ k, sx_I u (m + 11) k = sx_I σ (m + 11) k := fun k => fj 11 k (by decide) (by decide) (by decide) (by decide) (by decide)
  have ec : ∀ x w n, cn m u x w n = cn m σ x w n := fun x w n => cn_e n (fun k _ => ev _)
  show MI m (s + d - 1) u ∧ LR m σ u ∧ SF m 17 σ u ∧ (∀ w, mE m u w = mE m σ w) ∧ (∀ k, sx_I u (m + 11) k = sx_I σ (m + 11) k) ∧ sx_I u m 6 = sx_I σ m 6
  refine ⟨⟨st_f hf h.st, by rw [eW]; exact h.wf, fun w hw' => ?_, ?_, ?_, ?_, ?_, ?_⟩, ⟨⟨⟨hf, fun k hk => fm k (by omega), fun j p q k => fj j k (by omega) (by omega) (by omega) (by omega) (by omega), ⟨by omega, by omega⟩, fun w _ j p q => fj j w (by omega) (by omega) (by omega) (by omega) (by omega), fun w _ => by rw [eE]; exact Int.le_refl _, fun w _ k _ => ⟨ev _, hJ _ _⟩, fun t' ht' => ?_⟩, fun w _ p q => by omega⟩, fm 43 (by decide), fun j hj k => fj j k (by omega) (by omega) (by omega) (by omega) (by omega)⟩, ⟨fun k hk' => fm k (by omega), fun j p q k => fj j k (by omega) (by omega) (by omega) (by omega) (by omega)⟩, eE, ev, fm 6 (by decide)⟩
  · have hp := h.pw w hw'
    unfold PW at hp ⊢
    rw [fj 4 w (by decide) (by decide) (by decide) (by decide) (by decide), fj 5 w (by decide) (by decide) (by decide) (by decide) (by decide), eE, ec, ec]
    refine ⟨hp.1, hp.2.1, hp.2.2.1, fun k => ?_, hp.2.2.2.2⟩
    rw [ev]
    exact hp.2.2.2.1 k
  · intro w hw'
    rw [eW] at hw' ⊢
    rw [fj 5 w (by decide) (by decide) (by decide) (by decide) (by decide)]
    exact h.pa w hw'
  · intro w h2 h3
    rw [eW] at h3
    rw [eE]
    exact h.e0 w h2 h3
  · rw [eT, eW]
    have hm1 : ¬ sx_I σ m 16 = -1 := fun e => by rw [e] at hT; exact absurd hT.1 (by decide)
    have hsum : ∃ d', d ≤ d' ∧ sumC (wt m u) (mW m σ).toNat = sumC (wt m σ) (mW m σ).toNat + d' := by
      refine ⟨if sx_I σ (m + 10) (ti x1) = -1 then 1 else 0, ?_, sumC_1 (j := ti x1) _ (by omega) ?_ (fun i hi hij => ?_)⟩
      · rcases hd with rfl | ⟨rfl, e⟩
        · split <;> decide
        · rw [if_pos e]; decide
      · unfold wt
        rw [eE, ec, ec, f10, if_pos rfl, if_neg hm1]
        split <;> omega
      · unfold wt
        rw [eE, ec, ec, f10, if_neg hij]
    obtain ⟨d', h7, h8⟩ := hsum
    omega
  · intro t' ht'
    rw [eT] at ht'
    rw [eW, f13]
    by_cases e : t' = t
    · rw [if_pos e]; exact ⟨h0, hw⟩
    · rw [if_neg e]; exact h.ow t' (by omega)
  · intro k hk'
    rw [fj 2 k (by decide) (by decide) (by decide) (by decide) (by decide), fj 1 k (by decide) (by decide) (by decide) (by decide) (by decide)]
    exact h.fi k hk'
  · rw [f13, if_neg (by omega)]
end M2
