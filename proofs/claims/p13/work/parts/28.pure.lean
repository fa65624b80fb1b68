def UP (c : CP) (s : Int) (σ u : sx_T) : Prop := GI c s u ∧ GR c σ u ∧ CK c σ u
theorem up_r {c : CP} {s : Int} {σ : sx_T} (h : GI c s σ) : UP c s σ σ := ⟨h, gr_r, rfl⟩
theorem up_t {c : CP} {s s' : Int} {σ v u : sx_T} (h1 : UP c s σ v) (h2 : UP c s' v u) : UP c s' σ u := ⟨h2.1, gr_t h1.2.1 h2.2.1, h2.2.2.trans h1.2.2⟩
/-- cells of runs, their piles, signals, rows -/
def KA (σ : sx_T) : Nat → Prop := fun a => sx_K σ a = 5 ∨ sx_K σ a = 7 ∨ sx_K σ a = 8 ∨ sx_K σ a = 13
theorem ri_f {A : Nat → Prop} {σ u : sx_T} {t p : Nat} (h : FA A σ u) (ht : ¬ A t) (hp : ¬ A p) (hr : RI σ t p) : RI u t p := by
  unfold RI at hr ⊢
  rw [h.2.2.2.2.2.1 t ht, h.2.2.2.2.2.1 t ht, h.2.2.2.2.2.1 t ht, h.2.2.2.2.2.1 t ht, h.2.2.2.2.2.1 t ht, h.2.2.2.2.2.1 t ht, h.2.2.2.2.2.1 t ht, h.2.2.2.2.2.1 p hp]
  exact hr
theorem ri_fk {A : Nat → Prop} {c : CP} {s : Int} {σ u : sx_T} (h : FA A σ u) (hg : GI c s σ) (hA : ∀ a, A a → sx_K σ a ≠ 5 ∧ sx_K σ a ≠ 7) : ∀ t p, sx_K σ t = 7 → sx_R σ t 0 = some p → RI σ t p → RI u t p := by
  intro t p ht hp hr
  have hkp := hg.ww.2.1 t 0 p (by rw [ht]; decide) hp
  rw [ht] at hkp
  exact ri_f h (fun e => (hA t e).2 ht) (fun e => (hA p e).1 hkp) hr
section G1
variable {c : CP} {s : Int} {σ : sx_T} {t n0 : Nat}
theorem gi_rc (hg : GI c s σ) (ht : sx_K σ t = 7) : ∃ p q h, RC σ t p q h := by
  obtain ⟨p, hp, kp, -⟩ := ww_r hg.ww (k := 0) ht rfl rfl (by decide)
  obtain ⟨q, hq, kq, -⟩ := ww_r hg.ww (k := 1) ht rfl rfl (by decide)
  obtain ⟨h, hh, kh, -⟩ := ww_r hg.ww (k := 3) ht rfl rfl (by decide)
  exact ⟨p, q, h, hg.ww, ht, ⟨hp, kp⟩, ⟨hq, kq⟩, hh, kh⟩
theorem pa_mo {a : Nat} (h : PA σ a) : ¬ MO σ a := fun e => by
  rcases e with e | e
  · rw [h.1] at e; cases e
  · exact e.2 h.2
theorem k_mo {a kd : Nat} (h : sx_K σ a = kd) (h1 : kd ≠ 11 ∧ kd ≠ 13 ∧ kd ≠ 14) : ¬ MO σ a := fun e => by
  unfold MO at e
  rw [h] at e
  omega
theorem ar_k {p q h a : Nat} (hc : RC σ t p q h) (ha : AR σ t p q a) : KA σ a ∧ ¬ MO σ a := by
  rcases ha with e | e | e | e
  · rw [e]; exact ⟨Or.inr (Or.inl hc.2.1), k_mo hc.2.1 (by decide)⟩
  · rw [e]; exact ⟨Or.inl hc.2.2.1.2, k_mo hc.2.2.1.2 (by decide)⟩
  · rw [e]; exact ⟨Or.inr (Or.inr (Or.inl hc.2.2.2.1.2)), k_mo hc.2.2.2.1.2 (by decide)⟩
  · exact ⟨Or.inr (Or.inr (Or.inr e.1)), pa_mo e⟩
theorem gi_run {u : sx_T} {p q h : Nat} (hg : GI c s σ) (hc : RC σ t p q h) (hf : FA (AR σ t p q) σ u) (hr : RI u t p) : UP c s σ u := by
  have hL : ¬ AR σ t p q c.L := fun e => by
    have h9 := (ar_k hc e).1
    unfold KA at h9
    rw [hg.kL] at h9
    omega
  have h1 := gi_fa hf hg (fun a ha => ?_) ?_ ?_
  · exact ⟨h1.1, h1.2, hf.2.2.2.2.2.1 _ hL 8⟩
  · have h9 := ar_k hc ha
    unfold KA at h9
    exact ⟨by omega, by omega, by omega, h9.2⟩
  · unfold nF
    rw [hf.2.2.2.2.2.1 _ hL 7]
  · intro t' p' ht' hp' hr'
    by_cases e : t' = t
    · subst e
      rw [hc.2.2.1.1] at hp'
      cases hp'
      exact hr
    · have hkp := hg.ww.2.1 t' 0 p' (by rw [ht']; decide) hp'
      rw [ht'] at hkp
      have hkp' : sx_K σ p' = 5 := hkp
      refine ri_f hf (fun q1 => ?_) (fun q1 => ?_) hr'
      · rcases q1 with q1 | q1 | q1 | q1
        · exact e q1
        · rw [q1, hc.2.2.1.2] at ht'; cases ht'
        · rw [q1, hc.2.2.2.1.2] at ht'; cases ht'
        · have q2 := q1.1; rw [ht'] at q2; cases q2
      · rcases q1 with q1 | q1 | q1 | q1
        · rw [q1, hc.2.1] at hkp'; cases hkp'
        · rw [q1] at hp'
          exact e (hg.pi t' t p ht' hc.2.1 hp' hc.2.2.1.1)
        · rw [q1, hc.2.2.2.1.2] at hkp'; cases hkp'
        · have q2 := q1.1; rw [hkp'] at q2; cases q2
theorem rv_b {X : Int} {p : Nat} (hX : X ≤ 140) (hr : RI σ t p) : RV σ t X ≤ 50000 := by
  obtain ⟨g1, -⟩ := ri_bounds hr
  unfold RV VV
  repeat' split
  all_goals omega
/-- what an advance leaves -/
def AD (σ u : sx_T) (t : Nat) (X : Int) : Prop := FA (KA σ) σ u ∧ ((sx_I u t 19).toInt = 0 → (sx_I u t 16).toInt ≠ -1 → X ≤ (sx_I u t 4).toInt)
theorem ok_advance {X : Int32} (hn : 1000001 ≤ n0) (hg : GI c s σ) (ht : sx_K σ t = 7) (hX : X.toInt ≤ 140) : Ok (f_X5_advance n0 σ t X) (fun u => UP c s σ u ∧ AD σ u t X.toInt) := by
  obtain ⟨p, q, h, hc⟩ := gi_rc hg ht
  have hr := hg.ra t p ht hc.2.2.1.1
  unfold f_X5_advance
  refine ok_m (ok_advance_l hn hX 50000 n0 σ 1 0 hc (hg.ha h hc.2.2.2.2.2).1 hr (rv_b hX hr) (by decide) (by decide) (by omega) (fun e => absurd e (by decide))) (fun u hu => ⟨gi_run hg hc hu.1 hu.2.1, fa_m hu.1 (fun a ha => (ar_k hc ha).1), hu.2.2⟩)
/-- an int of a workflow, a task, a line, the loomkeeper -/
theorem gi_I {a k : Nat} {x : Int32} (hg : GI c s σ) (h : sx_K σ a = 2 ∨ sx_K σ a = 4 ∨ sx_K σ a = 9 ∨ PA σ a ∨ (sx_K σ a = 10 ∧ k ≠ 7 ∧ k ≠ 8)) : UP c s σ (wx_I σ a k x) := by
  have hf : FA (fun b => b = a) σ (wx_I σ a k x) := fa_I rfl
  have hk : sx_K σ a = 2 ∨ sx_K σ a = 4 ∨ sx_K σ a = 9 ∨ sx_K σ a = 13 ∨ sx_K σ a = 10 := by
    rcases h with h | h | h | h | h
    · exact Or.inl h
    · exact Or.inr (Or.inl h)
    · exact Or.inr (Or.inr (Or.inl h))
    · exact Or.inr (Or.inr (Or.inr (Or.inl h.1)))
    · exact Or.inr (Or.inr (Or.inr (Or.inr h.1)))
  have hL : ∀ j, j = 7 ∨ j = 8 → sx_I (wx_I σ a k x) c.L j = sx_I σ c.L j := fun j hj => by
    rw [gI_I, if_neg]
    rintro ⟨e, e2⟩
    rw [← e, hg.kL] at hk h
    have hP : ¬ PA σ c.L := fun q => by have q := q.1; rw [hg.kL] at q; cases q
    rcases h with h | h | h | h | h
    · cases h
    · cases h
    · cases h
    · exact hP h
    · omega
  have h1 := gi_fa hf hg (fun b hb => ?_) ?_ (ri_fk hf hg (fun b hb => ?_))
  · exact ⟨h1.1, h1.2, hL 8 (Or.inr rfl)⟩
  · subst hb
    refine ⟨by omega, by omega, by omega, ?_⟩
    rcases h with h | h | h | h | h
    · exact k_mo h (by decide)
    · exact k_mo h (by decide)
    · exact k_mo h (by decide)
    · exact pa_mo h
    · exact k_mo h.1 (by decide)
  · unfold nF
    rw [hL 7 (Or.inl rfl)]
  · subst hb
    omega
end G1
