section G8
variable {c : CP} {s : Int} {σ : sx_T}
def LA (c : CP) (s : Int) (d : Int) (σ u : sx_T) : Prop := GI c s u ∧ GQ c σ u ∧ nT c u = nT c σ + d ∧ nF c u = nF c σ ∧ nE c u = nE c σ ∧ sx_I u c.L 8 = sx_I σ c.L 8 ∧ (sx_Z σ ≤ sx_Z u) ∧ (∀ a k, sx_K σ a ≠ 0 → a ≠ c.w → sx_I u a k = sx_I σ a k) ∧ (∀ a k, sx_K σ a ≠ 0 → sx_K σ a ≠ 1 → sx_K σ a ≠ 17 → sx_R u a k = sx_R σ a k)
theorem la_t {s1 s2 d1 d2 : Int} {v u : sx_T} (h1 : LA c s1 d1 σ v) (h2 : LA c s2 d2 v u) : LA c s2 (d1 + d2) σ u := by
  obtain ⟨a1, a2, a3, a4, a5, a6, a7, a8, a9⟩ := h1
  obtain ⟨b1, b2, b3, b4, b5, b6, b7, b8, b9⟩ := h2
  refine ⟨b1, gq_t a2 b2, by omega, by omega, by omega, b6.trans a6, by omega, fun a k h0 hw => ?_, fun a k h0 h1 h17 => ?_⟩
  · have hk := (a2.1 a h0).1
    rw [b8 a k (by rw [hk]; exact h0) hw, a8 a k h0 hw]
  · have hk := (a2.1 a h0).1
    rw [b9 a k (by rw [hk]; exact h0) (by rw [hk]; exact h1) (by rw [hk]; exact h17), a9 a k h0 h1 h17]
/-- the place behind the last one is filled -/
theorem la_put {a z : Nat} (hg : GI c s σ) (ha : sx_R σ c.w 1 = some a) (hk : sx_K σ a = 17) (hn : nT c σ < sx_N σ a) (hz : sx_K σ z = 9) (hT : nT c σ ≤ 6000) : Ok (fb_Jx4a65c_add_72be8_11 σ c.w (some z) (some a) (sx_I σ c.w 2)) (fun u => LA c (s + 1) 1 σ u ∧ sx_Z u = sx_Z σ ∧ sx_S u = sx_S σ ∧ nL c u = nL c σ) := by
  have kw := hg.rf.2.2.2.2
  have haw : c.w ≠ a := fun e => by rw [← e, kw] at hk; cases hk
  obtain ⟨e, w1, w2, w3, w4, w5, w6⟩ := hg.wl
  have hL : nL c σ = sx_N σ a := by unfold nL lenE; rw [ha]; show ((if sx_K σ a = 17 then sx_N σ a else 0 : Nat) : Int) = _; rw [if_pos hk]
  have e1 : (sx_I σ c.w 2 + 1).toInt = (sx_I σ c.w 2).toInt + 1 := n_add1 (by unfold nT at w4; omega) (by unfold nT at hT; omega)
  unfold fb_Jx4a65c_add_72be8_11
  refine ok_bq rfl (ok_gk hk (ok_ck (by unfold nT at w4 hn; omega) (ok_some ?_)))
  generalize hu : wx_I (wx_R σ a (ti (sx_I σ c.w 2)) (some z)) c.w 2 (sx_I σ c.w 2 + 1) = u
  have hR1 : ∀ b k, b ≠ a → sx_R u b k = sx_R σ b k := fun b k h => by rw [← hu, gR_I, gR_R, if_neg (fun q => h q.1)]
  have hTu : nT c u = nT c σ + 1 := by unfold nT; rw [← hu, gI_I, if_pos ⟨rfl, rfl⟩, e1]
  have hLu : nL c u = nL c σ := by
    rw [hL]
    unfold nL lenE
    rw [hR1 _ _ haw, ha, ← hu]
    show ((if sx_K σ a = 17 then sx_N σ a else 0 : Nat) : Int) = _
    rw [if_pos hk]
  have hI1 : ∀ b k, b ≠ c.w → sx_I u b k = sx_I σ b k := fun b k hb => by rw [← hu, gI_I, if_neg (fun q => hb q.1), gI_R]
  have hK : sx_K u = sx_K σ := by rw [← hu]; rfl
  have hN : sx_N u = sx_N σ := by rw [← hu]; rfl
  have hJ : sx_J u = sx_J σ := by rw [← hu]; rfl
  have hZ : sx_Z u = sx_Z σ := by rw [← hu]; rfl
  have hS : sx_S u = sx_S σ := by rw [← hu]; rfl
  have hw := hg.ws
  have h9 := gi_lst (u := u) (s' := s + 1) hg hK hN hZ hJ hI1 (fun b k _ h => hR1 b k (fun q => h (by rw [q]; exact hk))) ?_ (fun b k h => Or.inl (hR1 b k (fun q => by rw [q, hk] at h; cases h))) ⟨a, by rw [hR1 _ _ haw]; exact ha, Or.inl hk, hg.zf a (by rw [hk]; decide), by omega, by omega, by omega⟩ (by omega)
  · exact ⟨⟨h9.1, h9.2.1, hTu, h9.2.2.1, h9.2.2.2.1, h9.2.2.2.2, by omega, fun b k _ hb => hI1 b k hb, fun b k _ _ h => hR1 b k (fun q => h (by rw [q]; exact hk))⟩, hZ, hS, hLu⟩
  · intro b k r hb hr
    by_cases q : b = a ∧ k = ti (sx_I σ c.w 2)
    · rw [← hu, gR_I, gR_R, if_pos q] at hr
      cases hr
      exact hz
    · rw [← hu, gR_I, gR_R, if_neg q] at hr
      have h9 := hg.ww.2.1 b k r (by rw [hb]; unfold ty_r; simp) hr
      rw [hb] at h9
      exact h9
/-- another row is the list's -/
theorem la_row {a : Nat} (hg : GI c s σ) (hk : sx_K σ a = 17) (hn : nT c σ ≤ sx_N σ a) (hn2 : (sx_N σ a : Int) ≤ 10 + 2 * nT c σ) : LA c s 0 σ (wx_R σ c.w 1 (some a)) ∧ nL c (wx_R σ c.w 1 (some a)) = sx_N σ a := by
  have kw := hg.rf.2.2.2.2
  obtain ⟨e, w1, w2, w3, w4, w5, w6⟩ := hg.wl
  generalize hu : wx_R σ c.w 1 (some a) = u
  have hR1 : ∀ b k, b ≠ c.w → sx_R u b k = sx_R σ b k := fun b k h => by rw [← hu, gR_R, if_neg (fun q => h q.1)]
  have hRw : sx_R u c.w 1 = some a := by rw [← hu, gR_R, if_pos ⟨rfl, rfl⟩]
  have hTu : nT c u = nT c σ := by rw [← hu]; rfl
  have hLu : nL c u = sx_N σ a := by
    unfold nL lenE
    rw [hRw, ← hu]
    show ((if sx_K σ a = 17 then sx_N σ a else 0 : Nat) : Int) = _
    rw [if_pos hk]
  have hw := hg.ws
  have h9 := gi_lst (u := u) (s' := s) hg (by rw [← hu]; rfl) (by rw [← hu]; rfl) (by rw [← hu]; rfl) (by rw [← hu]; rfl) (fun b k hb => by rw [← hu, gI_R]) (fun b k h _ => hR1 b k (fun q => h (by rw [q]; exact kw))) (fun b k r hb hr => ?_) (fun b k h => ?_) ⟨a, hRw, Or.inl hk, hg.zf a (by rw [hk]; decide), by omega, by omega, by omega⟩ (by omega)
  · exact ⟨⟨h9.1, h9.2.1, by omega, h9.2.2.1, h9.2.2.2.1, h9.2.2.2.2, by rw [← hu]; exact Nat.le_refl _, fun b k _ hb => by rw [← hu, gI_R], fun b k _ h _ => hR1 b k (fun q => h (by rw [q]; exact kw))⟩, hLu⟩
  · rw [hR1 b k (fun q => by rw [q, kw] at hb; cases hb)] at hr
    have h9 := hg.ww.2.1 b k r (by rw [hb]; unfold ty_r; simp) hr
    rw [hb] at h9
    exact h9
  · by_cases q : b = c.w ∧ k = 1
    · right
      rw [q.1, q.2]
      exact ⟨a, hRw, hk⟩
    · left
      rw [← hu, gR_R, if_neg q]
/-- a new row -/
theorem la_new {n : Nat} (hg : GI c s σ) (hn : n ≤ 1000000) (τ : sx_T) (h1 : sx_K τ = sx_K (wx_N σ 17 n)) (h2 : sx_N τ = sx_N (wx_N σ 17 n)) (h3 : sx_I τ = sx_I (wx_N σ 17 n)) (h4 : sx_J τ = sx_J (wx_N σ 17 n)) (h5 : ∀ a k, a ≠ sx_Z σ → sx_R τ a k = sx_R σ a k) (h6 : ∀ k r, sx_R τ (sx_Z σ) k = some r → sx_K σ r = 9) (h7 : sx_Z τ = sx_Z σ + 1) : LA c s 0 σ τ ∧ nL c τ = nL c σ ∧ sx_K τ (sx_Z σ) = 17 ∧ sx_N τ (sx_Z σ) = n := by
  have e1 : sx_K τ (sx_Z σ) = 17 := by rw [h1]; exact if_pos rfl
  have e2 : sx_N τ (sx_Z σ) = n := by rw [h2]; exact if_pos rfl
  have hz : ∀ a, sx_K σ a ≠ 0 → a ≠ sx_Z σ := fun a ha e => by have := hg.zf a ha; omega
  have h9 := gi_new (v := τ) (kd := 17) hg (Or.inr rfl) e1 (fun a ha => ⟨by rw [h1]; exact if_neg ha, by rw [h2]; exact if_neg ha, fun k => by rw [h3]; exact if_neg ha, fun k => by rw [h4]; exact if_neg ha, fun k => h5 a k ha⟩) h7 (by rw [e2]; exact hn) (fun k r hr => ⟨Or.inr (h6 k r hr), fun _ => h6 k r hr⟩) (fun e => by cases e)
  obtain ⟨g1, g2, g3, g4, g5, g6, g7⟩ := h9
  exact ⟨⟨g1, g2, by omega, g5, g6, g7, by omega, fun a k h0 _ => by rw [h3]; exact if_neg (hz a h0), fun a k h0 _ _ => h5 a k (hz a h0)⟩, g4, e1, e2⟩
end G8
