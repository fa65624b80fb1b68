section G9
variable {c : CP} {s : Int} {σ : sx_T}
theorem ok_maxv {x y : Int32} : ∃ r, f_J9_max_7cf53 σ x y = some r ∧ r.toInt = max x.toInt y.toInt := by
  unfold f_J9_max_7cf53
  split
  · rename_i h
    simp only [n_le, n_lt] at h
    exact ⟨_, rfl, by omega⟩
  · rename_i h
    simp only [n_le, n_lt] at h
    exact ⟨_, rfl, by omega⟩
theorem la_mod {x : Int32} (hg : GI c s σ) : LA c s 0 σ (wx_I σ c.w 0 x) ∧ nL c (wx_I σ c.w 0 x) = nL c σ := by
  have hT : nT c (wx_I σ c.w 0 x) = nT c σ := by unfold nT; rw [gI_I, if_neg (by omega)]
  obtain ⟨e, w1, w2, w3, w4, w5, w6⟩ := hg.wl
  have hL : nL c (wx_I σ c.w 0 x) = nL c σ := rfl
  have hw := hg.ws
  have hI : ∀ b k, b ≠ c.w → sx_I (wx_I σ c.w 0 x) b k = sx_I σ b k := fun b k hb => by rw [gI_I, if_neg (fun q => hb q.1)]
  have h9 := gi_lst (u := wx_I σ c.w 0 x) (s' := s) hg rfl rfl rfl rfl hI (fun _ _ _ _ => rfl) (fun b k r hb hr => ?_) (fun _ _ _ => Or.inl rfl) ⟨e, w1, w2, w3, by omega, by omega, by omega⟩ (by omega)
  · exact ⟨⟨h9.1, h9.2.1, by omega, h9.2.2.1, h9.2.2.2.1, h9.2.2.2.2, Nat.le_refl _, fun b k _ hb => hI b k hb, fun _ _ _ _ _ => rfl⟩, hL⟩
  · have h9 := hg.ww.2.1 b k r (by rw [hb]; unfold ty_r; simp) hr
    rw [hb] at h9
    exact h9
def GW (c : CP) (s : Int) (σ : sx_T) (r : Option Nat × sx_T) : Prop := ∃ a, r.1 = some a ∧ LA c s 0 σ r.2 ∧ sx_R r.2 c.w 1 = some a ∧ sx_K r.2 a = 17 ∧ nT c r.2 < sx_N r.2 a ∧ sx_Z r.2 = sx_Z σ + 1 ∧ sx_S r.2 = sx_S σ + sx_N r.2 a ∧ 4 * nL c σ ≤ 3 * (sx_N r.2 a : Int) + 2 ∧ nL c r.2 = sx_N r.2 a
theorem gw_new {n : Nat} (hg : GI c s σ) (hn : n ≤ 100000) (hn2 : nT c σ < n) (hn3 : (n : Int) ≤ 10 + 2 * nT c σ) (hn4 : 4 * nL c σ ≤ 3 * (n : Int) + 2) (τ : sx_T) (h1 : sx_K τ = sx_K (wx_N σ 17 n)) (h2 : sx_N τ = sx_N (wx_N σ 17 n)) (h3 : sx_I τ = sx_I (wx_N σ 17 n)) (h4 : sx_J τ = sx_J (wx_N σ 17 n)) (h5 : ∀ a k, a ≠ sx_Z σ → sx_R τ a k = sx_R σ a k) (h6 : ∀ k r, sx_R τ (sx_Z σ) k = some r → sx_K σ r = 9) (h7 : sx_Z τ = sx_Z σ + 1) (h8 : sx_S τ = sx_S σ + n) : GW c s σ (some (sx_Z σ), wx_R τ c.w 1 (some (sx_Z σ))) := by
  obtain ⟨g1, g2, g3, g4⟩ := la_new hg (by omega) τ h1 h2 h3 h4 h5 h6 h7
  have hT := g1.2.2.1
  obtain ⟨q1, q2⟩ := la_row g1.1 g3 (by omega) (by omega)
  have q3 := q1.2.2.1
  refine ⟨sx_Z σ, rfl, la_t g1 q1, by rw [gR_R, if_pos ⟨rfl, rfl⟩], g3, ?_, h7, ?_, ?_, q2⟩
  · show nT c (wx_R τ c.w 1 (some (sx_Z σ))) < (sx_N τ (sx_Z σ) : Int)
    omega
  · show sx_S τ = sx_S σ + sx_N τ (sx_Z σ)
    omega
  · show 4 * nL c σ ≤ 3 * (sx_N τ (sx_Z σ) : Int) + 2
    omega
theorem ok_grow (hg : GI c s σ) (hT : nT c σ ≤ 6000) {e : Nat} (he : sx_R σ c.w 1 = some e) (hf : sx_I σ c.w 2 = Int32.ofNat (lenE σ e)) : Ok (f_Jx4a65c_grow_d5877 σ c.w) (fun r => GW c s σ r) := by
  obtain ⟨e', w1, w2, w3, w4, w5, w6⟩ := hg.wl
  rw [he] at w1
  cases w1
  have hL : nL c σ = lenE σ e := by unfold nL; rw [he]
  have hlen : lenE σ e ≤ 1000000 := by omega
  have hTe : nT c σ = lenE σ e := by unfold nT; rw [hf, n_ofNat hlen]
  have hTt : (sx_I σ c.w 2).toInt = lenE σ e := hTe
  have e1 : (sx_I σ c.w 2 + 1).toInt = (lenE σ e : Int) + 1 := by
    rw [n_add1 (by omega) (by omega)]; omega
  have hez : e ≠ sx_Z σ := by omega
  have k20 : sx_K σ e = 17 → Ok (fb_Jx4a65c_grow_92f84_20 σ c.w (sx_I σ c.w 2 + 1) (Int32.ofNat (lenE σ e))) (fun r => GW c s σ r) := by
    intro hk
    have hNe : lenE σ e = sx_N σ e := by unfold lenE; rw [if_pos hk]
    have eo := n_ofNat hlen
    have es : (sx_I σ c.w 2 + 1 - Int32.ofNat (lenE σ e)).toInt = 1 := by
      rw [n_sub (by omega) (by omega)]; omega
    have eh := n_half (x := Int32.ofNat (lenE σ e)) (by omega)
    obtain ⟨r, hr, hrv⟩ := ok_maxv (σ := σ) (x := sx_I σ c.w 2 + 1 - Int32.ofNat (lenE σ e)) (y := Int32.ofNat (lenE σ e) >>> (1 &&& 31))
    have er : (Int32.ofNat (lenE σ e) + r).toInt = (lenE σ e : Int) + r.toInt := by
      rw [n_add (by omega) (by omega)]; omega
    have l2 : (2147483639 : Int32).toInt = 2147483639 := by decide
    have hnew : f_J8_newLength_cabcc σ (Int32.ofNat (lenE σ e)) (sx_I σ c.w 2 + 1 - Int32.ofNat (lenE σ e)) (Int32.ofNat (lenE σ e) >>> (1 &&& 31)) = some (Int32.ofNat (lenE σ e) + r) := by
      unfold f_J8_newLength_cabcc
      rw [hr]
      show (if Int32.ofNat (lenE σ e) + r ≤ 0 then _ else _) = _
      rw [if_neg (by rw [n_le, er, l_0]; omega), if_neg (by rw [n_lt, er, l2]; omega)]
    have hti := ti_of (x := Int32.ofNat (lenE σ e) + r) (by omega)
    unfold fb_Jx4a65c_grow_92f84_20 f_copyOf
    refine ok_bre hnew (ok_qv (ok_bd (Q := fun q => q = (some (sx_Z σ), u_copyOf σ e (Int32.ofNat (lenE σ e) + r))) (ok_bq he (ok_gk hk (ok_lim (by omega) (ok_p (by omega) (ok_some rfl))))) (fun r6 u7 hq => ?_)))
    cases hq
    refine ok_some (gw_new (n := ti (Int32.ofNat (lenE σ e) + r)) hg (by omega) (by omega) (by omega) (by omega) _ rfl rfl rfl rfl (fun a k ha => ?_) (fun k q hq => ?_) rfl rfl)
    · show (if a = sx_Z σ ∧ k < sx_N σ e then _ else if a = sx_Z σ then none else sx_R σ a k) = _
      rw [if_neg (fun q => ha q.1), if_neg ha]
    · have hq' : (if sx_Z σ = sx_Z σ ∧ k < sx_N σ e then (if e = sx_Z σ then none else sx_R σ e k) else if sx_Z σ = sx_Z σ then none else sx_R σ (sx_Z σ) k) = some q := hq
      rw [if_neg hez] at hq'
      split at hq'
      · have h9 := hg.ww.2.1 e k q (by rw [hk]; unfold ty_r; simp) hq'
        rw [hk] at h9
        exact h9
      · rw [if_pos rfl] at hq'
        cases hq'
  unfold f_Jx4a65c_grow_d5877 f_Jx4a65c_grow_92f84
  refine ok_bd (Q := fun r => GW c s σ r) (ok_qb he (ok_ite (fun c1 => k20 ?_) (fun c1 => ok_qb he (ok_ite (fun c2 => k20 c2) (fun c2 => ?_))))) (fun r u hq => ok_some hq)
  · rw [n_lt, l_0, n_ofNat hlen] at c1
    unfold lenE at c1
    split at c1
    · assumption
    · omega
  · have hl0 : lenE σ e = 0 := by unfold lenE; rw [if_neg c2]
    obtain ⟨r, hr, hrv⟩ := ok_maxv (σ := σ) (x := 10) (y := sx_I σ c.w 2 + 1)
    have l10 : (10 : Int32).toInt = 10 := by decide
    rw [l10, e1] at hrv
    have hti := ti_of (x := r) (by omega)
    refine ok_bre hr (ok_lim (by omega) (ok_qn (ok_some ?_)))
    refine gw_new (n := ti r) hg (by omega) (by omega) (by omega) (by omega) (wx_N σ 17 (ti r)) rfl rfl rfl rfl (fun a k ha => if_neg ha) (fun k q hq => ?_) rfl rfl
    have hq' : (if sx_Z σ = sx_Z σ then none else sx_R σ (sx_Z σ) k) = some q := hq
    rw [if_pos rfl] at hq'
    cases hq'
/-- a task is put behind the others -/
theorem ok_listAdd {z : Nat} (hg : GI c s σ) (hz : sx_K σ z = 9) (hT : nT c σ ≤ 6000) : Ok (f_Jx4a65c_add_9ea2d σ c.w (some z)) (fun r => LA c (s + 1) 1 σ r.2 ∧ sx_Z r.2 ≤ sx_Z σ + 1 ∧ (sx_S r.2 : Int) + 4 * nL c σ ≤ sx_S σ + 2 + 4 * nL c r.2) := by
  obtain ⟨e, w1, w2, w3, w4, w5, w6⟩ := hg.wl
  obtain ⟨m1, m2⟩ := la_mod (x := sx_I σ c.w 0 + 1) hg
  have hI2 : sx_I (wx_I σ c.w 0 (sx_I σ c.w 0 + 1)) c.w 2 = sx_I σ c.w 2 := by rw [gI_I, if_neg (by omega)]
  have hZ1 : sx_Z (wx_I σ c.w 0 (sx_I σ c.w 0 + 1)) = sx_Z σ := rfl
  have hS1 : sx_S (wx_I σ c.w 0 (sx_I σ c.w 0 + 1)) = sx_S σ := rfl
  have hR1 : sx_R (wx_I σ c.w 0 (sx_I σ c.w 0 + 1)) c.w 1 = some e := w1
  have hz1 : sx_K (wx_I σ c.w 0 (sx_I σ c.w 0 + 1)) z = 9 := hz
  unfold f_Jx4a65c_add_9ea2d f_Jx4a65c_add_72be8
  refine ok_qv ?_
  rw [← hI2]
  generalize wx_I σ c.w 0 (sx_I σ c.w 0 + 1) = τ at m1 m2 hI2 hZ1 hS1 hR1 hz1
  have mT := m1.2.2.1
  refine ok_br (Q := fun u => LA c (s + 1) 1 τ u ∧ sx_Z u ≤ sx_Z τ + 1 ∧ (sx_S u : Int) + 4 * nL c τ ≤ sx_S τ + 2 + 4 * nL c u) (ok_bq w1 (ok_ite (fun c1 => ok_bd (ok_grow m1.1 (by omega) hR1 c1) (fun r u hq => ?_)) (fun c1 => ?_))) (fun u hu => ok_some ?_)
  · obtain ⟨a, rfl, q2, q3, q4, q5, q6, q7, q8, q9⟩ := hq
    have q2T : nT c u = nT c τ + 0 := q2.2.2.1
    have q6' : sx_Z u = sx_Z τ + 1 := q6
    have hw : sx_I u c.w 2 = sx_I τ c.w 2 := by
      have h9 : (sx_I u c.w 2).toInt = (sx_I τ c.w 2).toInt := by
        have h9 := q2T
        unfold nT at h9
        omega
      exact n_eq.mpr h9
    rw [← hw]
    refine ok_m (la_put q2.1 q3 q4 q5 ((q2.2.1.1 z (by rw [hz1]; decide)).1.trans hz1) (by omega)) (fun v hv => ⟨?_, ?_, ?_⟩)
    · have h9 := la_t q2 hv.1
      rw [Int.zero_add] at h9
      exact h9
    · have hv2 : sx_Z v = sx_Z u := hv.2.1
      omega
    · have hv2 : sx_Z v = sx_Z u := hv.2.1
      have hv3 : sx_S v = sx_S u := hv.2.2.1
      have hv4 : nL c v = nL c u := hv.2.2.2
      have q7' : sx_S u = sx_S τ + sx_N u a := q7
      have q8' : 4 * nL c τ ≤ 3 * (sx_N u a : Int) + 2 := q8
      have q9' : nL c u = sx_N u a := q9
      omega
  · obtain ⟨e', v1, v2, v3, v4, v5, v6⟩ := m1.1.wl
    rw [hR1] at v1
    cases v1
    have hL : nL c τ = lenE τ e := by unfold nL; rw [hR1]
    have hne : nT c τ ≠ nL c τ := fun q => c1 (by
      rw [n_eq, n_ofNat (by omega)]
      unfold nT at q
      omega)
    have hk17 : sx_K τ e = 17 := by
      rcases v2 with v2 | v2
      · exact v2
      · unfold lenE at hL
        rw [if_neg (by omega)] at hL
        omega
    have hLN : nL c τ = sx_N τ e := by rw [hL]; unfold lenE; rw [if_pos hk17]
    exact ok_m (la_put m1.1 hR1 hk17 (by omega) hz1 (by omega)) (fun v hv => ⟨hv.1, by omega, by rw [hv.2.2.1, hv.2.2.2]; omega⟩)
  · have h9 := la_t m1 hu.1
    rw [Int.zero_add] at h9
    refine ⟨h9, ?_, ?_⟩
    · have := hu.2.1
      show sx_Z u ≤ _
      omega
    · have := hu.2.2
      show (sx_S u : Int) + 4 * nL c σ ≤ sx_S σ + 2 + 4 * nL c u
      omega
end G9
