section G16
variable {c : CP} {σ : sx_T} {n0 : Nat}
theorem gi_ck {s : Int} {x : Int32} (hg : GI c s σ) : GI c s (wx_I σ c.L 8 x) ∧ GR c σ (wx_I σ c.L 8 x) := by
  have hf : FA (fun b => b = c.L) σ (wx_I σ c.L 8 x) := fa_I rfl
  refine gi_fa hf hg (fun a ha => ?_) ?_ (ri_fk hf hg (fun a ha => by rw [ha, hg.kL]; decide))
  · rw [ha, hg.kL]
    exact ⟨by decide, by decide, by decide, k_mo hg.kL (by decide)⟩
  · unfold nF
    rw [gI_I, if_neg (by omega)]
/-- what ticks leave -/
def TK (c : CP) (σ u : sx_T) (d : Int32) : Prop := GI c 0 u ∧ GR c σ u ∧ sx_I u c.L 8 = sx_I σ c.L 8 + d
theorem ok_tick_l (hn : 1000001 ≤ n0) {x1 : Int32} (hx : x1.toInt ≤ 50) : ∀ (m n : Nat) (σ : sx_T) (x2 : Int32), GI c 0 σ → 0 ≤ x2.toInt → x2.toInt ≤ x1.toInt → x1.toInt - x2.toInt ≤ m → m < n → Ok (fl_X8_tick_23 n0 n σ c.L x1 x2) (fun r => TK c σ r.2 (x1 - x2) ∧ r.1 = .inl (sx_I r.2 c.L 8)) := by
  intro m
  induction m with
  | zero =>
    intro n σ x2 hg h0 h1 h2 h3
    obtain ⟨n, rfl⟩ : ∃ k, n = k + 1 := ⟨n - 1, by omega⟩
    have e : x1 = x2 := n_eq.mpr (by omega)
    unfold fl_X8_tick_23
    refine ok_p (by rw [n_le]; omega) (ok_some ⟨⟨hg, gr_r, ?_⟩, rfl⟩)
    rw [e, Int32.sub_self, Int32.add_zero]
  | succ m ih =>
    intro n σ x2 hg h0 h1 h2 h3
    obtain ⟨n, rfl⟩ : ∃ k, n = k + 1 := ⟨n - 1, by omega⟩
    unfold fl_X8_tick_23
    refine ok_ite (fun c1 => ok_some ⟨⟨hg, gr_r, ?_⟩, rfl⟩) (fun c1 => ?_)
    · rw [n_le] at c1
      have e : x1 = x2 := n_eq.mpr (by omega)
      rw [e, Int32.sub_self, Int32.add_zero]
    rw [n_le] at c1
    have e1 : (x2 + 1).toInt = x2.toInt + 1 := n_add1 (by omega) (by omega)
    obtain ⟨g1, g2⟩ := gi_ck (x := sx_I σ c.L 8 + 1) hg
    have k1 : sx_I (wx_I σ c.L 8 (sx_I σ c.L 8 + 1)) c.L 8 = sx_I σ c.L 8 + 1 := by rw [gI_I, if_pos ⟨rfl, rfl⟩]
    refine ok_br (ok_passTasks hn g1) (fun u hu => ok_br (ok_passTimers hn hu.1) (fun v hv => ok_m (ih n v (x2 + 1) hv.1 (by omega) (by omega) (by omega) (by omega)) (fun r hr => ⟨⟨hr.1.1, gr_t g2 (gr_t hu.2.1 (gr_t hv.2.1 hr.1.2.1)), ?_⟩, hr.2⟩)))
    rw [hr.1.2.2, hv.2.2, hu.2.2, k1]
    have e3 : x1 - x2 = 1 + (x1 - (x2 + 1)) := by
      rw [n_eq, n_sub (by omega) (by omega)]
      have e4 : (x1 - (x2 + 1)).toInt = x1.toInt - x2.toInt - 1 := by rw [n_sub (by omega) (by omega), e1]; omega
      have e5 : (1 : Int32).toInt = 1 := by decide
      rw [n_add (by omega) (by omega), e4, e5]
      omega
    rw [e3, Int32.add_assoc]
theorem ok_tick {x : Int32} (hn : 1000001 ≤ n0) (hg : GI c 0 σ) : Ok (f_X8_tick n0 σ c.L x) (fun r => ((x.toInt < 1 ∨ 50 < x.toInt) ∧ r = (.inr "java/lang/IllegalArgumentException", σ)) ∨ (1 ≤ x.toInt ∧ x.toInt ≤ 50 ∧ TK c σ r.2 x ∧ r.1 = .inl (sx_I r.2 c.L 8))) := by
  have l50 : (50 : Int32).toInt = 50 := by decide
  have l1 : (1 : Int32).toInt = 1 := by decide
  unfold f_X8_tick
  refine ok_ite (fun c1 => ok_some (Or.inl ⟨Or.inl (by rw [n_lt, l1] at c1; exact c1), rfl⟩)) (fun c1 => ok_ite (fun c2 => ?_) (fun c2 => ok_some (Or.inl ⟨Or.inr (by rw [n_le, l50] at c2; omega), rfl⟩)))
  rw [n_lt, l1] at c1
  rw [n_le, l50] at c2
  refine ok_m (ok_tick_l hn c2 50 n0 σ 0 hg (by decide) (by rw [l_0]; omega) (by rw [l_0]; omega) (by omega)) (fun r hr => Or.inr ⟨by omega, c2, ?_, hr.2⟩)
  have h9 := hr.1
  rw [Int32.sub_zero] at h9
  exact h9
end G16
