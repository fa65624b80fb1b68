section M5
variable {m : Nat} {σ v u : sx_T} {s : Int} {n0 : Nat} {x3 : Int32}
def XS (m : Nat) (σ u : sx_T) : Prop := sx_I u m 45 = sx_I σ m 45 ∧ sx_I u m 47 = sx_I σ m 47 ∧ ∀ k, sx_I u (m + 9) k = sx_I σ (m + 9) k
theorem xs_r : XS m σ σ := ⟨rfl, rfl, fun _ => rfl⟩
theorem xs_t (h1 : XS m σ v) (h2 : XS m v u) : XS m σ u := ⟨h2.1.trans h1.1, h2.2.1.trans h1.2.1, fun k => (h2.2.2 k).trans (h1.2.2 k)⟩
theorem xs_m {k : Nat} {x : Int32} (h : XS m σ u) (hk : k ≠ 45 ∧ k ≠ 47) : XS m σ (wx_I u m k x) := ⟨by rw [gI_I, if_neg (by omega)]; exact h.1, by rw [gI_I, if_neg (by omega)]; exact h.2.1, fun i => by rw [gI_I, if_neg (by omega)]; exact h.2.2 i⟩
theorem xs_sf {lo : Nat} (h : SF m lo σ u) (hl : lo ≤ 45) : XS m σ u := ⟨h.1 45 (by omega), h.1 47 (by omega), h.2 9 (Or.inl rfl) (by decide)⟩
def BW (m : Nat) (x3 : Int32) (σ u : sx_T) : Prop := (sx_I u m 48 = -1 ∧ mW m u = mW m σ) ∨ (x3 ≠ 0 ∧ mW m u = mW m σ + 1 ∧ (sx_I u m 48).toInt = mW m σ)
/-- it was met -/
def ET (m : Nat) (s : Int) (w : Nat) (x2 x3 : Int32) (b : Int) (σ v : sx_T) : Prop :=
  MI m s v ∧ LR m σ v ∧ XS m σ v ∧ BW m x3 σ v ∧ sx_I v m 26 ≠ 0 ∧ mA m v = mA m σ + 1 ∧ RB m w x2 v ∧ cn m v 1 w (ti (sx_I v m 27)) = cn m σ 1 w (ti (sx_I σ m 27)) + b ∧ cn m v 11 w (ti (sx_I v m 27)) = cn m σ 11 w (ti (sx_I σ m 27)) ∧ ∀ k, k = 28 ∨ k = 32 ∨ k = 38 ∨ k = 39 → sx_I v m k = sx_I σ m k
def E3 (m : Nat) (σ v : sx_T) : Prop := ∀ k, k = 30 ∨ k = 36 ∨ k = 37 → sx_I v m k = sx_I σ m k
theorem kp_W (h : KP m σ u) : mW m u = mW m σ := by unfold mW; rw [h.2.1 6 rfl]
theorem kp_E (h : KP m σ u) (w : Nat) : mE m u w = mE m σ w := by unfold mE; rw [h.2.2.1 8 rfl]
theorem rb_e {w : Nat} {x2 : Int32} (h : RB m w x2 σ) (h1 : mA m u = mA m σ) (h2 : mE m u w = mE m σ w) : RB m w x2 u := by unfold RB at h ⊢; rw [h1, h2]; exact h
/-- it was not met: it does not fit, or history and fields stand -/
def EF (m : Nat) (x2 : Int32) (σ u : sx_T) : Prop := KP m σ u ∧ XS m σ u ∧ sx_I u m 48 = sx_I σ m 48 ∧ (sx_I u m 26 = 0 ∨ ((∀ k, 26 ≤ k → k ≤ 39 → k ≠ 29 → sx_I u m k = sx_I σ m k) ∧ x2.toInt ≤ mA m σ))
theorem ef_mf {x2 : Int32} (h : MF m x2 σ u) : EF m x2 σ u := by
  refine ⟨h.1, xs_sf h.2.1 (by decide), h.2.1.1 48 (by decide), ?_⟩
  rcases h.2.2 with e | e
  · exact Or.inl e
  · refine Or.inr ⟨fun k _ _ _ => ?_, e.2⟩
    rw [e.1]
theorem et_mt {w : Nat} {x2 x4 : Int32} {b : Int} (hA : 0 ≤ mA m σ ∧ mA m σ ≤ 140) (h48 : sx_I σ m 48 = -1) (h : MT m s w x2 x4 σ u) (h11 : x4 ≠ 11) (hb : b = if x4 = 1 then 1 else 0) (hs : MI m s u) : ET m s w x2 x3 b σ u ∧ E3 m σ u := by
  obtain ⟨-, -, h3, h4, h5, h6, h7, h8, h9⟩ := h
  have tn : ti (sx_I u m 27) = ti (sx_I σ m 27) + 1 := by unfold mA at h6 hA; unfold ti; omega
  refine ⟨⟨hs, h3, xs_sf h4 (by decide), Or.inl ⟨by rw [h4.1 48 (by decide)]; exact h48, h9⟩, h5, h6, h7, ?_, ?_, fun k a => h4.1 k (by omega)⟩, fun k a => h4.1 k (by omega)⟩
  · rw [tn, h8, hb]
  · rw [tn, h8, if_neg h11, Int.add_zero]
theorem ok_starts {x1 x2 x3 x4 x5 x6 x7 : Int32} (h : MI m s σ) (h0 : 0 ≤ x1.toInt) (h1 : x1.toInt ≤ 40) (hlv : x3 ≠ 0 → x1.toInt < mW m σ) (hA : 1 ≤ mA m σ ∧ mA m σ ≤ 134) (hB : RB m (ti x1) x2 σ) (hf : sx_I σ m 26 ≠ 0) (h48 : sx_I σ m 48 = -1) (h4 : x4 = 7 ∨ x4 = 14) (p5 : 0 ≤ x5.toInt ∧ x5.toInt ≤ 5) (p6 : -1 ≤ x6.toInt ∧ (x3 ≠ 0 → x6.toInt ≤ 39 ∧ x6.toInt ≤ mW m σ)) : Ok (f_X9_starts σ m x1 x2 x3 x4 x5 x6 x7) (fun r => (r.1 = 0 ∧ EF m x2 σ r.2) ∨ (r.1 ≠ 0 ∧ ET m s (ti x1) x2 x3 0 σ r.2 ∧ E3 m σ r.2)) := by
  have hs := h.st
  have hwf := h.wf
  have tw := ti_of h0
  have hE := h.eb (ti x1) (by omega)
  have hA' : 1 ≤ (sx_I σ m 27).toInt ∧ (sx_I σ m 27).toInt ≤ 134 := hA
  have ta := ti_of (x := sx_I σ m 27) (by omega)
  have e1 : (sx_I σ m 27 + 1).toInt = (sx_I σ m 27).toInt + 1 := n_add1 (by omega) (by omega)
  have n4 : x4 ≠ 6 ∧ x4 ≠ 12 ∧ x4 ≠ 1 ∧ x4 ≠ 11 := by
    rcases h4 with rfl | rfl <;> decide
  unfold f_X9_starts
  refine ok_ite (fun c => ?_) (fun c => ?_)
  · rw [n_le] at c
    have hAE : mA m σ = mE m σ (ti x1) := by unfold RB at hB; unfold mA at hB ⊢; omega
    refine ok_ite (fun c3 => ok_some (Or.inl ⟨c3, ⟨kp_r, xs_r, rfl, Or.inr ⟨fun _ _ _ _ => rfl, c⟩⟩⟩)) (fun c3 => ?_)
    have hw := hlv c3
    refine ok_bd (ok_begets h p5 ⟨p6.1, (p6.2 c3).2, (p6.2 c3).1⟩) (fun r4 u5 hu => ?_)
    -- the store with the new one's number
    have key : ∀ (u5 : sx_T), MI m s u5 → LR m σ u5 → SF m 7 σ u5 → (mW m u5 = mW m σ ∧ r4 = -1 ∨ mW m u5 = mW m σ + 1 ∧ r4.toInt = mW m σ) → mE m u5 (ti x1) = mE m σ (ti x1) → Ok (br (f_X9_adds (wx_I u5 m 48 r4) m x1 x4 r4.toInt64) fun u9 => some (x3, (wx_I u9 m 27 ((sx_I u9 m 27) + 1)))) (fun r => (r.1 = 0 ∧ EF m x2 σ r.2) ∨ (r.1 ≠ 0 ∧ ET m s (ti x1) x2 x3 0 σ r.2 ∧ E3 m σ r.2)) := by
      intro u5 q1 q2 q3 q4 q5
      have kp : KP m u5 (wx_I u5 m 48 r4) := kp_m kp_r rfl
      have q1' := mi_kp q1 kp
      have w48 : sx_I (wx_I u5 m 48 r4) m 48 = r4 := by rw [gI_I, if_pos ⟨rfl, rfl⟩]
      have wk : ∀ k, k ≠ 48 → sx_I (wx_I u5 m 48 r4) m k = sx_I u5 m k := fun k a => by rw [gI_I, if_neg (by omega)]
      have wj : ∀ j k, 1 ≤ j → sx_I (wx_I u5 m 48 r4) (m + j) k = sx_I u5 (m + j) k := fun j k a => by rw [gI_I, if_neg (by omega)]
      have wW := kp_W kp
      have wE := kp_E kp
      generalize wx_I u5 m 48 r4 = z at kp q1' w48 wk wj wW wE ⊢
      have zE : mE m z (ti x1) = mA m σ := by rw [wE, q5, hAE]
      refine ok_bre (ok_addsM q1'.st h0 h1 (by omega) (by omega)) (ok_some (Or.inr ⟨c3, ?_⟩))
      have a1 := mi_adds (x4 := x4) (x5 := r4.toInt64) (d := 0) q1' (w := ti x1) (by omega) (by omega) (fun e => absurd e (by rintro (q | q); exact n4.1 q; exact n4.2.1 q)) (fun e => absurd e n4.2.2.1) (fun e => absurd e n4.2.2.2) (Or.inl rfl)
      rw [Int.add_zero] at a1
      have lr1 := lr_ax (w := ti x1) (x4 := x4) (x5 := r4.toInt64) q1'.eb (by omega)
      have aE := ax_E (m := m) (σ := z) (w := ti x1) (x4 := x4) (x5 := r4.toInt64) (by omega) (by omega)
      have ac := fun x => ax_c1 (m := m) (σ := z) (w := ti x1) (x4 := x4) (x5 := r4.toInt64) (x := x)
      have am := fun k => ax_m (m := m) (σ := z) (w := ti x1) (x4 := x4) (x5 := r4.toInt64) (k := k)
      have a9 := fun k => ax_j (m := m) (σ := z) (w := ti x1) (x4 := x4) (x5 := r4.toInt64) (j := 9) (k := k) (by decide) (by decide)
      generalize AX m (ti x1) x4 r4.toInt64 z = y at a1 lr1 aE ac am a9 ⊢
      have y27 : sx_I y m 27 = sx_I σ m 27 := by rw [am, wk 27 (by decide), q3.1 27 (by decide)]
      have kp2 : KP m y (wx_I y m 27 (sx_I y m 27 + 1)) := kp_m kp_r rfl
      have eA : mA m (wx_I y m 27 (sx_I y m 27 + 1)) = mA m σ + 1 := by
        unfold mA
        rw [gI_I, if_pos ⟨rfl, rfl⟩, y27, e1]
      have tn : ti (sx_I (wx_I y m 27 (sx_I y m 27 + 1)) m 27) = ti (sx_I σ m 27) + 1 := by unfold mA at eA; unfold ti; omega
      have lrz := lr_t q2 (lr_kp kp)
      have cz : ∀ x, cn m z x (ti x1) (ti (sx_I σ m 27)) = cn m σ x (ti x1) (ti (sx_I σ m 27)) := fun x => cn_e _ (fun k hk => (lrz.1.hi (ti x1) (by omega) k (by unfold mA at hAE; omega)).1)
      have tz : (mE m z (ti x1)).toNat = ti (sx_I σ m 27) := by rw [zE]; rfl
      have cy : ∀ x, cn m (wx_I y m 27 (sx_I y m 27 + 1)) x (ti x1) (ti (sx_I σ m 27) + 1) = cn m σ x (ti x1) (ti (sx_I σ m 27)) + if x4 = x then 1 else 0 := fun x => by
        rw [kp_cn kp2, ← tz, ac, tz, cz]
      refine ⟨⟨mi_kp a1 kp2, lr_t lrz (lr_t lr1 (lr_kp kp2)), ?_, ?_, ?_, eA, ?_, ?_, ?_, fun k a => ?_⟩, fun k a => ?_⟩
      · refine ⟨?_, ?_, fun k => ?_⟩
        · rw [gI_I, if_neg (by omega), am, wk 45 (by decide)]; exact q3.1 45 (by decide)
        · rw [gI_I, if_neg (by omega), am, wk 47 (by decide)]; exact q3.1 47 (by decide)
        · rw [gI_I, if_neg (by omega), a9, wj 9 k (by decide)]; exact q3.2 9 (Or.inl rfl) (by decide) k
      · unfold BW
        have e48 : sx_I (wx_I y m 27 (sx_I y m 27 + 1)) m 48 = r4 := by rw [gI_I, if_neg (by omega), am, w48]
        have eWy : mW m (wx_I y m 27 (sx_I y m 27 + 1)) = mW m u5 := by
          rw [kp_W kp2]
          unfold mW
          rw [am]
          exact wW
        rw [e48, eWy]
        rcases q4 with ⟨a, b⟩ | ⟨a, b⟩
        · exact Or.inl ⟨b, a⟩
        · exact Or.inr ⟨c3, a, b⟩
      · rw [gI_I, if_neg (by omega), am, wk 26 (by decide), q3.1 26 (by decide)]; exact hf
      · unfold RB
        rw [eA, kp_E kp2, aE, zE]
        omega
      · rw [tn, cy, if_neg n4.2.2.1]
      · rw [tn, cy, if_neg n4.2.2.2, Int.add_zero]
      · rw [gI_I, if_neg (by omega), am, wk k (by omega), q3.1 k (by omega)]
      · rw [gI_I, if_neg (by omega), am, wk k (by omega), q3.1 k (by omega)]
    rcases hu with ⟨e, -⟩ | ⟨b1, b2, b3, b4, b5, b6, b7, -⟩
    · cases e
      exact key σ h lr_r sf_r (Or.inl ⟨rfl, rfl⟩) rfl
    · have b5' : r4.toInt = mW m σ := b5
      refine key u5 b1 b2 b3 (Or.inr ⟨b4, b5⟩) (b7 (ti x1) (fun e => ?_))
      have : ti x1 = ti r4 := e
      unfold ti at this
      omega
  · rw [n_le] at c
    refine ok_bd (ok_meets (x4 := x4) (x5 := 0) (x7 := 1) h h0 h1 hlv hA hB hf ⟨n4.1, n4.2.1⟩ (fun e => absurd e n4.2.2.1) (fun e => absurd e n4.2.2.2)) (fun r u hu => ok_some ?_)
    rcases hu with ⟨a, b⟩ | ⟨a, b, d⟩
    · exact Or.inl ⟨a, ef_mf b⟩
    · exact Or.inr ⟨a, et_mt ⟨by omega, by omega⟩ h48 d n4.2.2.2 (by rw [if_neg n4.2.2.1]) d.1⟩
end M5
