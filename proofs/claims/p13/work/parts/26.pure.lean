/-! ADVANCE -/
def VV (X T S W E D A : Int) : Nat := if A = 0 then 300 * (X - T).toNat + (if E = 0 then 4 * (62 - max S 0).toNat else 0) + (if D = -1 then 0 else 1) + (if E ≠ 0 ∧ D = -1 ∧ W = 0 then 2 else 0) + 2 else 1
def RV (σ : sx_T) (t : Nat) (X : Int) : Nat := VV X (sx_I σ t 4).toInt (sx_I σ t 7).toInt (sx_I σ t 8).toInt (sx_I σ t 14).toInt (sx_I σ t 16).toInt (sx_I σ t 19).toInt
theorem vv_taken {X T S W E D A T' S' W' E' D' A' : Int} (hA : A = 0) (hT : T' = T + 1) (hX : T < X) : VV X T' S' W' E' D' A' < VV X T S W E D A := by
  unfold VV
  rw [if_pos hA]
  have : 0 ≤ (if E = 0 then 4 * (62 - max S 0).toNat else 0) := Nat.zero_le _
  repeat' split
  all_goals omega
theorem vv_miss {X T S W E D A D' A' : Int} (hA : A = 0) (hD : D ≠ -1) (hD' : D' = -1) (hE : E = 0) (hA' : A' = 0) : VV X T S W E D' A' < VV X T S W E D A := by
  unfold VV
  subst hA hD' hE hA'
  simp [hD]
theorem vv_astray {X T S W E D A T' S' W' E' D' A' : Int} (hA : A = 0) (hA' : A' = 1) : VV X T' S' W' E' D' A' < VV X T S W E D A := by
  unfold VV
  rw [if_pos hA, if_neg (by omega)]
  omega
theorem vv_undo {X T S W E D A S' W' E' D' A' : Int} (hA : A = 0) (hE : E ≠ 0) (hD : D = -1) (hW : W = 0) (hE' : E' = E) (hD' : D' ≠ -1) (hA' : A' = 0) : VV X T S' W' E' D' A' < VV X T S W E D A := by
  unfold VV
  subst hE'
  rw [if_pos hA, if_pos hA', if_neg hE, if_neg hE, if_neg hD', if_pos hD, if_neg (fun e => hD' e.2.1), if_pos ⟨hE, hD, hW⟩]
  omega
theorem vv_step {X T S W E D A S' W' E' D' A' : Int} (hA : A = 0) (hE : E = 0) (hS : 0 ≤ S ∧ S ≤ 60) (hA' : A' = 0) (h : E' ≠ 0 ∨ S' = S + 1) : VV X T S' W' E' D' A' < VV X T S W E D A := by
  unfold VV
  rw [if_pos hA, if_pos hA', if_pos hE]
  repeat' split
  all_goals omega
section RUN5
variable {t p q h n0 : Nat}
theorem ri_bounds {σ : sx_T} (hr : RI σ t p) : 0 ≤ (sx_I σ t 4).toInt ∧ (sx_I σ t 4).toInt ≤ 140 ∧ 0 ≤ (sx_I σ p 1).toInt ∧ (sx_I σ p 1).toInt ≤ 20 ∧ ((sx_I σ t 15).toInt ≠ 0 → (sx_I σ t 16).toInt = -1) := by
  unfold RI RIz at hr
  omega
/-- what a run is to be behind an advance to so many events -/
def AP (σ u : sx_T) (t p q : Nat) (X : Int) : Prop := FA (AR σ t p q) σ u ∧ RI u t p ∧ ((sx_I u t 19).toInt = 0 → (sx_I u t 16).toInt ≠ -1 → X ≤ (sx_I u t 4).toInt)
theorem ap_t {σ v u : sx_T} {X : Int} (h1 : FA (AR σ t p q) σ v) (h2 : AP v u t p q X) : AP σ u t p q X := by
  obtain ⟨a, b, c⟩ := h2
  rw [ar_f h1] at a
  exact ⟨fa_t h1 a, b, c⟩
theorem hv_ar {σ u : sx_T} (hc : RC σ t p q h) (hf : FA (AR σ t p q) σ u) (hv : HV σ h) : HV u h := by
  obtain ⟨-, -, -, h4, h5, h6⟩ := rc_ne hc
  refine hv_f hf (fun e => ?_) (fun a ha e => ?_) hv
  · rcases e with e | e | e | e
    · exact h4 e
    · exact h5 e
    · exact h6 e
    · have e := e.1; rw [hc.2.2.2.2.2] at e; cases e
  · have hka : sx_K σ a = 12 := by
      have h9 := hc.1.2.1 h 0 a (by rw [hc.2.2.2.2.2]; decide) ha
      rw [hc.2.2.2.2.2] at h9
      exact h9
    rcases e with e | e | e | e
    · rw [e, hc.2.1] at hka; cases hka
    · rw [e, hc.2.2.1.2] at hka; cases hka
    · rw [e, hc.2.2.2.1.2] at hka; cases hka
    · have e := e.1; rw [hka] at e; cases e
theorem ok_advance_l (hn : 1000001 ≤ n0) {X : Int32} (hX : X.toInt ≤ 140) : ∀ (m n : Nat) (σ : sx_T) (x2 x3 : Int32), RC σ t p q h → HV σ h → RI σ t p → RV σ t X.toInt ≤ m → 0 ≤ x3.toInt → x3.toInt + m + 2 ≤ 900000 → m + 2 < n → (x2 = 0 → (sx_I σ t 19).toInt = 0 → (sx_I σ t 16).toInt ≠ -1 → X.toInt ≤ (sx_I σ t 4).toInt) → Ok (fl_X5_advance_4 n0 n σ t X x2 x3) (fun u => AP σ u t p q X.toInt) := by
  intro m
  induction m with
  | zero =>
    intro n σ x2 x3 hc hv hr hm
    unfold RV VV at hm
    split at hm <;> omega
  | succ m ih =>
    intro n σ x2 x3 hc hv hr hm h3 h3b hnn hstop
    obtain ⟨n, rfl⟩ : ∃ k, n = k + 1 := ⟨n - 1, by omega⟩
    obtain ⟨hpt, -⟩ := rc_ne hc
    obtain ⟨g1, g2, g3, g4, g5⟩ := ri_bounds hr
    have e3 : (x3 + 1).toInt = x3.toInt + 1 := n_add1 (by omega) (by omega)
    have lbig : (1000000 : Int32).toInt = 1000000 := by decide
    unfold fl_X5_advance_4
    refine ok_n (by rw [n_le, lbig]; omega) (ok_ite (fun c => ok_some ⟨fa_r, hr, hstop c⟩) (fun cm => ?_))
    -- going on from a later state
    have go : ∀ (u : sx_T) (y : Int32), FA (AR σ t p q) σ u → RI u t p → RV u t X.toInt < RV σ t X.toInt → (y = 0 → (sx_I u t 19).toInt = 0 → (sx_I u t 16).toInt ≠ -1 → X.toInt ≤ (sx_I u t 4).toInt) → Ok (fl_X5_advance_4 n0 n u t X y (x3 + 1)) (fun u' => AP σ u' t p q X.toInt) := by
      intro u y hf hr' hlt hs
      refine ok_m (ih n u y (x3 + 1) (rc_f hf hc) (hv_ar hc hf hv) hr' (by omega) (by omega) (by omega) (by omega) hs) (fun u' hu' => ap_t hf hu')
    -- ending here: the next round only sees that nothing moves
    have stop : ∀ (u : sx_T), FA (AR σ t p q) σ u → RI u t p → ((sx_I u t 19).toInt = 0 → (sx_I u t 16).toInt ≠ -1 → X.toInt ≤ (sx_I u t 4).toInt) → Ok (fl_X5_advance_4 n0 n u t X 0 (x3 + 1)) (fun u' => AP σ u' t p q X.toInt) := by
      intro u hf hr' hs
      obtain ⟨n, rfl⟩ : ∃ k, n = k + 1 := ⟨n - 1, by omega⟩
      unfold fl_X5_advance_4
      exact ok_n (by rw [n_le, lbig]; omega) (ok_p rfl (ok_some ⟨hf, hr', hs⟩))
    have k27 : ∀ y : Int32, (y = 0 ∧ X.toInt ≤ (sx_I σ t 4).toInt) ∨ (y = 1 ∧ (sx_I σ t 4).toInt < X.toInt) → Ok (fb_X5_advance_27 n0 (fl_X5_advance_4 n0 n) σ t X x2 x3 y) (fun u' => AP σ u' t p q X.toInt) := by
      intro y hy
      unfold fb_X5_advance_27
      simp only [q_0, q_m1]
      refine ok_ite (fun cA => ok_ite (fun cD => ok_ite (fun cO => ok_ite (fun cW => ok_ite (fun cE => ?_) (fun cE => ?_)) (fun cW => ?_)) (fun cO => ?_)) (fun cD => ?_)) (fun cA => ?_)
      · have hz := hr
        unfold RI at hz
        rw [cD, cA, cO, cW, cE] at hz
        refine ok_br (ok_step hc hr cD cA cO cW cE hn) (fun u hu => go u x2 hu.1 hu.2.1 ?_ (fun e => absurd e cm))
        unfold RV
        rw [hu.2.2.1]
        exact vv_step cA cE (by unfold RIz at hz; omega) hu.2.2.2.1 hu.2.2.2.2
      · refine ok_br (ok_undo hc hr cD cA cO cW cE) (fun u hu => go u x2 hu.1 hu.2.1 ?_ (fun e => absurd e cm))
        unfold RV
        rw [hu.2.2.1]
        exact vv_undo cA cE cD cW (by rw [hu.2.2.2.2.1]) hu.2.2.2.1 (by rw [hu.2.2.2.2.2]; exact cA)
      · rcases hy with ⟨rfl, hXT⟩ | ⟨rfl, hXT⟩
        · refine ok_br (Q := fun u => u = σ) (by unfold f_X5_takeAwaited; exact ok_p rfl (ok_some rfl)) (fun u hu => ?_)
          subst hu
          exact stop _ fa_r hr (fun _ e => absurd cD e)
        · refine ok_br (ok_takeAwaited hc hv ⟨hr, cD, cA, cO, cW⟩ (by decide) (by omega)) (fun u hu => go u 1 hu.1 hu.2.1 ?_ (fun e => absurd e (by decide)))
          unfold RV
          exact vv_taken cA hu.2.2.1 hXT
      · refine stop _ far_I ?_ (fun _ e => ?_)
        · have hD := g5 cO
          simp [-Int32.toInt_add, -Int32.toInt_sub, RI, gI_I, hpt]
          unfold RI at hr
          unfold RIz at hr ⊢
          omega
        · exact absurd (by simp [gI_I]; exact cD) e
      · rcases hy with ⟨rfl, hXT⟩ | ⟨rfl, hXT⟩
        · refine ok_br (Q := fun u => u = σ) (by unfold f_X5_takeWanted; exact ok_p rfl (ok_some rfl)) (fun u hu => ?_)
          subst hu
          exact stop _ fa_r hr (fun _ _ => hXT)
        · refine ok_br (ok_takeWanted hc hr cD cA (by decide) (by omega)) (fun u hu => go u 1 hu.1 hu.2.1 ?_ (fun e => absurd e (by decide)))
          unfold RV
          obtain ⟨-, hru, hu⟩ := hu
          rcases hu with hu | ⟨hT', hu | ⟨d1, d2, d3, d4, d5, d6⟩⟩
          · exact vv_taken cA hu hXT
          · exact vv_astray cA hu
          · rw [hT', d2, d4, d5]
            rw [d2] at d3
            exact vv_miss cA cD d1 d3 d6
      · exact stop _ fa_r hr (fun e => absurd e cA)
    exact ok_ite (fun c => k27 0 (Or.inl ⟨rfl, by rw [n_le] at c; exact c⟩)) (fun c => k27 1 (Or.inr ⟨rfl, by rw [n_le] at c; omega⟩))
end RUN5
