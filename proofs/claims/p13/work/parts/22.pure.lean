/-! A RUN'S STEPS -/
def AR (σ : sx_T) (t p q : Nat) : Nat → Prop := fun a => a = t ∨ a = p ∨ a = q ∨ PA σ a
def RC (σ : sx_T) (t p q h : Nat) : Prop := WW σ ∧ sx_K σ t = 7 ∧ (sx_R σ t 0 = some p ∧ sx_K σ p = 5) ∧ (sx_R σ t 1 = some q ∧ sx_K σ q = 8) ∧ sx_R σ t 3 = some h ∧ sx_K σ h = 3
theorem rc_f {A : Nat → Prop} {σ u : sx_T} {t p q h : Nat} (hf : FA A σ u) (hc : RC σ t p q h) : RC u t p q h := by
  obtain ⟨h1, h2⟩ := hc
  refine ⟨ww_f hf h1, ?_⟩
  rw [hf.1, hf.2.2.1]
  exact h2
theorem ar_f {A : Nat → Prop} {σ u : sx_T} {t p q : Nat} (hf : FA A σ u) : AR u t p q = AR σ t p q := by
  unfold AR PA CO
  rw [hf.1, hf.2.2.1]
def b8 (x : Int32) : Int32 := x.toInt8.toInt32.toInt8.toInt32
theorem b8_b {x : Int32} : b8 (b8 x) = b8 x := by
  unfold b8
  rw [Int8.toInt8_toInt32, Int8.toInt8_toInt32]
def HV (σ : sx_T) (h : Nat) : Prop := ∀ a, sx_R σ h 0 = some a → ∀ x : Int32, 0 ≤ x.toInt → x.toInt < (sx_I σ h 2).toInt → (b8 (sx_I σ a (ti x)) = 6 ∨ b8 (sx_I σ a (ti x)) = 12) → x.toInt < 90
theorem hv_f {A : Nat → Prop} {σ u : sx_T} {h : Nat} (hf : FA A σ u) (h1 : ¬ A h) (h2 : ∀ a, sx_R σ h 0 = some a → ¬ A a) (hv : HV σ h) : HV u h := by
  intro a ha x
  rw [hf.2.2.1] at ha
  rw [hf.2.2.2.2.2.1 h h1, hf.2.2.2.2.2.1 a (h2 a ha)]
  exact hv a ha x
def RIz (P T S W E D A O : Int) : Prop :=
  0 ≤ P ∧ P ≤ 20 ∧ 0 ≤ T ∧ T ≤ 140 ∧ (O ≠ 0 → D = -1) ∧
  (A = 0 → O = 0 →
    (E = 0 → T ≤ 91 ∧ 0 ≤ S ∧ S ≤ 60 ∧ (W = 1 ∨ W = 2 ∨ W = 4 ∨ W = 5 → T ≤ 90) ∧ W ≠ 6) ∧
    (E ≠ 0 → (W = 0 ∨ W = 6) ∧ (W = 0 → T + 2 * P ≤ 132) ∧ (W ≠ 0 → T + 2 * P + 1 ≤ 132) ∧ (D = 11 → T + 2 * P + 2 ≤ 132)) ∧
    (D = -1 ∨ (W = 0 ∧ (D = 13 ∨ (D = 11 ∧ E ≠ 0) ∨ ((D = 0 ∨ D = 1 ∨ D = 4 ∨ D = 7 ∨ D = 9 ∨ D = 10 ∨ D = 14) ∧ E = 0 ∧ T ≤ 59)))))
def RI (σ : sx_T) (t p : Nat) : Prop := RIz (sx_I σ p 1).toInt (sx_I σ t 4).toInt (sx_I σ t 7).toInt (sx_I σ t 8).toInt (sx_I σ t 14).toInt (sx_I σ t 16).toInt (sx_I σ t 19).toInt (sx_I σ t 15).toInt
/-- what a taken event leaves: one event further on -/
def RT (σ u : sx_T) (t p q : Nat) : Prop := FA (AR σ t p q) σ u ∧ RI u t p ∧ (sx_I u t 4).toInt = (sx_I σ t 4).toInt + 1
theorem ok_failNow {σ : sx_T} {t : Nat} : f_X5_failNow σ t = some (wx_I (wx_I σ t 8 0) t 14 2) := rfl
theorem ok_want {σ : sx_T} {t : Nat} {x1 : Int32} {x2 : Int64} : f_X5_want σ t x1 x2 = some (wx_J (wx_I σ t 16 x1) t 17 x2) := rfl
section RUN
variable {σ : sx_T} {t p q h n0 : Nat}
theorem rc_ne (hc : RC σ t p q h) : p ≠ t ∧ q ≠ t ∧ q ≠ p ∧ h ≠ t ∧ h ≠ p ∧ h ≠ q := by
  obtain ⟨-, h1, ⟨-, h2⟩, ⟨-, h3⟩, -, h4⟩ := hc
  refine ⟨fun e => ?_, fun e => ?_, fun e => ?_, fun e => ?_, fun e => ?_, fun e => ?_⟩
  · rw [e, h1] at h2; cases h2
  · rw [e, h1] at h3; cases h3
  · rw [e, h2] at h3; cases h3
  · rw [e, h1] at h4; cases h4
  · rw [e, h2] at h4; cases h4
  · rw [e, h3] at h4; cases h4
theorem ar_t : AR σ t p q t := Or.inl rfl
theorem far_I {k : Nat} {x : Int32} : FA (AR σ t p q) σ (wx_I σ t k x) := fa_I ar_t
theorem far_J {k : Nat} {x : Int64} : FA (AR σ t p q) σ (wx_J σ t k x) := fa_J ar_t
/-- a step further within the run's own cells -/
theorem far_tI {u : sx_T} {k : Nat} {x : Int32} (hf : FA (AR σ t p q) σ u) : FA (AR σ t p q) σ (wx_I u t k x) := fa_t hf (fa_I ar_t)
theorem far_tJ {u : sx_T} {k : Nat} {x : Int64} (hf : FA (AR σ t p q) σ u) : FA (AR σ t p q) σ (wx_J u t k x) := fa_t hf (fa_J ar_t)
theorem ok_follow {x1 : Int32} {x2 : Int64} (hpt : p ≠ t) (hr : ∀ D : Int, (D = x1.toInt) → RIz (sx_I σ p 1).toInt ((sx_I σ t 4).toInt - 1) (sx_I σ t 7).toInt (sx_I σ t 8).toInt (sx_I σ t 14).toInt D 0 0) (hA : (sx_I σ t 19).toInt = 0) (hO : (sx_I σ t 15).toInt = 0) (hD : (sx_I σ t 16).toInt = -1) (hx : x1.toInt ≠ -1) (hT : (sx_I σ t 4).toInt ≤ 140) : Ok (f_X5_follow σ t x1 x2) (fun u => FA (AR σ t p q) σ u ∧ RI u t p ∧ sx_I u t 4 = sx_I σ t 4) := by
  have hz := hr _ rfl
  unfold RIz at hz
  unfold f_X5_follow
  simp only [q_1, q_4, q_7, q_9, q_10, q_11, q_14]
  refine ok_ite (fun c => ok_some ⟨far_I, ?_, ?_⟩) (fun c1 => ok_ite (fun c => ok_ite (fun c2 => ok_some ⟨far_tI far_J, ?_, ?_⟩) (fun c2 => ok_some ⟨far_tI far_J, ?_, ?_⟩)) (fun c2 => ok_ite (fun c => ok_some ⟨far_tI far_I, ?_, ?_⟩) (fun c3 => ok_ite (fun c => ok_some ⟨far_I, ?_, ?_⟩) (fun c4 => ok_ite (fun c => ok_some ⟨far_I, ?_, ?_⟩) (fun c5 => ok_ite (fun c => ok_some ⟨far_I, ?_, ?_⟩) (fun c6 => ok_ite (fun c => ok_ite (fun c7 => ok_bre rfl (ok_some ⟨far_tJ far_I, ?_, ?_⟩)) (fun c7 => ok_some ⟨far_I, ?_, ?_⟩)) (fun c7 => ok_some ⟨far_I, ?_, ?_⟩)))))))
  all_goals first | (simp [RI, gI_I, gI_J, hpt]; unfold RIz; omega) | (simp [gI_I, gI_J])
end RUN
