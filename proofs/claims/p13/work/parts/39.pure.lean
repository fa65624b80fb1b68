section G12
variable {c : CP} {s : Int} {σ : sx_T} {n0 : Nat}
/-- some workflow or none -/
def RO (c : CP) (s : Int) (σ : sx_T) (r : Option Nat × sx_T) : Prop := UP c s σ r.2 ∧ ∀ f, r.1 = some f → OP c r.2 f
theorem ok_launch {f : Nat} {x2 x3 : Int32} (hg : GI c s σ) (of : OP c σ f) : Ok (f_X8_launch σ c.L (some f) x2 x3) (fun r => RO c s σ r) := by
  have hkf := op_k hg of
  obtain ⟨h, r, d, ⟨h1, h2⟩, ⟨h3, h4⟩, h5, h6⟩ := gi_f hg hkf
  unfold f_X8_launch
  refine ok_ite (fun _ => ok_br (ok_programAt hg) (fun r3 hr => ok_bq rfl (ok_qb h3 (ok_bd (ok_open hg hr) (fun r u hu => ok_some ⟨hu.1, fun f e => (hu.2 f e).2.1⟩))))) (fun _ => ok_ite (fun _ => ok_bq rfl (ok_qv (ok_qb h3 (ok_bd (ok_open hg (fun e ee => ?_)) (fun r u hu => ok_oc (fun _ => ok_some ⟨hu.1, fun f e => by cases e⟩) (fun a ea => ok_some ?_)))))) (fun _ => ok_br (ok_programAt hg) (fun r3 hr => ok_bq rfl (ok_qb h3 (ok_bd (ok_open hg hr) (fun r u hu => ok_some ⟨hu.1, fun f e => (hu.2 f e).2.1⟩))))))
  · rw [h5] at ee
    cases ee
    exact h6
  · have u1 : UP c s σ u := hu.1
    have u2 := gi_I (a := f) (k := 6) (x := sx_I u a 0) u1.1 (Or.inl (k_u u1 (by decide) hkf))
    refine ⟨up_t u1 u2, fun b eb => ?_⟩
    cases eb
    exact op_u u2 (hu.2 a ea).2.1
theorem ok_draw {x : Int32} (hg : GI c s σ) : Ok (f_X8_draw σ c.L x) (fun r => UP c s σ r.2) := by
  have key : ∀ y, UP c s σ (wx_I σ c.L 10 y) := fun y => gi_I hg (Or.inr (Or.inr (Or.inr (Or.inr ⟨hg.kL, by decide, by decide⟩))))
  unfold f_X8_draw
  refine ok_ite (fun c1 => ok_nz (fun e => ?_) (ok_some (key _))) (fun _ => ok_some (key _))
  rw [n_le, l_0] at c1
  by_cases q : x.toInt = 2147483647
  · have h9 : x = 2147483647 := n_eq.mpr q
    rw [h9] at e
    exact absurd e (by decide)
  · have := Int32.toInt_lt x
    have e1 : (x + 1).toInt = x.toInt + 1 := n_add1 (by omega) (by omega)
    rw [q_0] at e
    omega
theorem ok_wfc {f : Nat} {x : Int32} (hg : GI c s σ) (hf : sx_K σ f = 2) : ∃ r, f_X0_waitsForChild σ f x = some r := by
  obtain ⟨-, r, -, -, ⟨h3, -⟩, -⟩ := gi_f hg hf
  have h1 : Ok (f_X0_waitsForChild σ f x) (fun _ => True) := by
    unfold f_X0_waitsForChild
    exact ok_qb h3 (ok_ite (fun _ => ok_qb h3 (ok_ite (fun _ => ok_qb h3 (ok_ite (fun _ => ok_some trivial) (fun _ => ok_some trivial))) (fun _ => ok_some trivial))) (fun _ => ok_some trivial))
  obtain ⟨r, hr, -⟩ := h1
  exact ⟨r, hr⟩
theorem ok_tellParent {f : Nat} {x : Int64} (hg : GI c s σ) (of : OP c σ f) : Ok (f_X8_tellParent σ c.L (some f) x) (fun u => UP c s σ u) := by
  have hkf := op_k hg of
  obtain ⟨h, -, -, ⟨h1, h2⟩, -⟩ := gi_f hg hkf
  obtain ⟨e9, he⟩ := ok_ending hg h2
  unfold f_X8_tellParent
  refine ok_bq rfl (ok_br (ok_flowAt hg) (fun r hr => ok_oc (fun _ => ok_some (up_r hg)) (fun a ea => ok_qb h1 (ok_bre he (ok_ite (fun _ => ok_some (up_r hg)) (fun _ => ?_))))))
  have oa := hr a ea
  have hka := op_k hg oa
  obtain ⟨h', -, -, ⟨h1', h2'⟩, -⟩ := gi_f hg hka
  obtain ⟨w, hw⟩ := ok_wfc (x := sx_I σ f 5) hg hka
  refine ok_bre hw (ok_ite (fun _ => ok_some (up_r hg)) (fun _ => ok_qb h1' (ok_br (ok_add hg (op_h hg oa h1') (fun e => absurd e (by decide))) (fun u hu => ?_))))
  obtain ⟨l, hl, kl, -⟩ := ww_r hu.1.1.ww (k := 5) hu.1.1.kL rfl rfl (by decide)
  refine ok_qb hl (ok_br (ok_addLast hu.1.1 kl (fun b eb => by cases eb; exact op_u hu.1 oa)) (fun v hv => ok_some (up_t hu.1 hv)))
theorem ok_make113 {f : Nat} {x2 : Int32} {x3 : Int64} {v5 : Option Nat} {s' : Int} (hg : GI c s σ) (of : OP c σ f) (hv : ∀ b, v5 = some b → OP c σ b) (hx : x2.toInt8.toInt32.toInt8.toInt32 ≠ 6 ∧ x2.toInt8.toInt32.toInt8.toInt32 ≠ 12) (hs : s ≤ s' ∨ (s - 1 ≤ s' ∧ ∀ h, sx_R σ f 1 = some h → (sx_I σ h 2).toInt < 140)) : Ok (fb_X8_make_113 σ c.L (some f) x2 x3 v5) (fun r => GI c s' r.2 ∧ GR c σ r.2 ∧ CK c σ r.2 ∧ ∀ b, r.1 = some b → OP c r.2 b) := by
  have hkf := op_k hg of
  obtain ⟨h, -, -, ⟨h1, h2⟩, -⟩ := gi_f hg hkf
  unfold fb_X8_make_113
  refine ok_bq rfl (ok_qb h1 (ok_br (ok_add hg (op_h hg of h1) (fun e => e.elim (fun q => absurd q hx.1) (fun q => absurd q hx.2))) (fun u hu => ?_)))
  have hu' : GI c s' u := by
    rcases hs with hs | ⟨hs, hs2⟩
    · exact gi_le hu.1.1 hs
    · exact gi_le (hu.2.2.1 (hs2 h h1)).1 hs
  have u1 : UP c s' σ u := ⟨hu', hu.1.2⟩
  refine ok_ite (fun _ => ok_br (ok_tellParent hu' (op_u u1 of)) (fun v hw => ok_some ?_)) (fun _ => ok_some ⟨u1.1, u1.2.1, u1.2.2, fun b eb => op_u u1 (hv b eb)⟩)
  have u2 := up_t u1 hw
  exact ⟨u2.1, u2.2.1, u2.2.2, fun b eb => op_u u2 (hv b eb)⟩
/-- the event that a run wants is made -/
theorem ok_make {f : Nat} (hg : GI c s σ) (hs : s ≤ 0) (of : OP c σ f) (hw : ∀ r h, sx_R σ f 2 = some r → sx_R σ f 1 = some h → (sx_I σ r 19).toInt = 0 ∧ (sx_I σ r 16).toInt ≠ -1 ∧ (sx_I σ h 2).toInt ≤ (sx_I σ r 4).toInt) : Ok (f_X8_make σ c.L (some f)) (fun r => RO c s σ r) := by
  have hkf := op_k hg of
  obtain ⟨h, r, d, ⟨h1, h2⟩, ⟨h3, h4⟩, h5, h6⟩ := gi_f hg hkf
  obtain ⟨w1, w2, w3⟩ := hw r h h3 h1
  obtain ⟨p, q, h', hc⟩ := gi_rc hg h4
  have hri := hg.ra r p h4 hc.2.2.1.1
  unfold RI at hri
  rw [w1] at hri
  have hO : (sx_I σ r 15).toInt = 0 := by unfold RIz at hri; omega
  rw [hO] at hri
  have hT : nT c σ ≤ 6000 := by
    have h8 := hg.ws
    have h9 := hg.fc
    have h7 : nE c σ ≤ (40 : Nat) * 140 := sumC_b 40 (fun i hi => (hg.ha _ (hg.kf i hi).2.1).2.2)
    omega
  have hD : ((sx_I σ r 16).toInt = 0 ∨ (sx_I σ r 16).toInt = 1 ∨ (sx_I σ r 16).toInt = 4 ∨ (sx_I σ r 16).toInt = 7 ∨ (sx_I σ r 16).toInt = 9 ∨ (sx_I σ r 16).toInt = 10 ∨ (sx_I σ r 16).toInt = 11 ∨ (sx_I σ r 16).toInt = 13 ∨ (sx_I σ r 16).toInt = 14) := by
    unfold RIz at hri
    omega
  have h140 : (sx_I σ h 2).toInt < 140 := by
    unfold RIz at hri
    omega
  generalize hx : sx_I σ r 16 = x at hD
  have hb : x.toInt8.toInt32.toInt8.toInt32 ≠ 6 ∧ x.toInt8.toInt32.toInt8.toInt32 ≠ 12 := by
    rcases hD with e | e | e | e | e | e | e | e | e
    · rw [q_0.mpr e]; decide
    · rw [q_1.mpr e]; decide
    · rw [q_4.mpr e]; decide
    · rw [q_7.mpr e]; decide
    · rw [q_9.mpr e]; decide
    · rw [q_10.mpr e]; decide
    · rw [q_11.mpr e]; decide
    · rw [q_13.mpr e]; decide
    · rw [q_14.mpr e]; decide
  have k31 : Ok (fb_X8_make_31 σ c.L (some f) x (sx_J σ r 17)) (fun r => RO c s σ r) := by
    unfold fb_X8_make_31
    refine ok_bd (ok_launch hg of) (fun r u hu => ?_)
    have u1 : UP c s σ u := hu.1
    have hr : ∀ b, r = some b → OP c u b := hu.2
    exact ok_oc (fun _ => ok_m (ok_make113 u1.1 (op_u u1 of) (fun b e => by cases e) hb (Or.inl (Int.le_refl _))) (fun q hq => ⟨up_t u1 ⟨hq.1, hq.2.1, hq.2.2.1⟩, hq.2.2.2⟩)) (fun a ea => ok_m (ok_make113 u1.1 (op_u u1 of) (fun b e => by cases e; exact hr a ea) hb (Or.inl (Int.le_refl _))) (fun q hq => ⟨up_t u1 ⟨hq.1, hq.2.1, hq.2.2.1⟩, hq.2.2.2⟩))
  have k73 : Ok (fb_X8_make_73 σ c.L (some f) x (sx_J σ r 17) none) (fun r => RO c s σ r) := by
    unfold fb_X8_make_73
    refine ok_br (ok_schedule hg hT of) (fun u hu => ?_)
    obtain ⟨g1, g2, g3, g4, g5⟩ := hu
    have of' : OP c u f := op_m g2.fm of
    refine ok_m (ok_make113 (s' := s) g1 of' (fun b e => by cases e) hb (Or.inr ⟨by omega, fun h' hh => ?_⟩)) (fun q hq => ⟨⟨hq.1, gr_t g2 hq.2.1, hq.2.2.1.trans g3⟩, hq.2.2.2⟩)
    rw [g5 f 1 hkf (by decide), h1] at hh
    cases hh
    rw [g4 h 2 (Or.inl h2)]
    exact h140
  have k113 : ∀ y, Ok (fb_X8_make_113 σ c.L (some f) x y none) (fun r => RO c s σ r) := fun y => ok_m (ok_make113 (s' := s) hg of (fun b e => by cases e) hb (Or.inl (Int.le_refl _))) (fun q hq => ⟨⟨hq.1, hq.2.1, hq.2.2.1⟩, hq.2.2.2⟩)
  unfold f_X8_make
  refine ok_bq rfl (ok_qb h3 (ok_qb h3 ?_))
  rw [hx]
  refine ok_ite (fun _ => k31) (fun _ => ok_ite (fun _ => k31) (fun _ => ok_ite (fun _ => k73) (fun _ => ok_ite (fun _ => k73) (fun _ => ok_ite (fun _ => k113 _) (fun _ => ok_ite (fun _ => ok_bd (ok_draw hg) (fun r u hu => ?_)) (fun _ => k113 _))))))
  have u1 : UP c s σ u := hu
  exact ok_m (ok_make113 u1.1 (op_u u1 of) (fun b e => by cases e) hb (Or.inl (Int.le_refl _))) (fun q hq => ⟨up_t u1 ⟨hq.1, hq.2.1, hq.2.2.1⟩, hq.2.2.2⟩)
end G12
