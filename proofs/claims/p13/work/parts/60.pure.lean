/-! two replayings of one history by one code go the same way -/
def OO {α β : Type} (x : Option α) (y : Option β) (R : α → β → Prop) : Prop := ∀ r1 r2, x = some r1 → y = some r2 → R r1 r2
theorem oo_some {α β : Type} {a : α} {b : β} {R : α → β → Prop} (h : R a b) : OO (some a) (some b) R := fun r1 r2 e1 e2 => by cases e1; cases e2; exact h
theorem oo_ite {α β : Type} {c1 c2 : Prop} [Decidable c1] [Decidable c2] {a1 b1 : Option α} {a2 b2 : Option β} {R : α → β → Prop} (hc : c1 ↔ c2) (h1 : c1 → c2 → OO a1 a2 R) (h2 : ¬ c1 → ¬ c2 → OO b1 b2 R) : OO (if c1 then a1 else b1) (if c2 then a2 else b2) R := by
  by_cases h : c1
  · rw [if_pos h, if_pos (hc.mp h)]; exact h1 h (hc.mp h)
  · rw [if_neg h, if_neg (fun q => h (hc.mpr q))]; exact h2 h (fun q => h (hc.mpr q))
theorem oo_qb {α β : Type} {v1 v2 : Option Nat} {a1 a2 : Nat} {k1 : Nat → Option α} {k2 : Nat → Option β} {R : α → β → Prop} (e1 : v1 = some a1) (e2 : v2 = some a2) (h : OO (k1 a1) (k2 a2) R) : OO (qv v1 fun w => bq w k1) (qv v2 fun w => bq w k2) R := by subst e1; subst e2; exact h
theorem oo_bq {α β : Type} {v1 v2 : Option Nat} {a1 a2 : Nat} {k1 : Nat → Option α} {k2 : Nat → Option β} {R : α → β → Prop} (e1 : v1 = some a1) (e2 : v2 = some a2) (h : OO (k1 a1) (k2 a2) R) : OO (bq v1 k1) (bq v2 k2) R := by subst e1; subst e2; exact h
theorem oo_qv {α β : Type} {v1 v2 : Option Nat} {k1 : Option Nat → Option α} {k2 : Option Nat → Option β} {R : α → β → Prop} (h : OO (k1 v1) (k2 v2) R) : OO (qv v1 k1) (qv v2 k2) R := h
theorem oo_ck {α β : Type} {i1 i2 : Int32} {n1 n2 : Nat} {k1 : Option α} {k2 : Option β} {R : α → β → Prop} (h : OO k1 k2 R) : OO (ck i1 n1 k1) (ck i2 n2 k2) R := by
  intro r1 r2 e1 e2
  unfold ck at e1 e2
  split at e1
  · split at e2
    · exact h r1 r2 e1 e2
    · cases e2
  · cases e1
theorem oo_l {α β : Type} {i1 : Int32} {n1 : Nat} {k1 : Option α} {y : Option β} {R : α → β → Prop} (h : OO k1 y R) : OO (ck i1 n1 k1) y R := by
  intro r1 r2 e1 e2
  unfold ck at e1
  split at e1
  · exact h r1 r2 e1 e2
  · cases e1
theorem oo_nz {α β : Type} {i1 i2 : Int32} {k1 : Option α} {k2 : Option β} {R : α → β → Prop} (h : OO k1 k2 R) : OO (nz i1 k1) (nz i2 k2) R := by
  intro r1 r2 e1 e2
  unfold nz at e1 e2
  split at e1
  · cases e1
  · split at e2
    · cases e2
    · exact h r1 r2 e1 e2
theorem oo_br {α β γ δ : Type} {x1 : Option α} {x2 : Option β} {k1 : α → Option γ} {k2 : β → Option δ} {Q : α → β → Prop} {R : γ → δ → Prop} (h1 : OO x1 x2 Q) (h2 : ∀ r1 r2, Q r1 r2 → OO (k1 r1) (k2 r2) R) : OO (br x1 k1) (br x2 k2) R := by
  intro r1 r2 e1 e2
  cases x1 with
  | none => cases e1
  | some a =>
    cases x2 with
    | none => cases e2
    | some b => exact h2 a b (h1 a b rfl rfl) r1 r2 e1 e2
theorem oo_bd {α β γ δ : Type} {x1 : Option (α × sx_T)} {x2 : Option (β × sx_T)} {k1 : α → sx_T → Option γ} {k2 : β → sx_T → Option δ} {Q : α × sx_T → β × sx_T → Prop} {R : γ → δ → Prop} (h1 : OO x1 x2 Q) (h2 : ∀ a u b v, Q (a, u) (b, v) → OO (k1 a u) (k2 b v) R) : OO (bd x1 k1) (bd x2 k2) R := by
  intro r1 r2 e1 e2
  cases x1 with
  | none => cases e1
  | some a =>
    cases x2 with
    | none => cases e2
    | some b => exact h2 a.1 a.2 b.1 b.2 (h1 a b rfl rfl) r1 r2 e1 e2
theorem oo_m {α β : Type} {x : Option α} {y : Option β} {Q R : α → β → Prop} (h : OO x y Q) (hm : ∀ a b, Q a b → R a b) : OO x y R := fun r1 r2 e1 e2 => hm _ _ (h r1 r2 e1 e2)
/-- what of fields and signals counts -/
def fe (k : Nat) : Bool := (26 ≤ k && k ≤ 32) || (34 ≤ k && k ≤ 39)
def FE (m : Nat) (σ u : sx_T) : Prop := ∀ k, fe k = true → sx_I σ m k = sx_I u m k
def AE (m : Nat) (K : Int) (σ u : sx_T) : Prop := ∀ j : Nat, (j : Int) < K → sx_I σ (m + 21) j = sx_I u (m + 21) j ∧ sx_I σ (m + 22) j = sx_I u (m + 22) j
def VE (m : Nat) (σ u : sx_T) : Prop := FE m σ u ∧ AE m (sx_I σ m 39).toInt σ u
def HC (m w i : Nat) (σ u : sx_T) : Prop := (∀ j, 1 ≤ j → j ≤ 3 → ∀ k, sx_I σ (m + j) k = sx_I u (m + j) k) ∧ sx_I σ (m + 4) w = sx_I u (m + 4) w ∧ ∀ k, k ≤ i → sx_I σ (m + 11) (160 * w + k) = sx_I u (m + 11) (160 * w + k) ∧ sx_J σ (m + 12) (160 * w + k) = sx_J u (m + 12) (160 * w + k)
section M11
variable {m w i : Nat} {σ σ' v v' u u' : sx_T} {s : Int} {n0 : Nat} {x1 x2 x2' x3 x3' : Int32}
theorem ve_r : VE m σ σ := ⟨fun _ _ => rfl, fun _ _ => ⟨rfl, rfl⟩⟩
theorem ve_s (h : VE m σ u) : VE m u σ := ⟨fun k hk => (h.1 k hk).symm, fun j hj => by rw [← h.1 39 rfl] at hj; exact ⟨(h.2 j hj).1.symm, (h.2 j hj).2.symm⟩⟩
theorem ve_t (h1 : VE m σ v) (h2 : VE m v u) : VE m σ u := ⟨fun k hk => (h1.1 k hk).trans (h2.1 k hk), fun j hj => by
  have a := h1.2 j hj
  have b := h2.2 j (by rw [← h1.1 39 rfl]; exact hj)
  exact ⟨a.1.trans b.1, a.2.trans b.2⟩⟩
theorem hc_kp (h : HC m w i σ u) (k1 : KP m σ v) (k2 : KP m u v') : HC m w i v v' := by
  refine ⟨fun j a b k => ?_, ?_, fun k hk => ?_⟩
  · have hj : j = 1 ∨ j = 2 ∨ j = 3 := by omega
    have hb : kpr j = true := by rcases hj with rfl | rfl | rfl <;> rfl
    rw [k1.2.2.1 j hb, k2.2.2.1 j hb]
    exact h.1 j a b k
  · rw [k1.2.2.1 4 rfl, k2.2.2.1 4 rfl]
    exact h.2.1
  · rw [k1.2.2.1 11 rfl, k2.2.2.1 11 rfl, k1.2.2.2, k2.2.2.2]
    exact h.2.2 k hk
theorem ve_m {k : Nat} {x y : Int32} (h : VE m σ u) (hk : k ≠ 39) (e : x = y) : VE m (wx_I σ m k x) (wx_I u m k y) := by
  subst e
  refine ⟨fun j hj => ?_, fun j hj => ?_⟩
  · by_cases q : j = k
    · subst q
      rw [ke, ke]
    · rw [kn q, kn q]
      exact h.1 j hj
  · rw [kn (fun q => hk q.symm)] at hj
    rw [gI_I, if_neg (by omega), gI_I, if_neg (by omega), gI_I, if_neg (by omega), gI_I, if_neg (by omega)]
    exact h.2 j hj
/-- a write beside -/
theorem ve_o {k : Nat} {x : Int32} (h : VE m σ u) (hk : fe k = false) : VE m (wx_I σ m k x) u := by
  refine ⟨fun j hj => ?_, fun j hj => ?_⟩
  · rw [kn (fun q => by rw [q, hk] at hj; cases hj)]
    exact h.1 j hj
  · rw [kn (fun q => by rw [← q] at hk; cases hk)] at hj
    rw [gI_I, if_neg (by omega), gI_I, if_neg (by omega)]
    exact h.2 j hj
theorem ve_b {j k : Nat} {x : Int32} (h : VE m σ u) (h1 : 1 ≤ j) (h2 : j ≠ 21) (h3 : j ≠ 22) : VE m (wx_I σ (m + j) k x) u := by
  refine ⟨fun i hi => ?_, fun i hi => ?_⟩
  · rw [gI_I, if_neg (by omega)]
    exact h.1 i hi
  · rw [gI_I, if_neg (by omega)] at hi
    rw [gI_I, if_neg (by omega), gI_I, if_neg (by omega)]
    exact h.2 i hi
/-- what meets, when there is an event -/
theorem me_r {x4 x7 : Int32} {x5 : Int64} (hs : ST m σ) (h0 : 0 ≤ x1.toInt) (h1 : x1.toInt ≤ 40) (hA : 1 ≤ mA m σ ∧ mA m σ ≤ 134) (hx : mA m σ < x2.toInt) : ∃ b : Int32, f_X9_meets σ m x1 x2 x3 x4 x5 x7 = some (b, wx_I (wx_I σ m 26 b) m 27 (sx_I σ m 27 + 1)) ∧ b = if sx_I σ (m + 11) (160 * ti x1 + ti (sx_I σ m 27)) = x4 then (if x7 = 0 then (if lg_cmp (sx_J σ (m + 12) (160 * ti x1 + ti (sx_I σ m 27))) x5 = 0 then 1 else 0) else 1) else 0 := by
  have hA' : 1 ≤ (sx_I σ m 27).toInt ∧ (sx_I σ m 27).toInt ≤ 134 := hA
  have i1 := n_160 (w := x1) (a := sx_I σ m 27) h0 h1 (by omega) (by omega)
  have i2 := ti_160 (w := x1) (a := sx_I σ m 27) h0 h1 (by omega) (by omega)
  have c1 : 0 ≤ (160 * x1 + sx_I σ m 27).toInt ∧ (160 * x1 + sx_I σ m 27).toInt < ((sx_N σ (m + 11) : Nat) : Int) := by rw [hs.n11]; omega
  have c2 : 0 ≤ (160 * x1 + sx_I σ m 27).toInt ∧ (160 * x1 + sx_I σ m 27).toInt < ((sx_N σ (m + 12) : Nat) : Int) := by rw [hs.n12]; omega
  have key : Ok (f_X9_meets σ m x1 x2 x3 x4 x5 x7) (fun r => r = ((if sx_I σ (m + 11) (160 * ti x1 + ti (sx_I σ m 27)) = x4 then (if x7 = 0 then (if lg_cmp (sx_J σ (m + 12) (160 * ti x1 + ti (sx_I σ m 27))) x5 = 0 then 1 else 0) else 1) else 0), wx_I (wx_I σ m 26 (if sx_I σ (m + 11) (160 * ti x1 + ti (sx_I σ m 27)) = x4 then (if x7 = 0 then (if lg_cmp (sx_J σ (m + 12) (160 * ti x1 + ti (sx_I σ m 27))) x5 = 0 then 1 else 0) else 1) else 0)) m 27 (sx_I σ m 27 + 1))) := by
    unfold f_X9_meets fb_X9_meets_55 fb_X9_meets_59 fb_X9_meets_60
    refine ok_n (by rw [n_le]; unfold mA at hx; omega) (ok_qb hs.r14 (ok_ck c1 ?_))
    rw [i2]
    refine ok_ite (fun c => ok_ite (fun c7 => ok_qb hs.r15 (ok_ck c2 ?_)) (fun c7 => ok_some ?_)) (fun c => ok_some ?_)
    · rw [if_pos c, if_pos c7]
      refine ok_ite (fun c5 => ok_some ?_) (fun c5 => ok_some ?_)
      · rw [if_pos c5]
      · rw [if_neg c5]
    · rw [if_pos c, if_neg c7]
    · rw [if_neg c]
  obtain ⟨r, h, e⟩ := key
  exact ⟨_, by rw [h, e], rfl⟩
/-- what both hold -/
def DD (m : Nat) (x1 : Int32) (i : Nat) (x2 x2' : Int32) (σ σ' : sx_T) : Prop := ST m σ ∧ ST m σ' ∧ (0 ≤ x1.toInt ∧ x1.toInt ≤ 40) ∧ (1 ≤ mA m σ ∧ mA m σ ≤ 134) ∧ (mA m σ < x2.toInt ∧ mA m σ < x2'.toInt ∧ mA m σ ≤ i) ∧ HC m (ti x1) i σ σ' ∧ VE m σ σ'
theorem dd_A (h : DD m x1 i x2 x2' σ σ') : mA m σ' = mA m σ ∧ sx_I σ' m 27 = sx_I σ m 27 := by
  have e := h.2.2.2.2.2.2.1 27 rfl
  exact ⟨by unfold mA; rw [e], e.symm⟩
theorem dd_kp (h : DD m x1 i x2 x2' σ σ') (k1 : KP m σ v) (k2 : KP m σ' v') (e : sx_I v m 27 = sx_I σ m 27) (hv : VE m v v') : DD m x1 i x2 x2' v v' := by
  obtain ⟨a1, a2, a3, a4, a5, a6, a7⟩ := h
  have eA : mA m v = mA m σ := by unfold mA; rw [e]
  exact ⟨st_f k1.1 a1, st_f k2.1 a2, a3, by rw [eA]; exact a4, by rw [eA]; exact a5, hc_kp a6 k1 k2, hv⟩
/-- both meet, or neither; then the number is the same -/
def DM (m : Nat) (x1 : Int32) (r r' : Int32 × sx_T) : Prop := r.1 = r'.1 ∧ VE m r.2 r'.2 ∧ f_X9_latestNumber r.2 m x1 = f_X9_latestNumber r'.2 m x1 ∧ ∀ v v', KP m r.2 v → KP m r'.2 v' → sx_I v m 27 = sx_I r.2 m 27 → sx_I v' m 27 = sx_I r'.2 m 27 → f_X9_latestNumber v m x1 = f_X9_latestNumber v' m x1
theorem de_meets {x4 x7 : Int32} {x5 x5' : Int64} (h : DD m x1 i x2 x2' σ σ') (h5 : x7 = 0 → x5 = x5') : OO (f_X9_meets σ m x1 x2 x3 x4 x5 x7) (f_X9_meets σ' m x1 x2' x3' x4 x5' x7) (DM m x1) := by
  obtain ⟨eA, e27⟩ := dd_A h
  obtain ⟨a1, a2, a3, a4, a5, a6, a7⟩ := h
  obtain ⟨b, hb, eb⟩ := me_r (x3 := x3) (x4 := x4) (x5 := x5) (x7 := x7) a1 a3.1 a3.2 a4 a5.1
  obtain ⟨b', hb', eb'⟩ := me_r (x3 := x3') (x4 := x4) (x5 := x5') (x7 := x7) a2 a3.1 a3.2 (by rw [eA]; exact a4) (by rw [eA]; exact a5.2.1)
  have a4' : 1 ≤ (sx_I σ m 27).toInt ∧ (sx_I σ m 27).toInt ≤ 134 := a4
  have hi : ti (sx_I σ m 27) ≤ i := by
    have := a5.2.2
    unfold mA at this
    unfold ti
    omega
  have hv := a6.2.2 _ hi
  have e1 : (sx_I σ m 27 + 1).toInt = (sx_I σ m 27).toInt + 1 := n_add1 (by omega) (by omega)
  have tn : ti (sx_I σ m 27 + 1) = ti (sx_I σ m 27) + 1 := by unfold ti; omega
  have ebb : b = b' := by
    rw [eb, eb', e27, ← hv.1, ← hv.2]
    by_cases c : x7 = 0
    · rw [h5 c]
    · rw [if_neg c, if_neg c]
  have ln : ∀ v v', KP m (wx_I (wx_I σ m 26 b) m 27 (sx_I σ m 27 + 1)) v → KP m (wx_I (wx_I σ' m 26 b') m 27 (sx_I σ' m 27 + 1)) v' → sx_I v m 27 = sx_I (wx_I (wx_I σ m 26 b) m 27 (sx_I σ m 27 + 1)) m 27 → sx_I v' m 27 = sx_I (wx_I (wx_I σ' m 26 b') m 27 (sx_I σ' m 27 + 1)) m 27 → f_X9_latestNumber v m x1 = f_X9_latestNumber v' m x1 := by
    intro v v' k1 k2 q1 q2
    rw [ke] at q1 q2
    rw [e27] at q2
    have w1 : KP m σ v := kp_t (kp_m (kp_m kp_r rfl) rfl) k1
    have w2 : KP m σ' v' := kp_t (kp_m (kp_m kp_r rfl) rfl) k2
    rw [ok_latest (st_f w1.1 a1) a3.1 a3.2 (by rw [q1, e1]; omega), ok_latest (st_f w2.1 a2) a3.1 a3.2 (by rw [q2, e1]; omega), q1, q2, tn, w1.2.2.2, w2.2.2.2, show 160 * ti x1 + (ti (sx_I σ m 27) + 1) - 1 = 160 * ti x1 + ti (sx_I σ m 27) by omega, hv.2]
  rw [hb, hb']
  exact oo_some ⟨ebb, ve_m (ve_m a7 (by decide) ebb) (by decide) (by rw [e27]), ln _ _ kp_r kp_r rfl rfl, ln⟩
theorem de_keptOf {x : Int32} (h : VE m σ σ') (hs : ST m σ) (hs' : ST m σ') : f_X9_keptOf n0 σ m x = f_X9_keptOf n0 σ' m x := by
  have e39 := h.1 39 rfl
  have key : ∀ n (x2 : Int32), 0 ≤ x2.toInt → fl_X9_keptOf_2 n0 n σ m x x2 = fl_X9_keptOf_2 n0 n σ' m x x2 := by
    intro n
    induction n with
    | zero => intro x2 _; rfl
    | succ n ih =>
      intro x2 h0
      unfold fl_X9_keptOf_2
      rw [hs.r40, hs'.r40, ← e39]
      by_cases c : sx_I σ m 39 ≤ x2
      · rw [if_pos c, if_pos c]
      · rw [if_neg c, if_neg c]
        show (ck x2 (sx_N σ (m + 21)) _) = (ck x2 (sx_N σ' (m + 21)) _)
        rw [hs.n21, hs'.n21]
        rw [n_le] at c
        have t := ti_of h0
        have hlt := Int32.toInt_lt (sx_I σ m 39)
        rw [(h.2 (ti x2) (by omega)).1, ih (x2 + 1) (by rw [n_add1 (by omega) (by omega)]; omega)]
  exact key n0 0 (by decide)
def UD (m : Nat) (σ σ' : sx_T) (r r' : Int32 × sx_T) : Prop := r.1 = r'.1 ∧ VE m r.2 r'.2
theorem de_uses_l {y : Int32} : ∀ n (σ σ' : sx_T) (x3 : Int32) (K : Int), ST m σ → ST m σ' → FE m σ σ' → AE m K σ σ' → (sx_I σ m 39).toInt < K → 0 ≤ x3.toInt → OO (fl_X9_uses_19 n0 n σ m y x3) (fl_X9_uses_19 n0 n σ' m y x3) (fun r r' => r.1 = r'.1 ∧ FE m r.2 r'.2 ∧ AE m K r.2 r'.2 ∧ sx_I r.2 m 39 = sx_I σ m 39) := by
  intro n
  induction n with
  | zero => intro σ σ' x3 K _ _ _ _ _ _ r1 r2 e1; cases e1
  | succ n ih =>
    intro σ σ' x3 K hs hs' hf ha hK h0
    have e39 := hf 39 rfl
    unfold fl_X9_uses_19
    refine oo_ite (by rw [e39]) (fun _ _ => oo_some ⟨rfl, hf, ha, rfl⟩) (fun c _ => ?_)
    rw [n_le] at c
    have hlt := Int32.toInt_lt (sx_I σ m 39)
    have e1 : (x3 + 1).toInt = x3.toInt + 1 := n_add1 (by omega) (by omega)
    have t1 : ((ti (x3 + 1) : Nat) : Int) = x3.toInt + 1 := by rw [← e1]; exact ti_of (by omega)
    have a1 := ha (ti (x3 + 1)) (by omega)
    refine oo_qv (oo_qb hs.r40 hs'.r40 (oo_ck (oo_bq hs.r40 hs'.r40 (oo_ck (oo_qv (oo_qb hs.r41 hs'.r41 (oo_ck (oo_bq hs.r41 hs'.r41 (oo_ck ?_)))))))))
    have g : ∀ (z : sx_T) p x q, sx_I (wx_I z (m + 21) p x) (m + 22) q = sx_I z (m + 22) q := fun z p x q => by rw [gI_I, if_neg (by omega)]
    rw [g, g, ← a1.1, ← a1.2]
    generalize hv : wx_I (wx_I σ (m + 21) (ti x3) (sx_I σ (m + 21) (ti (x3 + 1)))) (m + 22) (ti x3) (sx_I σ (m + 22) (ti (x3 + 1))) = v
    generalize hv' : wx_I (wx_I σ' (m + 21) (ti x3) (sx_I σ (m + 21) (ti (x3 + 1)))) (m + 22) (ti x3) (sx_I σ (m + 22) (ti (x3 + 1))) = v'
    have k1 : KP m σ v := by rw [← hv]; exact kp_a (kp_a kp_r rfl (by decide) (by decide)) rfl (by decide) (by decide)
    have k2 : KP m σ' v' := by rw [← hv']; exact kp_a (kp_a kp_r rfl (by decide) (by decide)) rfl (by decide) (by decide)
    have fm : ∀ k, sx_I v m k = sx_I σ m k := fun k => by rw [← hv, gI_I, if_neg (by omega), gI_I, if_neg (by omega)]
    have fm' : ∀ k, sx_I v' m k = sx_I σ' m k := fun k => by rw [← hv', gI_I, if_neg (by omega), gI_I, if_neg (by omega)]
    refine oo_m (ih v v' (x3 + 1) K (st_f k1.1 hs) (st_f k2.1 hs') (fun k hk => by rw [fm, fm']; exact hf k hk) (fun j hj => ?_) (by rw [fm]; exact hK) (by omega)) (fun r r' h => ⟨h.1, h.2.1, h.2.2.1, h.2.2.2.trans (fm 39)⟩)
    have a := ha j hj
    have r21 : ∀ (z : sx_T) p x y, sx_I (wx_I (wx_I z (m + 21) p x) (m + 22) p y) (m + 21) j = if j = p then x else sx_I z (m + 21) j := fun z p x y => by
      rw [gI_I, if_neg (by omega), gI_I]
      by_cases e : j = p
      · rw [if_pos ⟨rfl, e⟩, if_pos e]
      · rw [if_neg (fun q => e q.2), if_neg e]
    have r22 : ∀ (z : sx_T) p x y, sx_I (wx_I (wx_I z (m + 21) p x) (m + 22) p y) (m + 22) j = if j = p then y else sx_I z (m + 22) j := fun z p x y => by
      rw [gI_I]
      by_cases e : j = p
      · rw [if_pos ⟨rfl, e⟩, if_pos e]
      · rw [if_neg (fun q => e q.2), if_neg e, gI_I, if_neg (by omega)]
    rw [← hv, ← hv', r21, r21, r22, r22, a.1, a.2]
    exact ⟨rfl, rfl⟩
theorem de_uses {x : Int32} (h : VE m σ σ') (hs : ST m σ) (hs' : ST m σ') (h0 : 0 ≤ x.toInt) (h1 : x.toInt < (sx_I σ m 39).toInt) : OO (f_X9_uses n0 σ m x) (f_X9_uses n0 σ' m x) (UD m σ σ') := by
  have e39 := h.1 39 rfl
  have t := ti_of h0
  have a := h.2 (ti x) (by omega)
  have e1 : (sx_I σ m 39 - 1).toInt = (sx_I σ m 39).toInt - 1 := n_sub1 (by omega)
  unfold f_X9_uses
  refine oo_qb hs.r41 hs'.r41 (oo_ck ?_)
  rw [← a.2, ← e39]
  have k1 : KP m σ (wx_I σ m 39 (sx_I σ m 39 - 1)) := kp_m kp_r rfl
  have k2 : KP m σ' (wx_I σ' m 39 (sx_I σ m 39 - 1)) := kp_m kp_r rfl
  refine oo_m (de_uses_l n0 _ _ x (sx_I σ m 39).toInt (st_f k1.1 hs) (st_f k2.1 hs') (fun k hk => ?_) (fun j hj => ?_) (by rw [ke, e1]; omega) h0) (fun r r' q => ⟨q.1, q.2.1, fun j hj => q.2.2.1 j ?_⟩)
  · by_cases q : k = 39
    · rw [q, ke, ke]
    · rw [kn q, kn q]; exact h.1 k hk
  · rw [gI_I, if_neg (by omega), gI_I, if_neg (by omega), gI_I, if_neg (by omega), gI_I, if_neg (by omega)]
    exact h.2 j hj
  · rw [q.2.2.2, ke, e1] at hj
    omega
end M11
