section M14
variable {m w i : Nat} {σ σ' v v' u u' β β' : sx_T} {s : Int} {n0 : Nat} {x1 x2 x2' x3 x3' : Int32}
theorem de_steps (hn : 1000001 ≤ n0) (h : DD m x1 i x2 x2' σ σ') (hk : (sx_I σ m 39).toInt ≤ 90) : OO (f_X9_steps n0 σ m x1 x2 x3) (f_X9_steps n0 σ' m x1 x2' x3') (VD m) := by
  obtain ⟨eA, e27⟩ := dd_A h
  have h' := h
  obtain ⟨hs, hs', a3, a4, a5, a6, hv⟩ := h
  have c1 : sx_I σ m 27 < x2 := by rw [n_lt]; unfold mA at a5; omega
  have c2 : sx_I σ' m 27 < x2' := by rw [e27, n_lt]; unfold mA at a5; omega
  unfold f_X9_steps
  refine oo_ite (by rw [hv.1 38 rfl]) (fun _ _ => oo_some (ve_m hv (by decide) rfl)) (fun _ _ => ?_)
  refine oo_qb hs.r7 hs'.r7 (oo_ck (oo_qb hs.r3 hs'.r3 (oo_ck (oo_qb hs.r4 hs'.r4 (oo_ck ?_)))))
  rw [if_pos c1, if_pos c2, ← a6.2.1, ← hv.1 28 rfl, ← a6.1 1 (by decide) (by decide), ← a6.1 2 (by decide) (by decide)]
  generalize 20 * sx_I σ (m + 4) (ti x1) + sx_I σ m 28 = x4
  generalize sx_I σ (m + 1) (ti x4) = x5
  generalize sx_I σ (m + 2) (ti x4) = x6
  unfold fb_X9_steps_63 fb_X9_steps_106
  rw [← hv.1 28 rfl, ← hv.1 38 rfl]
  have g : VE m (wx_I (wx_I σ m 38 (sx_I σ m 38 + 1)) m 28 (jrem (sx_I σ m 28 + 1) 20)) (wx_I (wx_I σ' m 38 (sx_I σ m 38 + 1)) m 28 (jrem (sx_I σ m 28 + 1) 20)) := ve_m (ve_m hv (by decide) rfl) (by decide) rfl
  have k1 : KP m σ (wx_I (wx_I σ m 38 (sx_I σ m 38 + 1)) m 28 (jrem (sx_I σ m 28 + 1) 20)) := kp_m (kp_m kp_r rfl) rfl
  have k2 : KP m σ' (wx_I (wx_I σ' m 38 (sx_I σ m 38 + 1)) m 28 (jrem (sx_I σ m 28 + 1) 20)) := kp_m (kp_m kp_r rfl) rfl
  have d := dd_kp h' k1 k2 (by rw [kn (by decide), kn (by decide)]) g
  have z39 : sx_I (wx_I (wx_I σ m 38 (sx_I σ m 38 + 1)) m 28 (jrem (sx_I σ m 28 + 1) 20)) m 39 = sx_I σ m 39 := by rw [kn (by decide), kn (by decide)]
  generalize wx_I (wx_I σ m 38 (sx_I σ m 38 + 1)) m 28 (jrem (sx_I σ m 28 + 1) 20) = z at g k1 d z39 ⊢
  generalize wx_I (wx_I σ' m 38 (sx_I σ m 38 + 1)) m 28 (jrem (sx_I σ m 28 + 1) 20) = z' at g k2 d ⊢
  generalize sx_I σ m 28 = x8
  have s116 : ∀ x9, (x5 = 3 ∨ x5 = 4 → x9 = -1 ∨ (0 ≤ x9.toInt ∧ x9.toInt < (sx_I z m 39).toInt)) → OO (fb_X9_steps_116 n0 z m x1 x2 x3 x4 x5 x6 0 x8 x9) (fb_X9_steps_116 n0 z' m x1 x2' x3' x4 x5 x6 0 x8 x9) (VD m) := by
    intro x9 hx9
    have g164 : OO (fb_X9_steps_164 n0 z m x1 x2 x3 x4 x5 x6 0 x8 x9) (fb_X9_steps_164 n0 z' m x1 x2' x3' x4 x5 x6 0 x8 x9) (VD m) := de_164 d hx9
    have g157 : OO (fb_X9_steps_157 n0 z m) (fb_X9_steps_157 n0 z' m) (VD m) := oo_some (ve_m g (by decide) rfl)
    have g141 : OO (fb_X9_steps_141 n0 z m x1 x2 x3 x4 x5 x6 0 x8 x9) (fb_X9_steps_141 n0 z' m x1 x2' x3' x4 x5 x6 0 x8 x9) (VD m) := by
      unfold fb_X9_steps_141
      exact oo_ite Iff.rfl (fun _ _ => oo_ite (by rw [g.1 32 rfl]) (fun _ _ => g157) (fun _ _ => g164)) (fun _ _ => g164)
    unfold fb_X9_steps_116
    have eb : f_X9_isBounded z x5 = f_X9_isBounded z' x5 := rfl
    rw [eb]
    exact oo_br oo_eq (fun r r' e => by subst e; exact oo_ite Iff.rfl (fun _ _ => g141) (fun _ _ => oo_ite Iff.rfl (fun _ _ => oo_ite (by rw [g.1 27 rfl]) (fun _ _ => g157) (fun _ _ => g141)) (fun _ _ => g141)))
  have s106 : OO (br (f_X9_keptOf n0 z m x6) fun r2 => fb_X9_steps_116 n0 z m x1 x2 x3 x4 x5 x6 0 x8 r2) (br (f_X9_keptOf n0 z' m x6) fun r2 => fb_X9_steps_116 n0 z' m x1 x2' x3' x4 x5 x6 0 x8 r2) (VD m) := by
    obtain ⟨r, hr, hr2⟩ := ok_keptOf (x1 := x6) hn d.1 (by rw [z39]; omega)
    exact oo_bre hr ((de_keptOf g d.1 d.2.1).symm.trans hr) (s116 r (fun _ => hr2.imp (fun q => q.1) id))
  exact oo_ite Iff.rfl (fun _ _ => s106) (fun _ _ => oo_ite Iff.rfl (fun _ _ => s106) (fun _ _ => s116 (-1) (fun _ => Or.inl rfl)))
/-- asked, while it waits for its child: it ends then -/
theorem trig_ends (hs : ST m σ) (h0 : 0 ≤ x1.toInt) (h1 : x1.toInt ≤ 40) (hA : 1 ≤ mA m σ ∧ mA m σ ≤ 134) (e12 : sx_I σ (m + 11) (160 * ti x1 + ti (sx_I σ m 27)) = 12) (e34 : sx_I σ m 34 = 0) (e36 : sx_I σ m 36 = 0) (e30 : sx_I σ m 30 = 5) (hu : f_X9_comes n0 σ m x1 = some u) : sx_I u m 36 ≠ 0 := by
  have hA' : 1 ≤ (sx_I σ m 27).toInt ∧ (sx_I σ m 27).toInt ≤ 134 := hA
  have i2 := ti_160 (w := x1) (a := sx_I σ m 27) h0 h1 (by omega) (by omega)
  have key : OO (f_X9_comes n0 σ m x1) (some (wx_I (wx_I (wx_I (wx_I σ m 27 ((sx_I σ m 27) + 1)) m 38 0) m 30 0) m 36 3)) (VE m) := by
    unfold f_X9_comes fb_X9_comes_49
    refine oo_lqb hs.r14 (oo_l (oo_lqb hs.r15 (oo_l ?_)))
    rw [i2, e12]
    have g136 : ∀ z, OO (fb_X9_comes_136 n0 σ m x1 12 z) (some (wx_I (wx_I (wx_I (wx_I σ m 27 ((sx_I σ m 27) + 1)) m 38 0) m 30 0) m 36 3)) (VE m) := fun z => by
      unfold fb_X9_comes_136
      rw [if_neg (by decide), if_pos rfl, if_pos e34, if_pos e36, if_pos e30]
      exact ask_l hs
    have g54 : ∀ z y0, OO (fb_X9_comes_54 n0 σ m x1 12 z y0) (some (wx_I (wx_I (wx_I (wx_I σ m 27 ((sx_I σ m 27) + 1)) m 38 0) m 30 0) m 36 3)) (VE m) := fun z y0 => by
      unfold fb_X9_comes_54
      rw [if_neg (by decide), if_pos rfl]
      exact g136 z
    exact oo_lite (g54 _ _) (oo_lite (g54 _ _) (g54 _ _))
  have q := (key u _ hu rfl).1 36 rfl
  rw [q, ke]
  decide
/-! the ways that a replaying went -/
def It (n0 m : Nat) (x1 : Int32) (σ u : sx_T) : Prop := ∃ x2 x3 : Int32, mA m σ < x2.toInt ∧ ((sx_I σ m 30 ≠ 0 ∧ f_X9_comes n0 σ m x1 = some u) ∨ (sx_I σ m 30 = 0 ∧ ∃ r, f_X9_steps n0 σ m x1 x2 x3 = some (r, u)))
def TC (m : Nat) (x1 : Int32) (i : Nat) (β σ : sx_T) : Prop := ST m σ ∧ HC m (ti x1) i β σ ∧ (0 ≤ (sx_I σ m 39).toInt ∧ (sx_I σ m 39).toInt ≤ 90) ∧ (1 ≤ mA m σ ∧ mA m σ ≤ 134 ∧ mA m σ ≤ i) ∧ sx_I σ m 36 = 0
def In (m : Nat) (x1 : Int32) (σ : sx_T) : Prop := ∀ k, fe k = true → sx_I σ m k = if k = 26 then 1 else if k = 27 then 1 else if k = 29 then (sx_J σ (m + 12) (160 * ti x1)).toInt32 else 0
def Tr (n0 m : Nat) (x1 : Int32) (i : Nat) (β : sx_T) : Nat → sx_T → Prop
  | 0 => fun σ => In m x1 σ ∧ TC m x1 i β σ
  | n + 1 => fun σ => TC m x1 i β σ ∧ ∃ σ', Tr n0 m x1 i β n σ' ∧ It n0 m x1 σ' σ
theorem tr_c : ∀ n σ, Tr n0 m x1 i β n σ → TC m x1 i β σ := by
  intro n σ h
  cases n with
  | zero => exact h.2
  | succ n => exact h.1
theorem hc_s (h : HC m w i σ u) : HC m w i u σ := ⟨fun j a b k => (h.1 j a b k).symm, h.2.1.symm, fun k hk => ⟨((h.2.2 k hk).1).symm, ((h.2.2 k hk).2).symm⟩⟩
theorem hc_t (h1 : HC m w i σ v) (h2 : HC m w i v u) : HC m w i σ u := ⟨fun j a b k => (h1.1 j a b k).trans (h2.1 j a b k), h1.2.1.trans h2.2.1, fun k hk => ⟨((h1.2.2 k hk).1).trans ((h2.2.2 k hk).1), ((h1.2.2 k hk).2).trans ((h2.2.2 k hk).2)⟩⟩
theorem hc_i {i' : Nat} (h : HC m w i σ u) (hi : i' ≤ i) : HC m w i' σ u := ⟨h.1, h.2.1, fun k hk => h.2.2 k (by omega)⟩
/-- of the same length: the same place -/
theorem tr_e {i' : Nat} (hn : 1000001 ≤ n0) (h0 : 0 ≤ x1.toInt) (h1 : x1.toInt ≤ 40) (hi : i ≤ i') (hb : HC m (ti x1) i β β') : ∀ n σ σ', Tr n0 m x1 i β n σ → Tr n0 m x1 i' β' n σ' → VE m σ σ' ∧ HC m (ti x1) i σ σ' := by
  intro n
  induction n with
  | zero =>
    intro σ σ' h h'
    have hc : HC m (ti x1) i σ σ' := hc_t (hc_t (hc_s h.2.2.1) hb) (hc_i h'.2.2.1 hi)
    refine ⟨⟨fun k hk => ?_, fun j hj => ?_⟩, hc⟩
    · rw [h.1 k hk, h'.1 k hk]
      have e : sx_J σ (m + 12) (160 * ti x1) = sx_J σ' (m + 12) (160 * ti x1) := (hc.2.2 0 (by omega)).2
      rw [e]
    · have e := h.1 39 rfl
      rw [if_neg (by decide), if_neg (by decide), if_neg (by decide)] at e
      rw [e, l_0] at hj
      omega
  | succ n ih =>
    intro σ σ' h h'
    obtain ⟨c, τ, t1, it⟩ := h
    obtain ⟨c', τ', t1', it'⟩ := h'
    obtain ⟨hv, hc⟩ := ih τ τ' t1 t1'
    refine ⟨?_, hc_t (hc_t (hc_s c.2.1) hb) (hc_i c'.2.1 hi)⟩
    have d := tr_c n τ t1
    have d' := tr_c n τ' t1'
    obtain ⟨x2, x3, q1, q2⟩ := it
    obtain ⟨x2', x3', q1', q2'⟩ := it'
    have eA : mA m τ' = mA m τ := by unfold mA; rw [hv.1 27 rfl]
    have dd : DD m x1 i x2 x2' τ τ' := ⟨d.1, d'.1, ⟨h0, h1⟩, ⟨d.2.2.2.1.1, d.2.2.2.1.2.1⟩, ⟨q1, by omega, d.2.2.2.1.2.2⟩, hc, hv⟩
    rcases q2 with ⟨a, b⟩ | ⟨a, r, b⟩
    · rcases q2' with ⟨a', b'⟩ | ⟨a', -⟩
      · exact de_comes hn dd d.2.2.1 σ σ' b b'
      · rw [← hv.1 30 rfl] at a'
        exact absurd a' a
    · rcases q2' with ⟨a', -⟩ | ⟨a', r', b'⟩
      · rw [← hv.1 30 rfl] at a'
        exact absurd a a'
      · exact de_steps hn dd d.2.2.1.2 (r, σ) (r', σ') b b'
theorem tr_p : ∀ n σ, Tr n0 m x1 i β n σ → ∀ k, k < n → ∃ τ τ', Tr n0 m x1 i β k τ ∧ It n0 m x1 τ τ' ∧ sx_I τ' m 36 = 0 := by
  intro n
  induction n with
  | zero => intro σ _ k hk; omega
  | succ n ih =>
    intro σ h k hk
    obtain ⟨c, τ, t1, it⟩ := h
    by_cases e : k = n
    · subst e
      exact ⟨τ, σ, t1, it, c.2.2.2.2⟩
    · exact ih τ t1 k (by omega)
/-- where the one that waits for its child is asked -/
def TQ (m : Nat) (x1 : Int32) (σ : sx_T) : Prop := sx_I σ (m + 11) (160 * ti x1 + ti (sx_I σ m 27)) = 12 ∧ sx_I σ m 34 = 0 ∧ sx_I σ m 30 = 5
theorem ts_stop (h0 : 0 ≤ x1.toInt) (h1 : x1.toInt ≤ 40) (c : TC m x1 i β σ) (h : TQ m x1 σ) (it : It n0 m x1 σ u) : sx_I u m 36 ≠ 0 := by
  obtain ⟨x2, x3, -, q⟩ := it
  rcases q with ⟨-, b⟩ | ⟨a, -⟩
  · exact trig_ends c.1 h0 h1 ⟨c.2.2.2.1.1, c.2.2.2.1.2.1⟩ h.1 h.2.1 c.2.2.2.2 h.2.2 b
  · rw [h.2.2] at a
    exact absurd a (by decide)
theorem ts_ve (hi : mA m σ ≤ i ∧ 1 ≤ mA m σ) (hv : VE m σ σ') (hc : HC m (ti x1) i σ σ') : TQ m x1 σ ↔ TQ m x1 σ' := by
  have t : ti (sx_I σ m 27) ≤ i := by unfold mA at hi; unfold ti; omega
  unfold TQ
  rw [← hv.1 27 rfl, ← hv.1 34 rfl, ← hv.1 30 rfl, (hc.2.2 _ t).1]
theorem tr_one {i' n n' : Nat} (hn : 1000001 ≤ n0) (h0 : 0 ≤ x1.toInt) (h1 : x1.toInt ≤ 40) (hi : i ≤ i') (hb : HC m (ti x1) i β β') (t : Tr n0 m x1 i β n σ) (t' : Tr n0 m x1 i' β' n' σ') (hs : TQ m x1 σ) (hs' : TQ m x1 σ') : mA m σ = mA m σ' := by
  rcases Nat.lt_trichotomy n n' with h | h | h
  · obtain ⟨τ, τ', q1, q2, q3⟩ := tr_p n' σ' t' n h
    obtain ⟨hv, hc⟩ := tr_e hn h0 h1 hi hb n σ τ t q1
    have c := tr_c n σ t
    have e := (ts_ve ⟨c.2.2.2.1.2.2, c.2.2.2.1.1⟩ hv hc).mp hs
    exact absurd q3 (ts_stop h0 h1 (tr_c n τ q1) e q2)
  · subst h
    obtain ⟨hv, hc⟩ := tr_e hn h0 h1 hi hb n σ σ' t t'
    unfold mA
    rw [hv.1 27 rfl]
  · obtain ⟨τ, τ', q1, q2, q3⟩ := tr_p n σ t n' h
    obtain ⟨hv, hc⟩ := tr_e hn h0 h1 hi hb n' τ σ' q1 t'
    have c := tr_c n' τ q1
    have e := (ts_ve ⟨c.2.2.2.1.2.2, c.2.2.2.1.1⟩ hv hc).mpr hs'
    exact absurd q3 (ts_stop h0 h1 c e q2)
/-- it was asked so once while this code stands -/
def Rc (n0 m : Nat) (x1 : Int32) (σ : sx_T) : Prop := ∃ n i β s, Tr n0 m x1 i β n s ∧ TQ m x1 s ∧ HC m (ti x1) i β σ ∧ (i : Int) + 1 ≤ mE m σ (ti x1) ∧ mA m s + 1 ≤ (sx_I σ (m + 9) (ti x1)).toInt
theorem rc_up (h : Rc n0 m x1 σ) (hl : LW m σ u) (hw : ((ti x1 : Nat) : Int) < mW m σ ∧ ti x1 < 41) (hg : (sx_I σ (m + 9) (ti x1)).toInt ≤ (sx_I u (m + 9) (ti x1)).toInt) : Rc n0 m x1 u := by
  obtain ⟨n, i, β, s, h1, h2, h3, h4, h5⟩ := h
  refine ⟨n, i, β, s, h1, h2, hc_t h3 ?_, Int.le_trans h4 (hl.ev _ hw.2), Int.le_trans h5 hg⟩
  exact ⟨fun j a b k => (hl.co j a b k).symm, (hl.pr _ hw.1 4 (by decide) (by decide)).symm, fun k hk => by
    have := hl.hi _ hw.2 k (by omega)
    exact ⟨this.1.symm, this.2.symm⟩⟩
end M14
