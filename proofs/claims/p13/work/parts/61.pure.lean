section M12
variable {m w i : Nat} {σ σ' v v' u u' : sx_T} {s : Int} {n0 : Nat} {x1 x2 x2' x3 x3' : Int32}
theorem oo_bre {α β γ δ : Type} {y1 : Option α} {y2 : Option β} {a : α} {b : β} {k1 : α → Option γ} {k2 : β → Option δ} {R : γ → δ → Prop} (e1 : y1 = some a) (e2 : y2 = some b) (h : OO (k1 a) (k2 b) R) : OO (br y1 k1) (br y2 k2) R := by subst e1; subst e2; exact h
theorem oo_lqb {α β : Type} {v1 : Option Nat} {a1 : Nat} {k1 : Nat → Option α} {y : Option β} {R : α → β → Prop} (e1 : v1 = some a1) (h : OO (k1 a1) y R) : OO (qv v1 fun w => bq w k1) y R := by subst e1; exact h
theorem oo_lite {α β : Type} {c : Prop} [Decidable c] {a b : Option α} {y : Option β} {R : α → β → Prop} (h1 : OO a y R) (h2 : OO b y R) : OO (if c then a else b) y R := by
  by_cases h : c
  · rw [if_pos h]; exact h1
  · rw [if_neg h]; exact h2
theorem oo_e {α β : Type} {y1 : Option α} {y2 : Option β} {a : α} {b : β} {Q : α → α → Prop} {Q' : β → β → Prop} {R : α → β → Prop} (h1 : OO y1 (some a) Q) (h2 : OO y2 (some b) Q') (h : ∀ r r', Q r a → Q' r' b → R r r') : OO y1 y2 R := fun r1 r2 e1 e2 => h r1 r2 (h1 r1 a e1 rfl) (h2 r2 b e2 rfl)
theorem de_518 (h : VE m σ σ') : OO (fb_X9_comes_518 n0 σ m) (fb_X9_comes_518 n0 σ' m) (VE m) := oo_some (ve_m h (by decide) rfl)
theorem de_496 {x7 : Int64} {y0 : Int32} (h : VE m σ σ') : OO (fb_X9_comes_496 n0 σ m x7 y0) (fb_X9_comes_496 n0 σ' m x7 y0) (VE m) := by
  unfold fb_X9_comes_496 fb_X9_comes_515
  exact oo_ite Iff.rfl (fun _ _ => de_518 (ve_m (ve_m h (by decide) rfl) (by decide) (h.1 36 rfl))) (fun _ _ => de_518 (ve_m (ve_m h (by decide) rfl) (by decide) rfl))
theorem de_470 {x3 y0 : Int64} (h : VE m σ σ') : OO (fb_X9_comes_470 n0 σ m x3 y0) (fb_X9_comes_470 n0 σ' m x3 y0) (VE m) := by
  unfold fb_X9_comes_470
  rw [h.1 29 rfl]
  exact oo_ite Iff.rfl (fun _ _ => de_496 h) (fun _ _ => de_496 h)
theorem de_434 {x2 y0 y0' : Int32} {x3 : Int64} (h : VE m σ σ') (e : y0 = y0') : OO (fb_X9_comes_434 n0 σ m x2 x3 y0) (fb_X9_comes_434 n0 σ' m x2 x3 y0') (VE m) := by
  unfold fb_X9_comes_434
  exact oo_ite Iff.rfl (fun _ _ => oo_ite Iff.rfl (fun _ _ => de_470 (ve_m h (by decide) e)) (fun _ _ => de_470 (ve_m h (by decide) e))) (fun _ _ => de_518 (ve_m h (by decide) e))
theorem de_409 {x2 y0 y0' : Int32} {x3 : Int64} (h : VE m σ σ') (e : y0 = y0') : OO (fb_X9_comes_409 n0 σ m x2 x3 y0) (fb_X9_comes_409 n0 σ' m x2 x3 y0') (VE m) := by
  unfold fb_X9_comes_409 fb_X9_comes_430
  have g := ve_m (k := 29) h (by decide) e
  exact oo_ite Iff.rfl (fun _ _ => oo_ite (by rw [h.1 30 rfl]) (fun _ _ => de_434 g rfl) (fun _ _ => de_434 g (g.1 36 rfl))) (fun _ _ => de_434 g (g.1 36 rfl))
theorem de_388 {x2 : Int32} {x3 : Int64} (h : VE m σ σ') : OO (fb_X9_comes_388 n0 σ m x2 x3) (fb_X9_comes_388 n0 σ' m x2 x3) (VE m) := by
  unfold fb_X9_comes_388 fb_X9_comes_405
  have e := h.1 29 rfl
  exact oo_ite Iff.rfl (fun _ _ => oo_ite (by rw [h.1 30 rfl]) (fun _ _ => de_409 h rfl) (fun _ _ => de_409 h e)) (fun _ _ => de_409 h e)
/-- a signal is put behind the others -/
theorem ve_push {a b : Int32} (h : VE m σ σ') (hk : 0 ≤ (sx_I σ m 39).toInt ∧ (sx_I σ m 39).toInt ≤ 1000) : VE m (wx_I (wx_I (wx_I σ (m + 21) (ti (sx_I σ m 39)) a) (m + 22) (ti (sx_I σ m 39)) b) m 39 (sx_I σ m 39 + 1)) (wx_I (wx_I (wx_I σ' (m + 21) (ti (sx_I σ m 39)) a) (m + 22) (ti (sx_I σ m 39)) b) m 39 (sx_I σ m 39 + 1)) := by
  have e1 : (sx_I σ m 39 + 1).toInt = (sx_I σ m 39).toInt + 1 := n_add1 (by omega) (by omega)
  have t := ti_of hk.1
  refine ⟨fun k hk => ?_, fun j hj => ?_⟩
  · by_cases q : k = 39
    · rw [q, ke, ke]
    · rw [kn q, kn q, gI_I, if_neg (by omega), gI_I, if_neg (by omega), gI_I, if_neg (by omega), gI_I, if_neg (by omega)]
      exact h.1 k hk
  · rw [ke, e1] at hj
    have r21 : ∀ (z : sx_T), sx_I (wx_I (wx_I (wx_I z (m + 21) (ti (sx_I σ m 39)) a) (m + 22) (ti (sx_I σ m 39)) b) m 39 (sx_I σ m 39 + 1)) (m + 21) j = if j = ti (sx_I σ m 39) then a else sx_I z (m + 21) j := fun z => by
      rw [gI_I, if_neg (by omega), gI_I, if_neg (by omega), gI_I]
      by_cases e : j = ti (sx_I σ m 39)
      · rw [if_pos ⟨rfl, e⟩, if_pos e]
      · rw [if_neg (fun q => e q.2), if_neg e]
    have r22 : ∀ (z : sx_T), sx_I (wx_I (wx_I (wx_I z (m + 21) (ti (sx_I σ m 39)) a) (m + 22) (ti (sx_I σ m 39)) b) m 39 (sx_I σ m 39 + 1)) (m + 22) j = if j = ti (sx_I σ m 39) then b else sx_I z (m + 22) j := fun z => by
      rw [gI_I, if_neg (by omega), gI_I]
      by_cases e : j = ti (sx_I σ m 39)
      · rw [if_pos ⟨rfl, e⟩, if_pos e]
      · rw [if_neg (fun q => e q.2), if_neg e, gI_I, if_neg (by omega)]
    rw [r21, r21, r22, r22]
    by_cases e : j = ti (sx_I σ m 39)
    · rw [if_pos e, if_pos e, if_pos e, if_pos e]; exact ⟨rfl, rfl⟩
    · rw [if_neg e, if_neg e, if_neg e, if_neg e]; exact h.2 j (by omega)
theorem de_213 {x3 : Int64} (hn : 1000001 ≤ n0) (h : VE m σ σ') (hs : ST m σ) (hs' : ST m σ') (hk : (sx_I σ m 39).toInt ≤ 160) : OO (fb_X9_comes_213 n0 σ m x3) (fb_X9_comes_213 n0 σ' m x3) (VE m) := by
  unfold fb_X9_comes_213
  rw [h.1 31 rfl]
  refine oo_ite Iff.rfl (fun _ _ => ?_) (fun _ _ => oo_some h)
  obtain ⟨r, hr, hr2⟩ := ok_keptOf (x1 := sx_I σ' m 31) hn hs hk
  refine oo_bre hr ((de_keptOf h hs hs').symm.trans hr) ?_
  rcases hr2 with ⟨rfl, -⟩ | hr2
  · intro r1 r2 e1
    exfalso
    unfold f_X9_uses at e1
    rw [hs.r41] at e1
    have e2 : (bd (ck (-1) (sx_N σ (m + 22)) (fl_X9_uses_19 n0 n0 (wx_I σ m 39 ((sx_I σ m 39) - 1)) m (sx_I σ (m + 22) (ti (-1))) (-1))) fun r6 u7 => if (sx_I u7 m 30) = 4 then fb_X9_comes_256 n0 u7 m 1 else fb_X9_comes_256 n0 u7 m r6) = some r1 := e1
    unfold ck at e2
    rw [if_neg (fun q => absurd q.1 (by decide))] at e2
    cases e2
  · refine oo_bd (de_uses h hs hs' hr2.1 hr2.2) (fun a u b u' hu => ?_)
    obtain ⟨q1, q2⟩ := hu
    have q1 : a = b := q1
    have q2 : VE m u u' := q2
    unfold fb_X9_comes_256
    refine oo_ite (by rw [q2.1 30 rfl]) (fun _ _ => oo_some (ve_m (ve_m q2 (by decide) rfl) (by decide) rfl)) (fun _ _ => oo_some (ve_m (ve_m q2 (by decide) q1) (by decide) rfl))
/-- asked: whatever becomes of the children -/
theorem ask_l (hs : ST m σ) : OO (if (sx_I σ m 47) = 0 then
              fb_X9_comes_356 n0 (wx_I (wx_I σ m 27 ((sx_I σ m 27) + 1)) m 38 0) m
            else
              qv (sx_R σ m 12) fun w20 =>
              bq w20 fun a21 =>
              ck x1 (sx_N σ a21) <|
              if ((sx_I σ m 27) + 1) ≤ (sx_I σ a21 (ti x1)) then
                fb_X9_comes_356 n0 (wx_I (wx_I σ m 27 ((sx_I σ m 27) + 1)) m 38 0) m
              else
                qv (sx_R σ m 12) fun w24 =>
                bq w24 fun a25 =>
                ck x1 (sx_N σ a25) <|
                qv (sx_R σ m 46) fun w28 =>
                bq w28 fun a29 =>
                ck (sx_I σ m 45) (sx_N σ a29) <|
                fb_X9_comes_356 n0 (wx_I (wx_I (wx_I (wx_I (wx_I σ m 27 ((sx_I σ m 27) + 1)) m 38 0) a25 (ti x1) ((sx_I σ m 27) + 1)) a29 (ti (sx_I σ m 45)) (sx_I σ m 31)) m 45 ((sx_I σ m 45) + 1)) m) (some (wx_I (wx_I (wx_I (wx_I σ m 27 ((sx_I σ m 27) + 1)) m 38 0) m 30 0) m 36 3)) (VE m) := by
  unfold fb_X9_comes_356
  refine oo_lite (oo_some ve_r) (oo_lqb hs.r12 (oo_l (oo_lite (oo_some ve_r) (oo_lqb hs.r12 (oo_l (oo_lqb hs.r46 (oo_l (oo_some ?_))))))))
  exact ve_m (ve_m (ve_o (ve_b (ve_b ve_r (by decide) (by decide) (by decide)) (by decide) (by decide) (by decide)) rfl) (by decide) rfl) (by decide) rfl
theorem de_136 {x2 : Int32} {x3 : Int64} (hn : 1000001 ≤ n0) (h : VE m σ σ') (hs : ST m σ) (hs' : ST m σ') (hk : 0 ≤ (sx_I σ m 39).toInt ∧ (sx_I σ m 39).toInt ≤ 90) : OO (fb_X9_comes_136 n0 σ m x1 x2 x3) (fb_X9_comes_136 n0 σ' m x1 x2 x3) (VE m) := by
  have e27 := h.1 27 rfl
  have e39 := h.1 39 rfl
  have g : VE m (wx_I (wx_I σ m 27 (sx_I σ m 27 + 1)) m 38 0) (wx_I (wx_I σ' m 27 (sx_I σ' m 27 + 1)) m 38 0) := ve_m (ve_m h (by decide) (by rw [e27])) (by decide) rfl
  unfold fb_X9_comes_136
  refine oo_ite Iff.rfl (fun _ _ => oo_qb hs.r40 hs'.r40 (oo_ck (oo_qb hs.r41 hs'.r41 (oo_ck ?_)))) (fun _ _ => oo_ite Iff.rfl (fun _ _ => ?_) (fun _ _ => oo_ite Iff.rfl (fun _ _ => oo_ite (by rw [h.1 30 rfl]) (fun _ _ => de_409 g rfl) (fun _ _ => de_388 g)) (fun _ _ => de_388 g)))
  · have f39 : sx_I (wx_I (wx_I σ m 27 (sx_I σ m 27 + 1)) m 38 0) m 39 = sx_I σ m 39 := by rw [kn (by decide), kn (by decide)]
    have p := ve_push (a := (x3 / 100).toInt32) (b := (jreml x3 100).toInt32) g (by rw [f39]; omega)
    rw [f39] at p
    rw [← e39]
    have k1 : KP m σ (wx_I (wx_I (wx_I (wx_I (wx_I σ m 27 (sx_I σ m 27 + 1)) m 38 0) (m + 21) (ti (sx_I σ m 39)) ((x3 / 100).toInt32)) (m + 22) (ti (sx_I σ m 39)) ((jreml x3 100).toInt32)) m 39 (sx_I σ m 39 + 1)) := kp_m (kp_a (kp_a (kp_m (kp_m kp_r rfl) rfl) rfl (by decide) (by decide)) rfl (by decide) (by decide)) rfl
    have k2 : KP m σ' (wx_I (wx_I (wx_I (wx_I (wx_I σ' m 27 (sx_I σ' m 27 + 1)) m 38 0) (m + 21) (ti (sx_I σ m 39)) ((x3 / 100).toInt32)) (m + 22) (ti (sx_I σ m 39)) ((jreml x3 100).toInt32)) m 39 (sx_I σ m 39 + 1)) := kp_m (kp_a (kp_a (kp_m (kp_m kp_r rfl) rfl) rfl (by decide) (by decide)) rfl (by decide) (by decide)) rfl
    have q := de_213 (x3 := x3) hn p (st_f k1.1 hs) (st_f k2.1 hs') (by rw [ke, n_add1 (by omega) (by omega)]; omega)
    exact oo_ite (by rw [h.1 30 rfl]) (fun _ _ => q) (fun _ _ => oo_ite (by rw [h.1 30 rfl]) (fun _ _ => q) (fun _ _ => oo_some p))
  · have g3 : VE m (wx_I (wx_I (wx_I (wx_I σ m 27 (sx_I σ m 27 + 1)) m 38 0) m 30 0) m 36 3) (wx_I (wx_I (wx_I (wx_I σ' m 27 (sx_I σ' m 27 + 1)) m 38 0) m 30 0) m 36 3) := ve_m (ve_m g (by decide) rfl) (by decide) rfl
    refine oo_ite (by rw [h.1 34 rfl]) (fun _ _ => oo_ite (by rw [h.1 36 rfl]) (fun _ _ => oo_ite (by rw [h.1 30 rfl]) (fun _ _ => ?_) (fun _ _ => oo_some g3)) (fun _ _ => oo_some g)) (fun _ _ => oo_some (ve_m g (by decide) rfl))
    exact oo_e (ask_l hs) (ask_l hs') (fun r r' a b => ve_t a (ve_t g3 (ve_s b)))
theorem de_comes (hn : 1000001 ≤ n0) (h : DD m x1 i x2 x2' σ σ') (hk : 0 ≤ (sx_I σ m 39).toInt ∧ (sx_I σ m 39).toInt ≤ 90) : OO (f_X9_comes n0 σ m x1) (f_X9_comes n0 σ' m x1) (VE m) := by
  obtain ⟨eA, e27⟩ := dd_A h
  obtain ⟨hs, hs', a3, a4, a5, a6, hv⟩ := h
  have a4' : 1 ≤ (sx_I σ m 27).toInt ∧ (sx_I σ m 27).toInt ≤ 134 := a4
  have i2 := ti_160 (w := x1) (a := sx_I σ m 27) a3.1 a3.2 (by omega) (by omega)
  have hi : ti (sx_I σ m 27) ≤ i := by
    have := a5.2.2
    unfold mA at this
    unfold ti
    omega
  have hq := a6.2.2 _ hi
  have out : VE m (wx_I σ m 26 0) (wx_I σ' m 26 0) := ve_m hv (by decide) rfl
  unfold f_X9_comes fb_X9_comes_49
  rw [e27]
  refine oo_qb hs.r14 hs'.r14 (oo_ck (oo_qb hs.r15 hs'.r15 (oo_ck ?_)))
  rw [i2, ← hq.1, ← hq.2]
  generalize sx_I σ (m + 11) (160 * ti x1 + ti (sx_I σ m 27)) = y
  generalize sx_J σ (m + 12) (160 * ti x1 + ti (sx_I σ m 27)) = z
  have g136 : OO (fb_X9_comes_136 n0 σ m x1 y z) (fb_X9_comes_136 n0 σ' m x1 y z) (VE m) := de_136 hn hv hs hs' hk
  have g104 : OO (fb_X9_comes_104 n0 σ m x1 y z) (fb_X9_comes_104 n0 σ' m x1 y z) (VE m) := by
    unfold fb_X9_comes_104
    exact oo_ite Iff.rfl (fun _ _ => oo_ite (by rw [hv.1 30 rfl]) (fun _ _ => g136) (fun _ _ => oo_some out)) (fun _ _ => oo_some out)
  have g83 : OO (fb_X9_comes_83 n0 σ m x1 y z) (fb_X9_comes_83 n0 σ' m x1 y z) (VE m) := by
    unfold fb_X9_comes_83
    exact oo_ite Iff.rfl (fun _ _ => oo_ite (by rw [hv.1 30 rfl]) (fun _ _ => g136) (fun _ _ => oo_ite (by rw [hv.1 30 rfl]) (fun _ _ => g136) (fun _ _ => g104))) (fun _ _ => g104)
  have g54 : ∀ y0, OO (fb_X9_comes_54 n0 σ m x1 y z y0) (fb_X9_comes_54 n0 σ' m x1 y z y0) (VE m) := fun y0 => by
    unfold fb_X9_comes_54
    exact oo_ite Iff.rfl (fun _ _ => g136) (fun _ _ => oo_ite Iff.rfl (fun _ _ => g136) (fun _ _ => oo_ite Iff.rfl (fun _ _ => g83) (fun _ _ => oo_ite Iff.rfl (fun _ _ => g136) (fun _ _ => oo_ite Iff.rfl (fun _ _ => g136) (fun _ _ => g83)))))
  exact oo_ite (by rw [hv.1 30 rfl]) (fun _ _ => g54 1) (fun _ _ => oo_ite (by rw [hv.1 30 rfl]) (fun _ _ => g54 1) (fun _ _ => g54 0))
end M12
