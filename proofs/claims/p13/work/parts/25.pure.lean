section RUN4
variable {σ : sx_T} {t p q h n0 : Nat}
/-- a run that makes a step: nothing wanted, awaited, undone -/
def SB (σ : sx_T) (t p : Nat) : Prop := RIz (sx_I σ p 1).toInt (sx_I σ t 4).toInt 0 0 0 (-1) 0 0 ∧ (sx_I σ t 8).toInt = 0 ∧ (sx_I σ t 14).toInt = 0 ∧ (sx_I σ t 16).toInt = -1 ∧ (sx_I σ t 19).toInt = 0 ∧ (sx_I σ t 15).toInt = 0
def SP (σ u : sx_T) (t p q : Nat) : Prop := FA (AR σ t p q) σ u ∧ RI u t p ∧ sx_I u t 4 = sx_I σ t 4 ∧ (sx_I u t 19).toInt = 0 ∧ ((sx_I u t 14).toInt ≠ 0 ∨ sx_I u t 7 = sx_I σ t 7)
def SS (σ : sx_T) (t : Nat) : Prop := 0 ≤ (sx_I σ t 7).toInt ∧ (sx_I σ t 7).toInt ≤ 60
theorem sp_fail (hc : RC σ t p q h) (hb : SB σ t p) : SP σ (wx_I (wx_I σ t 8 0) t 14 2) t p q := by
  obtain ⟨hpt, -⟩ := rc_ne hc
  obtain ⟨b1, b2, b3, b4, b5, b6⟩ := hb
  refine ⟨far_tI far_I, ?_, by simp [gI_I], by simp [gI_I]; exact b5, Or.inl (by simp [gI_I])⟩
  simp [-Int32.toInt_add, -Int32.toInt_sub, RI, gI_I, hpt]
  rw [b4, b5, b6]
  unfold RIz at b1 ⊢
  omega
theorem sp_want {x1 : Int32} {x2 : Int64} (hc : RC σ t p q h) (hb : SB σ t p) (hs : SS σ t) (hx : x1.toInt = 13 ∨ ((x1.toInt = 1 ∨ x1.toInt = 4 ∨ x1.toInt = 7 ∨ x1.toInt = 9 ∨ x1.toInt = 10 ∨ x1.toInt = 14) ∧ (sx_I σ t 4).toInt ≤ 59)) : SP σ (wx_J (wx_I σ t 16 x1) t 17 x2) t p q := by
  obtain ⟨hpt, -⟩ := rc_ne hc
  obtain ⟨b1, b2, b3, b4, b5, b6⟩ := hb
  unfold SS at hs
  refine ⟨far_tJ far_I, ?_, by simp [gI_I, gI_J], by simp [gI_I, gI_J]; exact b5, Or.inr (by simp [gI_I, gI_J])⟩
  simp [-Int32.toInt_add, -Int32.toInt_sub, RI, gI_I, gI_J, hpt]
  rw [b2, b3, b5, b6]
  unfold RIz at b1 ⊢
  omega
/-- only what the run's rules don't speak of is written: place, value, signal, shield .. -/
theorem sp_free {k : Nat} {x : Int32} {u : sx_T} (hc : RC σ t p q h) (hb : SB σ t p) (hs : SS σ t) (hf : FA (AR σ t p q) σ u) (ht : ∀ k, sx_I u t k = sx_I σ t k) (hp : sx_I u p 1 = sx_I σ p 1) (hk : k ≠ 4 ∧ k ≠ 7 ∧ k ≠ 8 ∧ k ≠ 14 ∧ k ≠ 15 ∧ k ≠ 16 ∧ k ≠ 19) : SP σ (wx_I u t k x) t p q := by
  obtain ⟨hpt, -⟩ := rc_ne hc
  obtain ⟨b1, b2, b3, b4, b5, b6⟩ := hb
  unfold SS at hs
  obtain ⟨k1, k2, k3, k4, k5, k6, k7⟩ := hk
  refine ⟨far_tI hf, ?_, ?_, ?_, Or.inr ?_⟩
  · simp [-Int32.toInt_add, -Int32.toInt_sub, RI, gI_I, hpt, Ne.symm k1, Ne.symm k2, Ne.symm k3, Ne.symm k4, Ne.symm k5, Ne.symm k6, Ne.symm k7]
    rw [ht, ht, ht, ht, ht, ht, ht, hp, b2, b3, b4, b5, b6]
    unfold RIz at b1 ⊢
    omega
  · simp [gI_I, Ne.symm k1, ht]
  · simp [gI_I, Ne.symm k7, ht]
    exact b5
  · simp [gI_I, Ne.symm k2, ht]
theorem sb_9 {x : Int32} (hpt : p ≠ t) (hb : SB σ t p) : SB (wx_I σ t 9 x) t p := by
  unfold SB at hb ⊢
  simp [gI_I, hpt]
  exact hb
theorem sp_9 {x : Int32} {u : sx_T} (h9 : SP (wx_I σ t 9 x) u t p q) : SP σ u t p q := by
  obtain ⟨h1, h2, h3, h4, h5⟩ := h9
  have hf : FA (AR σ t p q) σ (wx_I σ t 9 x) := far_I
  rw [ar_f hf] at h1
  refine ⟨fa_t hf h1, h2, ?_, h4, h5.imp id (fun e => ?_)⟩
  · rw [h3]; simp [gI_I]
  · rw [e]; simp [gI_I]
theorem ok_await {x : Int32} (hc : RC σ t p q h) (hb : SB σ t p) (hs : SS σ t) (hn : 1000001 ≤ n0) : Ok (f_X5_await n0 σ t x) (fun u => SP σ u t p q) := by
  obtain ⟨hpt, -⟩ := rc_ne hc
  obtain ⟨r, hr⟩ := ok_find (x := x) hc.1 hc.2.2.2.1.2 hn
  unfold f_X5_await
  refine ok_qb hc.2.2.2.1.1 (ok_bre hr (ok_ite (fun _ => ok_some ⟨far_tI far_I, ?_, by simp [gI_I], ?_, Or.inr (by simp [gI_I])⟩) (fun _ => ok_qb hc.2.2.2.1.1 (ok_bd (ok_useR hc hn) (fun r u hu => ok_some ?_)))))
  · obtain ⟨b1, b2, b3, b4, b5, b6⟩ := hb
    unfold SS at hs
    simp [-Int32.toInt_add, -Int32.toInt_sub, RI, gI_I, hpt]
    rw [b3, b4, b5, b6]
    unfold RIz at b1 ⊢
    omega
  · simp [gI_I]; exact hb.2.2.2.2.1
  · exact sp_free hc hb hs hu.1 hu.2.1 hu.2.2 (by decide)
theorem ok_max {σ : sx_T} {x y : Int32} : ∃ r, f_J9_max_7cf53 σ x y = some r := by
  unfold f_J9_max_7cf53
  split
  · exact ⟨_, rfl⟩
  · exact ⟨_, rfl⟩
theorem ok_select {x y : Int32} (hc : RC σ t p q h) (hb : SB σ t p) (hs : SS σ t) (hn : 1000001 ≤ n0) (hT : f_X6_find n0 σ q x = some (-1) → (sx_I σ t 4).toInt ≤ 59) : Ok (f_X5_select n0 σ t x y) (fun u => SP σ u t p q) := by
  obtain ⟨hpt, -⟩ := rc_ne hc
  obtain ⟨r, hr⟩ := ok_find (x := x) hc.1 hc.2.2.2.1.2 hn
  obtain ⟨r9, hr9⟩ := ok_max (σ := wx_I σ t 9 x) (x := 1) (y := y)
  unfold f_X5_select
  refine ok_qb hc.2.2.2.1.1 (ok_bre hr (ok_ite (fun c => ok_bre hr9 (ok_bre ok_want (ok_some (sp_9 (x := x) (sp_want (rc_f (A := AR σ t p q) far_I hc) (sb_9 hpt hb) ?_ (Or.inr ⟨by decide, ?_⟩)))))) (fun _ => ok_qb hc.2.2.2.1.1 (ok_bd (ok_useR hc hn) (fun r u hu => ok_some (sp_free hc hb hs hu.1 hu.2.1 hu.2.2 (by decide)))))))
  · unfold SS at hs ⊢
    simp [gI_I]
    exact hs
  · simp [gI_I]
    exact hT (by rw [hr, c])
theorem ok_isFull {σ : sx_T} {p : Nat} : (f_X3_isFull σ p = some 0 ∧ (sx_I σ p 1).toInt < 20) ∨ f_X3_isFull σ p = some 1 := by
  unfold f_X3_isFull
  by_cases c : sx_I σ p 1 < 20
  · rw [if_pos c]
    rw [n_lt, l_20] at c
    exact Or.inl ⟨rfl, c⟩
  · rw [if_neg c]
    exact Or.inr rfl
/-- a step isn't refused: there was room for its event, for its pile -/
theorem ok_isRefused {op a : Int32} (hc : RC σ t p q h) (hn : 1000001 ≤ n0) : ∃ r, f_X5_isRefused n0 σ t op a = some r ∧ (r = 0 → ((op.toInt = 1 ∨ op.toInt = 2 ∨ op.toInt = 9 ∨ op.toInt = 10 ∨ op.toInt = 11 ∨ op.toInt = 14 ∨ op.toInt = 17) → (sx_I σ t 4).toInt ≤ 59) ∧ (op.toInt = 4 → f_X6_find n0 σ q a = some (-1) → (sx_I σ t 4).toInt ≤ 59) ∧ (op.toInt = 12 → (sx_I σ p 1).toInt < 20)) := by
  have key : ∀ P : Prop, ((sx_I σ t 4).toInt ≤ 59 → P) → ∃ r : Int32, (if sx_I σ t 4 < 60 then some (0 : Int32) else some 1) = some r ∧ (r = 0 → P) := by
    intro P hP
    by_cases c : sx_I σ t 4 < 60
    · rw [if_pos c]
      rw [n_lt, l_60] at c
      exact ⟨0, rfl, fun _ => hP (by omega)⟩
    · rw [if_neg c]
      exact ⟨1, rfl, fun e => absurd e (by decide)⟩
  unfold f_X5_isRefused
  simp only [q_1, q_2, q_4, q_9, q_10, q_11, q_12, q_14, q_17]
  by_cases c1 : op.toInt = 1
  · rw [if_pos c1]
    exact key _ (fun e => ⟨fun _ => e, fun _ _ => e, fun _ => by omega⟩)
  rw [if_neg c1]
  by_cases c2 : op.toInt = 2
  · rw [if_pos c2]
    exact key _ (fun e => ⟨fun _ => e, fun _ _ => e, fun _ => by omega⟩)
  rw [if_neg c2]
  by_cases c4 : op.toInt = 4
  · rw [if_pos c4]
    by_cases c : sx_I σ t 4 < 60
    · rw [if_pos c]
      rw [n_lt, l_60] at c
      exact ⟨0, rfl, fun _ => ⟨fun _ => by omega, fun _ _ => by omega, fun _ => by omega⟩⟩
    · rw [if_neg c, hc.2.2.2.1.1]
      obtain ⟨r, hr⟩ := ok_find (x := a) hc.1 hc.2.2.2.1.2 hn
      show ∃ r, (br (f_X6_find n0 σ q a) fun r10 => _) = some r ∧ _
      rw [hr]
      show ∃ r_1, (if r = -1 then some (1 : Int32) else some 0) = some r_1 ∧ _
      by_cases cm : r = -1
      · rw [if_pos cm]
        exact ⟨1, rfl, fun e => absurd e (by decide)⟩
      · rw [if_neg cm]
        exact ⟨0, rfl, fun _ => ⟨fun _ => by omega, fun _ e => absurd (Option.some.inj e) cm, fun _ => by omega⟩⟩
  rw [if_neg c4]
  by_cases c9 : op.toInt = 9
  · rw [if_pos c9]
    exact key _ (fun e => ⟨fun _ => e, fun _ _ => e, fun _ => by omega⟩)
  rw [if_neg c9]
  by_cases c10 : op.toInt = 10
  · rw [if_pos c10]
    exact key _ (fun e => ⟨fun _ => e, fun _ _ => e, fun _ => by omega⟩)
  rw [if_neg c10]
  by_cases c11 : op.toInt = 11
  · rw [if_pos c11]
    exact key _ (fun e => ⟨fun _ => e, fun _ _ => e, fun _ => by omega⟩)
  rw [if_neg c11]
  by_cases c12 : op.toInt = 12
  · rw [if_pos c12, hc.2.2.1.1]
    show ∃ r, (br (f_X3_isFull σ p) fun r23 => some r23) = some r ∧ _
    rcases ok_isFull (σ := σ) (p := p) with ⟨e, h9⟩ | e
    · rw [e]
      exact ⟨0, rfl, fun _ => ⟨fun _ => by omega, fun _ => by omega, fun _ => h9⟩⟩
    · rw [e]
      exact ⟨1, rfl, fun e => absurd e (by decide)⟩
  rw [if_neg c12]
  by_cases c14 : op.toInt = 14
  · rw [if_pos c14]
    exact key _ (fun e => ⟨fun _ => e, fun _ _ => e, fun _ => by omega⟩)
  rw [if_neg c14]
  by_cases c17 : op.toInt = 17
  · rw [if_pos c17]
    exact key _ (fun e => ⟨fun _ => e, fun _ _ => e, fun _ => by omega⟩)
  rw [if_neg c17]
  exact ⟨0, rfl, fun _ => ⟨fun _ => by omega, fun _ => by omega, fun _ => by omega⟩⟩
theorem ok_swe {op a : Int32} (hc : RC σ t p q h) (hb : SB σ t p) (hs : SS σ t) (hP : op.toInt = 12 → (sx_I σ p 1).toInt < 20) : Ok (f_X5_stepWithoutEvent σ t op a) (fun u => SP σ u t p q) := by
  obtain ⟨hpt, hqt, hqp, -⟩ := rc_ne hc
  have b := hb
  obtain ⟨b1, b2, b3, b4, b5, b6⟩ := b
  have s := hs
  unfold SS at s
  have fr : ∀ (k : Nat) (x : Int32), (k ≠ 4 ∧ k ≠ 7 ∧ k ≠ 8 ∧ k ≠ 14 ∧ k ≠ 15 ∧ k ≠ 16 ∧ k ≠ 19) → SP σ (wx_I σ t k x) t p q := fun k x hk => sp_free hc hb hs fa_r (fun _ => rfl) rfl hk
  unfold f_X5_stepWithoutEvent fb_X5_stepWithoutEvent_83 fb_X5_stepWithoutEvent_163
  simp only [q_5, q_6, q_7, q_8, q_12, q_13, q_15, q_16]
  refine ok_ite (fun _ => ok_ite (fun _ => ok_some (fr _ _ (by decide))) (fun _ => ok_some (fr _ _ (by decide)))) (fun _ => ok_ite (fun _ => ok_some (fr _ _ (by decide))) (fun _ => ok_ite (fun _ => ok_some (fr _ _ (by decide))) (fun _ => ok_ite (fun _ => ok_some (fr _ _ (by decide))) (fun _ => ok_ite (fun c => ?_) (fun _ => ok_ite (fun _ => ok_bre ok_failNow (ok_some (sp_fail hc hb))) (fun _ => ok_ite (fun _ => ok_some (fr _ _ (by decide))) (fun _ => ok_ite (fun _ => ok_ite (fun _ => ok_some ?_) (fun _ => ok_some ?_)) (fun _ => ok_some ⟨fa_r, ?_, rfl, b5, Or.inr rfl⟩))))))))
  · have h9 := hP c
    refine ok_qb hc.2.2.1.1 (ok_br (ok_push hc.1 hc.2.2.1.2 (by unfold RIz at b1; omega) (by unfold RIz at b1; omega)) (fun u hu => ok_some ?_))
    obtain ⟨hf, hu⟩ := hu
    have hft : ∀ k, sx_I u t k = sx_I σ t k := fun k => hf.2.2.2.2.2.1 t (fun e => e.elim (fun e => hpt e.symm) (fun e => by have e := e.1; rw [hc.2.1] at e; cases e)) k
    refine ⟨fa_m hf (fun a ha => ha.elim (fun e => Or.inr (Or.inl e)) (fun e => Or.inr (Or.inr (Or.inr e)))), ?_, hft 4, by rw [hft]; exact b5, Or.inr (hft 7)⟩
    unfold RI
    rw [hft, hft, hft, hft, hft, hft, hft, b2, b3, b4, b5, b6]
    unfold RIz at b1 ⊢
    omega
  · refine ⟨far_tI far_I, ?_, by simp [gI_I], by simp [gI_I]; exact b5, Or.inr (by simp [gI_I])⟩
    simp [-Int32.toInt_add, -Int32.toInt_sub, RI, gI_I, hpt]
    rw [b2, b4, b5, b6]
    unfold RIz at b1 ⊢
    omega
  · refine ⟨far_tI far_I, ?_, by simp [gI_I], by simp [gI_I]; exact b5, Or.inl (by simp [gI_I])⟩
    simp [-Int32.toInt_add, -Int32.toInt_sub, RI, gI_I, hpt]
    rw [b2, b4, b5, b6]
    unfold RIz at b1 ⊢
    omega
  · unfold RI
    rw [b2, b3, b4, b5, b6]
    unfold RIz at b1 ⊢
    omega
/-- a step -/
theorem ok_step (hc : RC σ t p q h) (hr : RI σ t p) (hD : (sx_I σ t 16).toInt = -1) (hA : (sx_I σ t 19).toInt = 0) (hO : (sx_I σ t 15).toInt = 0) (hW : (sx_I σ t 8).toInt = 0) (hE : (sx_I σ t 14).toInt = 0) (hn : 1000001 ≤ n0) : Ok (f_X5_step n0 σ t) (fun u => FA (AR σ t p q) σ u ∧ RI u t p ∧ sx_I u t 4 = sx_I σ t 4 ∧ (sx_I u t 19).toInt = 0 ∧ ((sx_I u t 14).toInt ≠ 0 ∨ (sx_I u t 7).toInt = (sx_I σ t 7).toInt + 1)) := by
  obtain ⟨hpt, -⟩ := rc_ne hc
  have hw := hc.1
  obtain ⟨c, hcR, hcK, -⟩ := ww_r hw (k := 2) hc.2.1 rfl rfl (by decide)
  obtain ⟨⟨r4, h4⟩, ⟨r9, h9⟩, ⟨r14, h14⟩⟩ := ok_prog (x := sx_I σ t 5) hw hcK
  unfold RI at hr
  rw [hD, hA, hO, hW, hE] at hr
  have hS : 0 ≤ (sx_I σ t 7).toInt ∧ (sx_I σ t 7).toInt ≤ 60 := by unfold RIz at hr; omega
  have e7 : (sx_I σ t 7 + 1).toInt = (sx_I σ t 7).toInt + 1 := n_add1 (by omega) (by omega)
  have hf0 : FA (AR σ t p q) σ (wx_I (wx_I σ t 5 (jrem (sx_I σ t 5 + 1) 20)) t 7 (sx_I σ t 7 + 1)) := far_tI far_I
  have hb0 : SB (wx_I (wx_I σ t 5 (jrem (sx_I σ t 5 + 1) 20)) t 7 (sx_I σ t 7 + 1)) t p := by
    unfold SB
    simp [-Int32.toInt_add, -Int32.toInt_sub, gI_I, hpt]
    refine ⟨?_, hW, hE, hD, hA, hO⟩
    unfold RIz at hr ⊢
    omega
  have h70 : sx_I (wx_I (wx_I σ t 5 (jrem (sx_I σ t 5 + 1) 20)) t 7 (sx_I σ t 7 + 1)) t 7 = sx_I σ t 7 + 1 := by simp [gI_I]
  have h40 : sx_I (wx_I (wx_I σ t 5 (jrem (sx_I σ t 5 + 1) 20)) t 7 (sx_I σ t 7 + 1)) t 4 = sx_I σ t 4 := by simp [gI_I]
  unfold f_X5_step fb_X5_step_77
  refine ok_qb hcR (ok_bre h4 (ok_qb hcR (ok_bre h9 (ok_qb hcR (ok_bre h14 ?_)))))
  generalize wx_I (wx_I σ t 5 (jrem (sx_I σ t 5 + 1) 20)) t 7 (sx_I σ t 7 + 1) = τ at hf0 hb0 h70 h40
  have hc0 : RC τ t p q h := rc_f hf0 hc
  have fin : ∀ u, SP τ u t p q → FA (AR σ t p q) σ u ∧ RI u t p ∧ sx_I u t 4 = sx_I σ t 4 ∧ (sx_I u t 19).toInt = 0 ∧ ((sx_I u t 14).toInt ≠ 0 ∨ (sx_I u t 7).toInt = (sx_I σ t 7).toInt + 1) := by
    intro u hu
    obtain ⟨g1, g2, g3, g4, g5⟩ := hu
    rw [ar_f hf0] at g1
    exact ⟨fa_t hf0 g1, g2, g3.trans h40, g4, g5.imp id (fun e => by rw [e, h70, e7])⟩
  refine ok_m (Q := fun u => SP τ u t p q) ?_ fin
  refine ok_ite (fun _ => ok_bre ok_failNow (ok_some (sp_fail hc0 hb0))) (fun c60 => ?_)
  rw [n_lt, l_60, e7] at c60
  have hs0 : SS τ t := by
    unfold SS
    rw [h70, e7]
    omega
  obtain ⟨r20, h20, hR⟩ := ok_isRefused (op := r4) (a := r9) hc0 hn
  obtain ⟨r34, h34⟩ := ok_max (σ := wx_I τ t 9 (-1)) (x := 1) (y := r9)
  refine ok_bre h20 (ok_ite (fun c20 => ?_) (fun _ => ok_bre ok_failNow (ok_some (sp_fail hc0 hb0))))
  obtain ⟨R1, R2, R3⟩ := hR c20
  simp only [q_0, q_1, q_2, q_3, q_4, q_9, q_10, q_11, q_14, q_17]
  refine ok_ite (fun _ => ok_bre ok_want (ok_some (sp_want hc0 hb0 hs0 (Or.inl (by decide))))) (fun _ => ?_)
  refine ok_ite (fun c => ok_bre ok_want (ok_some (sp_want hc0 hb0 hs0 (Or.inr ⟨by decide, R1 (by omega)⟩)))) (fun _ => ?_)
  refine ok_ite (fun c => ok_bre h34 (ok_bre ok_want (ok_some (sp_9 (x := -1) (sp_want (rc_f (A := AR τ t p q) far_I hc0) (sb_9 hpt hb0) ?_ (Or.inr ⟨by decide, ?_⟩)))))) (fun _ => ?_)
  · unfold SS at hs0 ⊢
    simp [gI_I]
    exact hs0
  · simp [gI_I]
    exact R1 (by omega)
  refine ok_ite (fun c => ok_br (ok_await hc0 hb0 hs0 hn) (fun u hu => ok_some hu)) (fun _ => ?_)
  refine ok_ite (fun c => ok_br (ok_select hc0 hb0 hs0 hn (R2 c)) (fun u hu => ok_some hu)) (fun _ => ?_)
  refine ok_ite (fun c => ok_bre ok_want (ok_some (sp_want hc0 hb0 hs0 (Or.inr ⟨by decide, R1 (by omega)⟩)))) (fun _ => ?_)
  refine ok_ite (fun c => ok_bre ok_want (ok_some (sp_want hc0 hb0 hs0 (Or.inr ⟨by decide, R1 (by omega)⟩)))) (fun _ => ?_)
  refine ok_ite (fun c => ok_bre ok_want (ok_some (sp_want hc0 hb0 hs0 (Or.inr ⟨by decide, R1 (by omega)⟩)))) (fun _ => ?_)
  refine ok_ite (fun c => ok_bre ok_want (ok_some (sp_want hc0 hb0 hs0 (Or.inr ⟨by decide, R1 (by omega)⟩)))) (fun _ => ?_)
  refine ok_ite (fun c => ok_bre ok_want (ok_some (sp_want hc0 hb0 hs0 (Or.inr ⟨by decide, R1 (by omega)⟩)))) (fun _ => ?_)
  exact ok_br (ok_swe hc0 hb0 hs0 R3) (fun u hu => ok_some hu)
end RUN4
