section RUN3
variable {σ : sx_T} {t p q h n0 : Nat}
/-- the state in which a run takes an event that comes of no step -/
def WA (σ : sx_T) (t p : Nat) : Prop := RI σ t p ∧ (sx_I σ t 16).toInt = -1 ∧ (sx_I σ t 19).toInt = 0 ∧ (sx_I σ t 15).toInt = 0 ∧ (sx_I σ t 8).toInt ≠ 0
/-- behind the step forward, before what comes of it -/
def WB (σ : sx_T) (t p : Nat) (T W E : Int) : Prop := (sx_I σ t 4).toInt = T + 1 ∧ (sx_I σ t 7).toInt = 0 ∧ (sx_I σ t 8).toInt = W ∧ (sx_I σ t 14).toInt = E ∧ (sx_I σ t 16).toInt = -1 ∧ (sx_I σ t 19).toInt = 0 ∧ (sx_I σ t 15).toInt = 0 ∧ RIz (sx_I σ p 1).toInt T 0 W E (-1) 0 0 ∧ W ≠ 0 ∧ T < 140
def WC (σ u : sx_T) (t p q : Nat) : Prop := FA (AR σ t p q) σ u ∧ RI u t p ∧ sx_I u t 4 = sx_I σ t 4 ∧ (sx_I u t 7 = sx_I σ t 7)
theorem ok_receive {x : Int32} {T W E : Int} (hc : RC σ t p q h) (hb : WB σ t p T W E) (hT : T < 90) : Ok (f_X5_receive σ t x) (fun u => WC σ u t p q) := by
  obtain ⟨hpt, -⟩ := rc_ne hc
  obtain ⟨b1, b2, b3, b4, b5, b6, b7, b8, b9, b10⟩ := hb
  have kk : Ok (qv (sx_R σ t 1) fun w3 => bq w3 fun a4 => br (f_X6_keep σ a4 x) fun u6 => some u6) (fun u => WC σ u t p q) := by
    refine ok_qb hc.2.2.2.1.1 (ok_br (ok_keepR hc) (fun u hu => ok_some ⟨hu.1, ?_, hu.2.1 4, hu.2.1 7⟩))
    unfold RI
    rw [hu.2.2, hu.2.1, hu.2.1, hu.2.1, hu.2.1, hu.2.1, hu.2.1, hu.2.1, b1, b2, b3, b4, b5, b6, b7]
    unfold RIz at b8 ⊢
    omega
  have k63 : ∀ y, W ≠ 6 → Ok (fb_X5_receive_63 σ t y) (fun u => WC σ u t p q) := by
    intro y hW
    unfold fb_X5_receive_63
    refine ok_some ⟨far_tI far_I, ?_, by simp [gI_I], by simp [gI_I]⟩
    simp [-Int32.toInt_add, -Int32.toInt_sub, RI, gI_I, hpt]
    rw [b1, b2, b4, b5, b6, b7]
    unfold RIz at b8 ⊢
    omega
  have k16 : W ≠ 6 → Ok (fb_X5_receive_16 σ t x) (fun u => WC σ u t p q) := by
    intro hW
    unfold fb_X5_receive_16
    exact ok_ite (fun _ => ok_ite (fun _ => k63 _ hW) (fun _ => k63 _ hW)) (fun _ => kk)
  unfold f_X5_receive
  refine ok_ite (fun c => k16 ?_) (fun _ => ok_ite (fun c => k16 ?_) (fun _ => kk))
  · rw [q_3, b3] at c; omega
  · rw [q_4, b3] at c; omega
theorem ok_beAsked {T W E : Int} (hc : RC σ t p q h) (hb : WB σ t p T W E) (hT : T < 90) : Ok (f_X5_beAsked σ t) (fun u => WC σ u t p q) := by
  obtain ⟨hpt, -⟩ := rc_ne hc
  obtain ⟨b1, b2, b3, b4, b5, b6, b7, b8, b9, b10⟩ := hb
  unfold f_X5_beAsked fb_X5_beAsked_39
  refine ok_ite (fun c => ok_ite (fun c2 => ok_ite (fun c3 => ok_some ⟨far_tI (far_tI far_I), ?_, by simp [gI_I], by simp [gI_I]⟩) (fun c3 => ok_some ⟨far_tI far_I, ?_, by simp [gI_I], by simp [gI_I]⟩)) (fun c2 => ok_some ⟨far_I, ?_, by simp [gI_I], by simp [gI_I]⟩)) (fun c => ok_some ⟨fa_r, ?_, rfl, rfl⟩)
  all_goals simp [-Int32.toInt_add, -Int32.toInt_sub, RI, gI_I, hpt]
  all_goals rw [q_0] at c
  · rw [b1, b2, b5, b6, b7]
    unfold RIz at b8 ⊢
    omega
  · rw [b1, b2, b5, b6, b7]
    unfold RIz at b8 ⊢
    omega
  · rw [b1, b2, b3, b5, b6, b7]
    unfold RIz at b8 ⊢
    omega
  · rw [b1, b2, b3, b5, b6, b7]
    unfold RIz at b8 ⊢
    omega
theorem ok_takeEnded {x : Int64} {T W E : Int} (hc : RC σ t p q h) (hb : WB σ t p T W E) (hW : W = 5) : Ok (f_X5_takeEnded σ t x) (fun u => WC σ u t p q) := by
  obtain ⟨hpt, -⟩ := rc_ne hc
  obtain ⟨b1, b2, b3, b4, b5, b6, b7, b8, b9, b10⟩ := hb
  obtain ⟨r, hr⟩ := ok_fmod (σ := wx_I σ t 8 0) (x := x)
  obtain ⟨r2, hr2⟩ := ok_fdiv (σ := wx_I σ t 8 0) (x := x)
  unfold f_X5_takeEnded
  refine ok_bre hr (ok_ite (fun c => ok_bre hr2 (ok_some ⟨far_tI far_I, ?_, by simp [gI_I], by simp [gI_I]⟩)) (fun c => ok_bre ok_failNow (ok_some ⟨far_tI (far_tI far_I), ?_, by simp [gI_I], by simp [gI_I]⟩)))
  all_goals simp [-Int32.toInt_add, -Int32.toInt_sub, RI, gI_I, hpt]
  · rw [b1, b2, b4, b5, b6, b7]
    unfold RIz at b8 ⊢
    omega
  · rw [b1, b2, b5, b6, b7]
    unfold RIz at b8 ⊢
    omega
theorem ok_takeAwaited {x : Int32} (hc : RC σ t p q h) (hv : HV σ h) (ha : WA σ t p) (hx : x ≠ 0) (hT : (sx_I σ t 4).toInt < 140) : Ok (f_X5_takeAwaited σ t x) (fun u => FA (AR σ t p q) σ u ∧ RI u t p ∧ (sx_I u t 4).toInt = (sx_I σ t 4).toInt + 1 ∧ (sx_I u t 7).toInt = 0) := by
  obtain ⟨hpt, -⟩ := rc_ne hc
  have hh := hc.2.2.2.2.1
  obtain ⟨r5, hk, h90⟩ := ok_kA (x := sx_I σ t 4) hc hv
  obtain ⟨r10, hn⟩ := ok_numberAt (x := sx_I σ t 4) hc.1 hc.2.2.2.2.2
  obtain ⟨hz, a1, a2, a3, a4⟩ := ha
  unfold RI at hz
  rw [a1, a2, a3] at hz
  have e1 : (sx_I σ t 4 + 1).toInt = (sx_I σ t 4).toInt + 1 := by
    unfold RIz at hz
    exact n_add1 (by omega) (by omega)
  have hz0 : RIz (sx_I σ p 1).toInt (sx_I σ t 4).toInt 0 (sx_I σ t 8).toInt (sx_I σ t 14).toInt (-1) 0 0 := by
    unfold RIz at hz ⊢
    omega
  have hf0 : FA (AR σ t p q) σ (wx_I (wx_I σ t 4 (sx_I σ t 4 + 1)) t 7 0) := far_tI far_I
  have hc0 : RC (wx_I (wx_I σ t 4 (sx_I σ t 4 + 1)) t 7 0) t p q h := rc_f hf0 hc
  have hb0 : WB (wx_I (wx_I σ t 4 (sx_I σ t 4 + 1)) t 7 0) t p (sx_I σ t 4).toInt (sx_I σ t 8).toInt (sx_I σ t 14).toInt := by
    unfold WB
    simp [-Int32.toInt_add, -Int32.toInt_sub, gI_I, hpt]
    exact ⟨e1, a1, a2, a3, hz0, a4, hT⟩
  have fin : ∀ u, WC (wx_I (wx_I σ t 4 (sx_I σ t 4 + 1)) t 7 0) u t p q → FA (AR σ t p q) σ u ∧ RI u t p ∧ (sx_I u t 4).toInt = (sx_I σ t 4).toInt + 1 ∧ (sx_I u t 7).toInt = 0 := by
    intro u hu
    have h9 := hu.1
    rw [ar_f hf0] at h9
    refine ⟨fa_t hf0 h9, hu.2.1, ?_, ?_⟩
    · rw [hu.2.2.1]
      simp [-Int32.toInt_add, -Int32.toInt_sub, gI_I]
      exact e1
    · rw [hu.2.2.2]
      simp [gI_I]
  generalize hτ : wx_I (wx_I σ t 4 (sx_I σ t 4 + 1)) t 7 0 = τ at hf0 hc0 hb0 fin
  have b := hb0
  obtain ⟨b1, b2, b3, b4, b5, b6, b7, b8, b9, b10⟩ := b
  have mk : ∀ u, FA (AR τ t p q) τ u → RI u t p → sx_I u t 4 = sx_I τ t 4 → sx_I u t 7 = sx_I τ t 7 → WC τ u t p q := fun u q1 q2 q3 q4 => ⟨q1, q2, q3, q4⟩
  have k215 : Ok (fb_X5_takeAwaited_215 τ t) (fun u => WC τ u t p q) := by
    refine ok_some (mk _ far_I ?_ (by simp [gI_I]) (by simp [gI_I]))
    simp [-Int32.toInt_add, -Int32.toInt_sub, RI, gI_I, hpt]
    rw [b1, b2, b3, b4, b5, b7]
    unfold RIz at b8 ⊢
    omega
  have k193 : Ok (fb_X5_takeAwaited_193 τ t r5 r10) (fun u => WC τ u t p q) := by
    unfold fb_X5_takeAwaited_193
    refine ok_ite (fun _ => ok_ite (fun c => ok_br (ok_takeEnded hc0 hb0 ?_) (fun u hu => ok_some hu)) (fun _ => k215)) (fun _ => k215)
    rw [q_5, b3] at c
    exact c
  have k167 : Ok (fb_X5_takeAwaited_167 τ t r5 r10) (fun u => WC τ u t p q) := by
    unfold fb_X5_takeAwaited_167
    refine ok_ite (fun _ => ok_ite (fun c => ok_some (mk _ (far_tI far_I) ?_ (by simp [gI_I]) (by simp [gI_I]))) (fun _ => k193)) (fun _ => k193)
    rw [q_4, b3] at c
    simp [-Int32.toInt_add, -Int32.toInt_sub, RI, gI_I, hpt]
    rw [b1, b2, b4, b5, b6, b7]
    unfold RIz at b8 ⊢
    omega
  have k146 : Ok (fb_X5_takeAwaited_146 τ t r5 r10) (fun u => WC τ u t p q) := by
    unfold fb_X5_takeAwaited_146
    refine ok_ite (fun _ => ok_ite (fun c => ok_some (mk _ far_I ?_ (by simp [gI_I]) (by simp [gI_I]))) (fun _ => k167)) (fun _ => k167)
    rw [q_2, b3] at c
    simp [-Int32.toInt_add, -Int32.toInt_sub, RI, gI_I, hpt]
    rw [b1, b2, b4, b5, b6, b7]
    unfold RIz at b8 ⊢
    omega
  have k129 : Ok (fb_X5_takeAwaited_129 τ t r5 r10) (fun u => WC τ u t p q) := by
    unfold fb_X5_takeAwaited_129
    refine ok_ite (fun c => ok_some (mk _ far_I ?_ (by simp [gI_I]) (by simp [gI_I]))) (fun _ => k146)
    rw [q_6, b3] at c
    simp [-Int32.toInt_add, -Int32.toInt_sub, RI, gI_I, hpt]
    rw [b1, b2, b4, b5, b6, b7]
    unfold RIz at b8 ⊢
    omega
  have k119 : Ok (fb_X5_takeAwaited_119 τ t r5 r10) (fun u => WC τ u t p q) := by
    unfold fb_X5_takeAwaited_119
    exact ok_ite (fun _ => k129) (fun _ => ok_ite (fun _ => k129) (fun _ => k146))
  have k99 : Ok (fb_X5_takeAwaited_99 τ t r5 r10) (fun u => WC τ u t p q) := by
    unfold fb_X5_takeAwaited_99
    refine ok_ite (fun _ => ok_ite (fun c => ok_bre ok_failNow (ok_some (mk _ (far_tI far_I) ?_ (by simp [gI_I]) (by simp [gI_I])))) (fun _ => k119)) (fun _ => k119)
    rw [q_1, b3] at c
    simp [-Int32.toInt_add, -Int32.toInt_sub, RI, gI_I, hpt]
    rw [b1, b2, b5, b6, b7]
    unfold RIz at b8 ⊢
    omega
  unfold f_X5_takeAwaited
  refine ok_n hx (ok_qb hh (ok_bre hk (ok_qb hh (ok_bre hn ?_))))
  refine ok_m (Q := fun u => WC τ u t p q) ?_ fin
  rw [hτ]
  refine ok_ite (fun c => ok_br (ok_receive hc0 hb0 (h90 (Or.inl (q_6.mp c)))) (fun u hu => ok_some hu)) (fun _ => ok_ite (fun c => ok_br (ok_beAsked hc0 hb0 (h90 (Or.inr (q_12.mp c)))) (fun u hu => ok_some hu)) (fun _ => ok_ite (fun _ => ok_ite (fun c => ok_some ?_) (fun _ => k99)) (fun _ => k99)))
  refine mk _ (far_tI far_I) ?_ (by simp [gI_I]) (by simp [gI_I])
  rw [q_1] at c
  simp [-Int32.toInt_add, -Int32.toInt_sub, RI, gI_I, hpt]
  rw [b1, b2, b4, b5, b6, b7]
  unfold RIz at b8 ⊢
  omega
/-- undoing: an event is wanted behind it -/
theorem ok_undo (hc : RC σ t p q h) (hr : RI σ t p) (hD : (sx_I σ t 16).toInt = -1) (hA : (sx_I σ t 19).toInt = 0) (hO : (sx_I σ t 15).toInt = 0) (hW : (sx_I σ t 8).toInt = 0) (hE : (sx_I σ t 14).toInt ≠ 0) : Ok (f_X5_undo σ t) (fun u => FA (AR σ t p q) σ u ∧ RI u t p ∧ sx_I u t 4 = sx_I σ t 4 ∧ (sx_I u t 16).toInt ≠ -1 ∧ sx_I u t 14 = sx_I σ t 14 ∧ sx_I u t 19 = sx_I σ t 19) := by
  obtain ⟨hpt, -⟩ := rc_ne hc
  unfold RI at hr
  rw [hD, hA, hO, hW] at hr
  unfold f_X5_undo
  refine ok_qb hc.2.2.1.1 (ok_bd (ok_pop hc.1 hc.2.2.1.2 (by unfold RIz at hr; omega) (by unfold RIz at hr; omega)) (fun r u hu => ?_))
  obtain ⟨hf, hu⟩ := hu
  have hft : ∀ k, sx_I u t k = sx_I σ t k := fun k => hf.2.2.2.2.2.1 t (fun e => hpt e.symm) k
  have hfa : FA (AR σ t p q) σ u := fa_m hf (fun a ha => Or.inr (Or.inl ha))
  refine ok_ite (fun c => ok_bre ok_want (ok_some ⟨far_tJ (far_tI hfa), ?_, ?_, ?_, ?_, ?_⟩)) (fun c => ok_bre ok_want (ok_some ⟨far_tJ (far_tI hfa), ?_, ?_, ?_, ?_, ?_⟩))
  · have hP : (sx_I u p 1).toInt = (sx_I σ p 1).toInt ∨ ((sx_I u p 1).toInt = (sx_I σ p 1).toInt - 1 ∧ 0 ≤ (sx_I u p 1).toInt) := hu.imp (fun e => by rw [e.2]) id
    simp [-Int32.toInt_add, -Int32.toInt_sub, RI, gI_I, gI_J, hpt, hft]
    rw [hA, hO, hW]
    unfold RIz at hr ⊢
    omega
  · simp [gI_I, gI_J, hft]
  · simp [gI_I, gI_J]
  · simp [gI_I, gI_J, hft]
  · simp [gI_I, gI_J, hft]
  · have hP := hu.resolve_left (fun e => c e.1)
    have hP' : (sx_I u p 1).toInt = (sx_I σ p 1).toInt - 1 ∧ 0 ≤ (sx_I u p 1).toInt := hP
    simp [-Int32.toInt_add, -Int32.toInt_sub, RI, gI_I, gI_J, hpt, hft]
    rw [hA, hO, hW]
    unfold RIz at hr ⊢
    omega
  · simp [gI_I, gI_J, hft]
  · simp [gI_I, gI_J]
  · simp [gI_I, gI_J, hft]
  · simp [gI_I, gI_J, hft]
end RUN3
