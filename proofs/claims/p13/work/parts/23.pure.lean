section RUN2
variable {σ : sx_T} {t p q h n0 : Nat}
/-- kinds of the events that a history holds at a place -/
theorem ok_kA {x : Int32} (hc : RC σ t p q h) (hv : HV σ h) : ∃ r, f_X1_kindAt σ h x = some r ∧ (r.toInt = 6 ∨ r.toInt = 12 → x.toInt < 90) := by
  obtain ⟨a, r, ha, hr, h1⟩ := ok_kindAt (x := x) hc.1 hc.2.2.2.2.2
  refine ⟨r, hr, fun h2 => ?_⟩
  rcases h1 with rfl | ⟨h3, h4, rfl⟩
  · exact absurd h2 (by decide)
  · exact hv a ha x h3 h4 (h2.imp (fun e => by rw [q_6.mpr e]; rfl) (fun e => by rw [q_12.mpr e]; rfl))
theorem ok_takeWanted {x : Int32} (hc : RC σ t p q h) (hr : RI σ t p) (hD : (sx_I σ t 16).toInt ≠ -1) (hA : (sx_I σ t 19).toInt = 0) (hx : x ≠ 0) (hT : (sx_I σ t 4).toInt < 140) : Ok (f_X5_takeWanted σ t x) (fun u => FA (AR σ t p q) σ u ∧ RI u t p ∧ ((sx_I u t 4).toInt = (sx_I σ t 4).toInt + 1 ∨ (sx_I u t 4 = sx_I σ t 4 ∧ ((sx_I u t 19).toInt = 1 ∨ ((sx_I u t 16).toInt = -1 ∧ sx_I u t 14 = sx_I σ t 14 ∧ (sx_I u t 14).toInt = 0 ∧ sx_I u t 7 = sx_I σ t 7 ∧ sx_I u t 8 = sx_I σ t 8 ∧ (sx_I u t 19).toInt = 0))))) := by
  obtain ⟨hpt, -⟩ := rc_ne hc
  have hh := hc.2.2.2.2.1
  obtain ⟨a0, r5, -, hk, -⟩ := ok_kindAt (x := sx_I σ t 4) hc.1 hc.2.2.2.2.2
  obtain ⟨r10, hn⟩ := ok_numberAt (x := sx_I σ t 4) hc.1 hc.2.2.2.2.2
  have hz := hr
  unfold RI at hz
  have e1 : (sx_I σ t 4 + 1).toInt = (sx_I σ t 4).toInt + 1 := by
    unfold RIz at hz
    exact n_add1 (by omega) (by omega)
  have hO : (sx_I σ t 15).toInt = 0 := by unfold RIz at hz; omega
  -- the event isn't the wanted one
  have k130 : Ok (fb_X5_takeWanted_130 σ t) (fun u => FA (AR σ t p q) σ u ∧ RI u t p ∧ ((sx_I u t 4).toInt = (sx_I σ t 4).toInt + 1 ∨ (sx_I u t 4 = sx_I σ t 4 ∧ ((sx_I u t 19).toInt = 1 ∨ ((sx_I u t 16).toInt = -1 ∧ sx_I u t 14 = sx_I σ t 14 ∧ (sx_I u t 14).toInt = 0 ∧ sx_I u t 7 = sx_I σ t 7 ∧ sx_I u t 8 = sx_I σ t 8 ∧ (sx_I u t 19).toInt = 0))))) := by
    unfold fb_X5_takeWanted_130
    refine ok_ite (fun c => ok_some ⟨far_tI far_I, ?_, Or.inr ⟨by simp [-Int32.toInt_add, -Int32.toInt_sub, gI_I], Or.inr ?_⟩⟩) (fun c => ok_some ⟨far_I, ?_, Or.inr ⟨by simp [-Int32.toInt_add, -Int32.toInt_sub, gI_I], Or.inl (by simp [-Int32.toInt_add, -Int32.toInt_sub, gI_I])⟩⟩)
    · rw [q_10] at c
      simp [-Int32.toInt_add, -Int32.toInt_sub, RI, gI_I, hpt]
      unfold RIz at hz ⊢
      omega
    · rw [q_10] at c
      unfold RIz at hz
      refine ⟨by simp [-Int32.toInt_add, -Int32.toInt_sub, gI_I], by simp [-Int32.toInt_add, -Int32.toInt_sub, gI_I], ?_, by simp [-Int32.toInt_add, -Int32.toInt_sub, gI_I], by simp [-Int32.toInt_add, -Int32.toInt_sub, gI_I], ?_⟩
      · simp [-Int32.toInt_add, -Int32.toInt_sub, gI_I]; omega
      · simp [-Int32.toInt_add, -Int32.toInt_sub, gI_I]; omega
    · simp [-Int32.toInt_add, -Int32.toInt_sub, RI, gI_I, hpt]
      unfold RIz at hz ⊢
      omega
  have kD : ∀ (x2 : Int32), x2 = sx_I σ t 16 → ∀ x3, Ok (fb_X5_takeWanted_81 σ t x2 x3) (fun u => FA (AR σ t p q) σ u ∧ RI u t p ∧ ((sx_I u t 4).toInt = (sx_I σ t 4).toInt + 1 ∨ (sx_I u t 4 = sx_I σ t 4 ∧ ((sx_I u t 19).toInt = 1 ∨ ((sx_I u t 16).toInt = -1 ∧ sx_I u t 14 = sx_I σ t 14 ∧ (sx_I u t 14).toInt = 0 ∧ sx_I u t 7 = sx_I σ t 7 ∧ sx_I u t 8 = sx_I σ t 8 ∧ (sx_I u t 19).toInt = 0))))) := by
    intro x2 hx2 x3
    have hf0 : FA (AR σ t p q) σ (wx_I (wx_I σ t 16 (-1)) t 4 (sx_I σ t 4 + 1)) := far_tI far_I
    have k121 : Ok (fb_X5_takeWanted_121 (wx_I (wx_I σ t 16 (-1)) t 4 (sx_I σ t 4 + 1)) t x2 x3) (fun u => FA (AR σ t p q) σ u ∧ RI u t p ∧ ((sx_I u t 4).toInt = (sx_I σ t 4).toInt + 1 ∨ (sx_I u t 4 = sx_I σ t 4 ∧ ((sx_I u t 19).toInt = 1 ∨ ((sx_I u t 16).toInt = -1 ∧ sx_I u t 14 = sx_I σ t 14 ∧ (sx_I u t 14).toInt = 0 ∧ sx_I u t 7 = sx_I σ t 7 ∧ sx_I u t 8 = sx_I σ t 8 ∧ (sx_I u t 19).toInt = 0))))) := by
      unfold fb_X5_takeWanted_121
      refine ok_br (ok_follow (p := p) (q := q) hpt ?_ ?_ ?_ ?_ ?_ ?_) (fun u hu => ok_some ⟨fa_t hf0 ?_, hu.2.1, Or.inl ?_⟩)
      · intro D hDx
        simp [-Int32.toInt_add, -Int32.toInt_sub, gI_I, hpt]
        rw [e1]
        subst hx2
        unfold RIz at hz ⊢
        omega
      · simp [-Int32.toInt_add, -Int32.toInt_sub, gI_I]; omega
      · simp [-Int32.toInt_add, -Int32.toInt_sub, gI_I]; omega
      · simp [-Int32.toInt_add, -Int32.toInt_sub, gI_I]
      · rw [hx2]; exact hD
      · simp [-Int32.toInt_add, -Int32.toInt_sub, gI_I]; omega
      · have h9 := hu.1
        rw [ar_f hf0] at h9
        exact h9
      · rw [hu.2.2]
        simp [-Int32.toInt_add, -Int32.toInt_sub, gI_I]
        exact e1
    have k114 : (x2.toInt = 7 ∨ x2.toInt = 14) → Ok (fb_X5_takeWanted_114 (wx_I (wx_I σ t 16 (-1)) t 4 (sx_I σ t 4 + 1)) t) (fun u => FA (AR σ t p q) σ u ∧ RI u t p ∧ ((sx_I u t 4).toInt = (sx_I σ t 4).toInt + 1 ∨ (sx_I u t 4 = sx_I σ t 4 ∧ ((sx_I u t 19).toInt = 1 ∨ ((sx_I u t 16).toInt = -1 ∧ sx_I u t 14 = sx_I σ t 14 ∧ (sx_I u t 14).toInt = 0 ∧ sx_I u t 7 = sx_I σ t 7 ∧ sx_I u t 8 = sx_I σ t 8 ∧ (sx_I u t 19).toInt = 0))))) := by
      intro h7
      unfold fb_X5_takeWanted_114
      refine ok_bre ok_failNow (ok_some ⟨far_tI (far_tI hf0), ?_, Or.inl ?_⟩)
      · simp [-Int32.toInt_add, -Int32.toInt_sub, RI, gI_I, hpt]
        rw [e1]
        subst hx2
        unfold RIz at hz ⊢
        omega
      · simp [-Int32.toInt_add, -Int32.toInt_sub, gI_I]
        exact e1
    unfold fb_X5_takeWanted_81
    refine ok_ite (fun _ => k121) (fun _ => ok_ite (fun c => k114 (Or.inl (q_7.mp c))) (fun _ => ok_ite (fun c => k114 (Or.inr (q_14.mp c))) (fun _ => k121)))
  have k57 : ∀ y, Ok (fb_X5_takeWanted_57 σ t r5 r10 y) (fun u => FA (AR σ t p q) σ u ∧ RI u t p ∧ ((sx_I u t 4).toInt = (sx_I σ t 4).toInt + 1 ∨ (sx_I u t 4 = sx_I σ t 4 ∧ ((sx_I u t 19).toInt = 1 ∨ ((sx_I u t 16).toInt = -1 ∧ sx_I u t 14 = sx_I σ t 14 ∧ (sx_I u t 14).toInt = 0 ∧ sx_I u t 7 = sx_I σ t 7 ∧ sx_I u t 8 = sx_I σ t 8 ∧ (sx_I u t 19).toInt = 0))))) := by
    intro y
    unfold fb_X5_takeWanted_57
    exact ok_ite (fun c => ok_ite (fun _ => ok_ite (fun _ => kD _ c _) (fun _ => k130)) (fun _ => kD _ c _)) (fun _ => k130)
  unfold f_X5_takeWanted
  refine ok_n hx (ok_qb hh (ok_bre hk (ok_qb hh (ok_bre hn ?_))))
  unfold fb_X5_takeWanted_52
  exact ok_ite (fun _ => k57 _) (fun _ => ok_ite (fun _ => k57 _) (fun _ => ok_ite (fun _ => k57 _) (fun _ => ok_ite (fun _ => k57 _) (fun _ => k57 _))))
/-- signals of a run are kept: nothing of the run moves -/
theorem ok_keepR {x : Int32} (hc : RC σ t p q h) : Ok (f_X6_keep σ q x) (fun u => FA (AR σ t p q) σ u ∧ (∀ k, sx_I u t k = sx_I σ t k) ∧ sx_I u p 1 = sx_I σ p 1) := by
  obtain ⟨hpt, hqt, hqp, -⟩ := rc_ne hc
  refine ok_m (ok_keep hc.1 hc.2.2.2.1.2) (fun u hu => ⟨fa_m hu (fun a ha => ha.elim (fun e => Or.inr (Or.inr (Or.inl e))) (fun e => Or.inr (Or.inr (Or.inr e)))), fun k => hu.2.2.2.2.2.1 t (fun e => ?_) k, hu.2.2.2.2.2.1 p (fun e => ?_) 1⟩)
  · exact e.elim (fun e => hqt e.symm) (fun e => by have e := e.1; rw [hc.2.1] at e; cases e)
  · exact e.elim (fun e => hqp e.symm) (fun e => by have e := e.1; rw [hc.2.2.1.2] at e; cases e)
theorem ok_useR {x : Int32} (hc : RC σ t p q h) (hn : 1000001 ≤ n0) : Ok (f_X6_use n0 σ q x) (fun r => FA (AR σ t p q) σ r.2 ∧ (∀ k, sx_I r.2 t k = sx_I σ t k) ∧ sx_I r.2 p 1 = sx_I σ p 1) := by
  obtain ⟨hpt, hqt, hqp, -⟩ := rc_ne hc
  refine ok_m (ok_use hc.1 hc.2.2.2.1.2 hn) (fun r hu => ⟨fa_m hu (fun a ha => ha.elim (fun e => Or.inr (Or.inr (Or.inl e))) (fun e => Or.inr (Or.inr (Or.inr e)))), fun k => hu.2.2.2.2.2.1 t (fun e => ?_) k, hu.2.2.2.2.2.1 p (fun e => ?_) 1⟩)
  · exact e.elim (fun e => hqt e.symm) (fun e => by have e := e.1; rw [hc.2.1] at e; cases e)
  · exact e.elim (fun e => hqp e.symm) (fun e => by have e := e.1; rw [hc.2.2.1.2] at e; cases e)
end RUN2
