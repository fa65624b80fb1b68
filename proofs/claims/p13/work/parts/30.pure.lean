section G3
variable {c : CP} {s : Int} {σ : sx_T} {t n0 : Nat}
/-- a run begins -/
theorem ri_0 {u : sx_T} {t p : Nat} (hp : (sx_I u p 1).toInt = 0) (h4 : (sx_I u t 4).toInt = 1) (h7 : (sx_I u t 7).toInt = 0) (h8 : (sx_I u t 8).toInt = 0) (h14 : (sx_I u t 14).toInt = 0) (h15 : (sx_I u t 15).toInt = 0) (h16 : (sx_I u t 16).toInt = -1) (h19 : (sx_I u t 19).toInt = 0) : RI u t p := by
  unfold RI
  rw [hp, h4, h7, h8, h14, h15, h16, h19]
  unfold RIz
  omega
theorem ok_begin {d h : Nat} (hg : GI c s σ) (ht : sx_K σ t = 7) (hd : sx_K σ d = 6) (hh : sx_K σ h = 3) : Ok (f_X5_begin σ t (some d) (some h)) (fun u => UP c s σ u ∧ sx_K u = sx_K σ ∧ (∀ a k, sx_K σ a ≠ 7 → sx_R u a k = sx_R σ a k) ∧ (∀ a k, ¬ KA σ a → sx_I u a k = sx_I σ a k)) := by
  have g1 := gi_R (a := t) (k := 2) (v := some d) hg (Or.inr (Or.inl ⟨ht, Or.inl rfl⟩)) (fun r e => by cases e; rw [ht, hd]; rfl) (fun _ => ⟨d, rfl⟩) (fun e => by rw [ht] at e; cases e)
  have g2 := gi_R (a := t) (k := 3) (v := some h) g1.1 (Or.inr (Or.inl ⟨ht, Or.inr rfl⟩)) (fun r e => by cases e; show sx_K σ h = ty_r (sx_K σ t) 3; rw [ht, hh]; rfl) (fun _ => ⟨h, rfl⟩) (fun e => by have e : sx_K σ t = 15 := e; rw [ht] at e; cases e)
  have g3 := up_t g1 g2
  obtain ⟨p, q, h', hc⟩ := gi_rc g2.1 (t := t) ht
  have hp : sx_R σ t 0 = some p := by
    have h9 := hc.2.2.1.1
    rw [gR_R, if_neg (by omega), gR_R, if_neg (by omega)] at h9
    exact h9
  have hq : sx_R σ t 1 = some q := by
    have h9 := hc.2.2.2.1.1
    rw [gR_R, if_neg (by omega), gR_R, if_neg (by omega)] at h9
    exact h9
  have hkp : sx_K σ p = 5 := hc.2.2.1.2
  have hkq : sx_K σ q = 8 := hc.2.2.2.1.2
  have hpt : p ≠ t := fun e => by rw [e, ht] at hkp; cases hkp
  have hqt : q ≠ t := fun e => by rw [e, ht] at hkq; cases hkq
  have hpq : p ≠ q := fun e => by rw [e, hkq] at hkp; cases hkp
  unfold f_X5_begin
  refine ok_qb hp (ok_qb hq (ok_bq rfl ?_))
  generalize hv : wx_R (wx_R σ t 2 (some d)) t 3 (some h) = v at g3 g2 hc
  have hkv : sx_K v = sx_K σ := by rw [← hv]; rfl
  have hIv : sx_I v = sx_I σ := by rw [← hv]; rfl
  have hRv : ∀ a k, sx_K σ a ≠ 7 → sx_R v a k = sx_R σ a k := by
    intro a k ha
    have hat : a ≠ t := fun e => ha (by rw [e]; exact ht)
    rw [← hv, gR_R, if_neg (fun e => hat e.1), gR_R, if_neg (fun e => hat e.1)]
  have hf1 : FA (AR v t p q) v (wx_I (wx_I (wx_I (wx_I v p 1 0) q 1 0) t 4 1) t 5 0) := fa_t (fa_I (Or.inr (Or.inl rfl))) (fa_t (fa_I (Or.inr (Or.inr (Or.inl rfl)))) (fa_t (fa_I (Or.inl rfl)) (fa_I (Or.inl rfl))))
  obtain ⟨r13, h13⟩ := ok_numberAt (h := h) (x := 0) (ww_f hf1 g3.1.ww) (by show sx_K v h = 3; rw [hkv]; exact hh)
  refine ok_bre h13 (ok_some ?_)
  have hf2 : FA (AR v t p q) v (wx_I (wx_I (wx_J (wx_I (wx_I (wx_I (wx_I (wx_I (wx_J (wx_I (wx_I (wx_I (wx_I (wx_I (wx_I (wx_I (wx_I (wx_I v p 1 0) q 1 0) t 4 1) t 5 0) t 6 r13.toInt32) t 7 0) t 8 0) t 9 (-1)) t 10 (-1)) t 11 0) t 12 0) t 13 0) t 14 0) t 15 0) t 16 (-1)) t 17 0) t 18 (-1)) t 19 0) :=
    far_tI (far_tI (far_tJ (far_tI (far_tI (far_tI (far_tI (far_tI (far_tJ (far_tI (far_tI (far_tI (far_tI (far_tI hf1)))))))))))))
  have hr2 : RI (wx_I (wx_I (wx_J (wx_I (wx_I (wx_I (wx_I (wx_I (wx_J (wx_I (wx_I (wx_I (wx_I (wx_I (wx_I (wx_I (wx_I (wx_I v p 1 0) q 1 0) t 4 1) t 5 0) t 6 r13.toInt32) t 7 0) t 8 0) t 9 (-1)) t 10 (-1)) t 11 0) t 12 0) t 13 0) t 14 0) t 15 0) t 16 (-1)) t 17 0) t 18 (-1)) t 19 0) t p := by
    apply ri_0 <;> simp [gI_I, gI_J, hpt, hpq]
  generalize wx_I (wx_I (wx_J (wx_I (wx_I (wx_I (wx_I (wx_I (wx_J (wx_I (wx_I (wx_I (wx_I (wx_I (wx_I (wx_I (wx_I (wx_I v p 1 0) q 1 0) t 4 1) t 5 0) t 6 r13.toInt32) t 7 0) t 8 0) t 9 (-1)) t 10 (-1)) t 11 0) t 12 0) t 13 0) t 14 0) t 15 0) t 16 (-1)) t 17 0) t 18 (-1)) t 19 0 = u at hf2 hr2
  refine ⟨up_t g3 (gi_run g3.1 hc hf2 hr2), hf2.1.trans hkv, fun a k ha => ?_, fun a k ha => ?_⟩
  · rw [hf2.2.2.1]
    exact hRv a k ha
  · rw [hf2.2.2.2.2.2.1 a (fun e => ha ?_), hIv]
    have h9 := (ar_k hc e).1
    unfold KA at h9 ⊢
    rw [hkv] at h9
    exact h9
end G3
