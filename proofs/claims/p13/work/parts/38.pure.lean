section G11
variable {c : CP} {s : Int} {σ : sx_T} {n0 : Nat}
theorem gi_le {s' : Int} (hg : GI c s σ) (h : s ≤ s') : GI c s' σ := ⟨hg.1, hg.zf, hg.kL, hg.pi, hg.bi, hg.ra, hg.ha, hg.hn, hg.inj, hg.kf, hg.af, hg.rf, hg.fc, hg.nz, hg.la, hg.ta, hg.wl, by have := hg.ws; omega⟩
theorem up_le {s' : Int} {u : sx_T} (hu : UP c s σ u) (h : s ≤ s') : UP c s' σ u := ⟨gi_le hu.1 h, hu.2⟩
/-- one workflow more -/
theorem gi_F (hg : GI c s σ) (hF : nF c σ < 40) : UP c (s - 1) σ (wx_I σ c.L 7 (sx_I σ c.L 7 + 1)) ∧ nF c (wx_I σ c.L 7 (sx_I σ c.L 7 + 1)) = nF c σ + 1 := by
  have h0 := hg.fc
  have e1 : (sx_I σ c.L 7 + 1).toInt = (sx_I σ c.L 7).toInt + 1 := n_add1 (by unfold nF at h0; omega) (by unfold nF at h0; omega)
  have hFu : nF c (wx_I σ c.L 7 (sx_I σ c.L 7 + 1)) = nF c σ + 1 := by unfold nF; rw [gI_I, if_pos ⟨rfl, rfl⟩, e1]
  have hI : ∀ a k, sx_K σ a ≠ 10 → sx_I (wx_I σ c.L 7 (sx_I σ c.L 7 + 1)) a k = sx_I σ a k := fun a k ha => by rw [gI_I, if_neg (fun q => ha (by rw [q.1]; exact hg.kL))]
  have hf : FA (fun b => b = c.L) σ (wx_I σ c.L 7 (sx_I σ c.L 7 + 1)) := fa_I rfl
  have kn : ∀ a, sx_K σ a ≠ 10 → a ≠ c.L := fun a h e => h (by rw [e]; exact hg.kL)
  have hT : nT c (wx_I σ c.L 7 (sx_I σ c.L 7 + 1)) = nT c σ := by unfold nT; rw [hI _ _ (by rw [hg.rf.2.2.2.2]; decide)]
  have hE : nE c (wx_I σ c.L 7 (sx_I σ c.L 7 + 1)) = nE c σ := sumC_e 40 (fun i hi => by show (sx_I _ (c.hx i) 2).toInt = _; rw [hI _ _ (by rw [(hg.kf i hi).2.1]; decide)])
  have hop : ∀ f, OP c σ f → OP c (wx_I σ c.L 7 (sx_I σ c.L 7 + 1)) f := fun f => op_m (by omega)
  have hw := hg.ws
  refine ⟨⟨⟨ww_f hf hg.ww, hg.zf, hg.kL, hg.pi, hg.bi, ?_, ?_, hg.hn, hg.inj, hg.kf, hg.af, hg.rf, by omega, ?_, ?_, ?_, ?_, by omega⟩, ⟨fun _ _ => ⟨rfl, rfl⟩, ?_, fun _ _ h => h, by omega, ?_, ?_⟩, ?_⟩, hFu⟩
  · intro t p ht hp
    exact ri_fk hf hg (fun a ha => by rw [ha, hg.kL]; decide) t p ht hp (hg.ra t p ht hp)
  · intro x hx
    have hx' : sx_K σ x = 3 := hx
    obtain ⟨q1, q2⟩ := hg.ha x hx
    refine ⟨hv_f hf (kn x (by rw [hx']; decide)) (fun a ha => kn a ?_) q1, by rw [hI x _ (by rw [hx']; decide)]; exact q2⟩
    have h9 := hg.ww.2.1 x 0 a (by rw [hx']; decide) ha
    rw [hx'] at h9
    rw [h9]
    decide
  · intro i hi hfi
    rw [hFu] at hfi
    rw [hI _ _ (by rw [(hg.kf i hi).2.1]; decide)]
    exact hg.nz i hi (by omega)
  · exact fun l a hl ha => ⟨(hg.la l a hl ha).1, fun k f hk => hop f ((hg.la l a hl ha).2 k f hk)⟩
  · exact fun t f ht hr => hop f (hg.ta t f ht hr)
  · rw [hT]; exact hg.wl
  · intro a ha k
    refine ⟨?_, rfl, rfl⟩
    rw [gI_I, if_neg]
    rintro ⟨q, -⟩
    exact k_mo hg.kL (by decide) (by rw [← q]; exact ha)
  · rw [hT]; exact Int.le_refl _
  · rw [hT]; exact Int.le_refl _
  · show sx_I (wx_I σ c.L 7 (sx_I σ c.L 7 + 1)) c.L 8 = _
    rw [gI_I, if_neg (by omega)]
/-- what an opening leaves -/
def ON (c : CP) (s : Int) (σ : sx_T) (r : Option Nat × sx_T) : Prop := UP c s σ r.2 ∧ ∀ f, r.1 = some f → GI c (s - 1) r.2 ∧ OP c r.2 f ∧ ∀ h, sx_R r.2 f 1 = some h → (sx_I r.2 h 2).toInt ≤ 1
theorem ok_open83 {f d h : Nat} {x2 y0 : Int32} (hg : GI c s σ) (of : OP c σ f) (hd : sx_K σ d = 6) (h1 : sx_R σ f 1 = some h) (h0 : (sx_I σ h 2).toInt ≤ 0) : Ok (fb_X8_open_83 σ (some d) x2 (some f) y0 (some f)) (fun r => r.1 = some f ∧ UP c s σ r.2 ∧ (sx_I r.2 h 2).toInt ≤ 1) := by
  have hkf := op_k hg of
  obtain ⟨h', r, -, ⟨e1, e2⟩, ⟨e3, e4⟩, -⟩ := gi_f hg hkf
  rw [h1] at e1
  cases e1
  have u1 := gi_I (a := f) (k := 5) (x := y0) hg (Or.inl hkf)
  have i1 : sx_I (wx_I σ f 5 y0) h 2 = sx_I σ h 2 := by rw [gI_I, if_neg (by omega)]
  unfold fb_X8_open_83
  refine ok_bq rfl (ok_bq rfl (ok_qb h1 (ok_br (ok_add u1.1 (op_h u1.1 (op_u u1 of) h1) (fun e => absurd e (by decide))) (fun v hv => ?_))))
  obtain ⟨v1, v2, -, v4⟩ := hv
  have hR : ∀ k, sx_R v f k = sx_R σ f k := fun k => by rw [v2.2.2.1]; rfl
  have u2 := up_t u1 v1
  refine ok_qv (ok_qv ?_)
  rw [hR, hR, e3, h1]
  refine ok_bq rfl (ok_br (ok_begin u2.1 (k_u u2 (by decide) e4) (k_u u2 (by decide) hd) (k_u u2 (by decide) e2)) (fun w hw => ok_some ⟨rfl, up_t u2 hw.1, ?_⟩))
  show (sx_I w h 2).toInt ≤ 1
  rw [hw.2.2.2 h 2 (fun e => ?_)]
  · rw [i1] at v4
    omega
  · unfold KA at e
    have := k_u u2 (by decide) e2
    omega
theorem ok_open {v1 : Option Nat} {x2 x3 x4 : Int32} (hg : GI c s σ) (hv : ∀ d, v1 = some d → sx_K σ d = 6) : Ok (f_X8_open σ c.L v1 x2 x3 x4) (fun r => ON c s σ r) := by
  have st : ON c s σ (none, σ) := ⟨up_r hg, fun f e => by cases e⟩
  have e40 : (Int32.ofNat 40).toInt = 40 := by decide
  have h0 := hg.fc
  unfold nF at h0
  unfold f_X8_open
  refine ok_oc (fun _ => ok_some st) (fun d e => ok_ite (fun _ => ok_some st) (fun c1 => ok_qb hg.rf.1 ?_))
  rw [hg.rf.2.2.1]
  refine ok_ite (fun c2 => ok_qb hg.rf.1 ?_) (fun _ => ok_some st)
  rw [hg.rf.2.2.1]
  rw [n_lt, e40] at c2
  have ht := ti_of (x := sx_I σ c.L 7) (by omega)
  have hj : ti (sx_I σ c.L 7) < 40 := by omega
  obtain ⟨k1, k2, k3, k4⟩ := hg.kf _ hj
  refine ok_ck (by omega) (ok_qv ?_)
  rw [k4]
  obtain ⟨u1, f1⟩ := gi_F hg (by unfold nF; omega)
  have hd := hv d e
  have u2 := up_t u1 (gi_R (a := c.fx (ti (sx_I σ c.L 7))) (k := 3) (v := some d) u1.1 (Or.inl ⟨k1, Or.inl rfl⟩) (fun r e => by cases e; show sx_K σ d = ty_r (sx_K σ _) 3; rw [k1, hd]; rfl) (fun _ => ⟨d, rfl⟩) (fun e => by have e : sx_K σ (c.fx (ti (sx_I σ c.L 7))) = 15 := e; rw [k1] at e; cases e))
  have u3 := up_t u2 (gi_I (a := c.fx (ti (sx_I σ c.L 7))) (k := 4) (x := x3) u2.1 (Or.inl k1))
  have hK : sx_K (wx_I (wx_R (wx_I σ c.L 7 (sx_I σ c.L 7 + 1)) (c.fx (ti (sx_I σ c.L 7))) 3 (some d)) (c.fx (ti (sx_I σ c.L 7))) 4 x3) = sx_K σ := rfl
  have hR1 : sx_R (wx_I (wx_R (wx_I σ c.L 7 (sx_I σ c.L 7 + 1)) (c.fx (ti (sx_I σ c.L 7))) 3 (some d)) (c.fx (ti (sx_I σ c.L 7))) 4 x3) (c.fx (ti (sx_I σ c.L 7))) 1 = some (c.hx (ti (sx_I σ c.L 7))) := by
    rw [gR_I, gR_R, if_neg (by omega), gR_I]
    exact k3
  have hc0 : (sx_I (wx_I (wx_R (wx_I σ c.L 7 (sx_I σ c.L 7 + 1)) (c.fx (ti (sx_I σ c.L 7))) 3 (some d)) (c.fx (ti (sx_I σ c.L 7))) 4 x3) (c.hx (ti (sx_I σ c.L 7))) 2).toInt ≤ 0 := by
    rw [gI_I, if_neg (by omega), gI_R, gI_I, if_neg (fun q => by have q := q.1; have k := hg.kL; rw [← q, k2] at k; cases k)]
    have := hg.nz _ hj (by unfold nF; omega)
    omega
  have of : OP c (wx_I (wx_R (wx_I σ c.L 7 (sx_I σ c.L 7 + 1)) (c.fx (ti (sx_I σ c.L 7))) 3 (some d)) (c.fx (ti (sx_I σ c.L 7))) 4 x3) (c.fx (ti (sx_I σ c.L 7))) := by
    refine ⟨_, hj, ?_, rfl⟩
    have h9 := u3.2.1.fm
    have h8 : nF c (wx_I (wx_R (wx_I σ c.L 7 (sx_I σ c.L 7 + 1)) (c.fx (ti (sx_I σ c.L 7))) 3 (some d)) (c.fx (ti (sx_I σ c.L 7))) 4 x3) = nF c (wx_I σ c.L 7 (sx_I σ c.L 7 + 1)) := by
      unfold nF
      rw [gI_I, if_neg (by omega), gI_R]
    rw [h8, f1]
    unfold nF
    omega
  have fin : ∀ y0, Ok (fb_X8_open_83 (wx_I (wx_R (wx_I σ c.L 7 (sx_I σ c.L 7 + 1)) (c.fx (ti (sx_I σ c.L 7))) 3 (some d)) (c.fx (ti (sx_I σ c.L 7))) 4 x3) (some d) x2 (some (c.fx (ti (sx_I σ c.L 7)))) y0 (some (c.fx (ti (sx_I σ c.L 7))))) (fun r => ON c s σ r) := by
    intro y0
    refine ok_m (ok_open83 u3.1 of (by rw [hK]; exact hd) hR1 hc0) (fun r hr => ?_)
    obtain ⟨q1, q2, q3⟩ := hr
    have u4 := up_t u3 q2
    refine ⟨up_le u4 (by omega), fun f ef => ?_⟩
    rw [q1] at ef
    cases ef
    refine ⟨u4.1, op_u q2 of, fun h hh => ?_⟩
    obtain ⟨-, -, k3', -⟩ := u4.1.kf _ hj
    rw [k3'] at hh
    cases hh
    exact q3
  exact ok_oc (fun e => by cases e) (fun a ea => by cases ea; exact ok_ite (fun _ => fin _) (fun _ => fin _))
end G11
