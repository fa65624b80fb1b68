section G2
variable {c : CP} {s : Int} {σ : sx_T} {t n0 : Nat}
theorem gi_R {a k : Nat} {v : Option Nat} (hg : GI c s σ) (hk : (sx_K σ a = 2 ∧ (k = 3 ∨ k = 7)) ∨ (sx_K σ a = 7 ∧ (k = 2 ∨ k = 3)) ∨ (sx_K σ a = 15 ∧ a ≠ c.fa)) (hv : ∀ r, v = some r → sx_K σ r = ty_r (sx_K σ a) k) (hn : nn (sx_K σ a) k = true → ∃ r, v = some r) (ho : sx_K σ a = 15 → ∀ f, v = some f → OP c σ f) : UP c s σ (wx_R σ a k v) := by
  have key : ∀ b j, ¬ (b = a ∧ j = k) → sx_R (wx_R σ a k v) b j = sx_R σ b j := fun b j h => by rw [gR_R, if_neg h]
  have kty : ty_r (sx_K σ a) k = 6 ∨ ty_r (sx_K σ a) k = 9 ∨ ty_r (sx_K σ a) k = 3 ∨ ty_r (sx_K σ a) k = 2 := by
    rcases hk with ⟨e, e2 | e2⟩ | ⟨e, e2 | e2⟩ | ⟨e, -⟩
    · rw [e, e2]; exact Or.inl rfl
    · rw [e, e2]; exact Or.inr (Or.inl rfl)
    · rw [e, e2]; exact Or.inl rfl
    · rw [e, e2]; exact Or.inr (Or.inr (Or.inl rfl))
    · rw [e]; exact Or.inr (Or.inr (Or.inr rfl))
  have k7 : ∀ b, sx_K σ b = 7 → ¬ (b = a ∧ 0 = k) := fun b hb e => by rw [e.1] at hb; rw [hb] at hk; omega
  have k3 : ∀ b j, sx_K σ b = 3 → ¬ (b = a ∧ j = k) := fun b j hb e => by rw [e.1] at hb; rw [hb] at hk; omega
  have k4 : ∀ b j, sx_K σ b = 4 → ¬ (b = a ∧ j = k) := fun b j hb e => by rw [e.1] at hb; rw [hb] at hk; omega
  have k9 : ∀ b j, sx_K σ b = 9 → ¬ (b = a ∧ j = k) := fun b j hb e => by rw [e.1] at hb; rw [hb] at hk; omega
  have k1 : ∀ b j, sx_K σ b = 1 → ¬ (b = a ∧ j = k) := fun b j hb e => by rw [e.1] at hb; rw [hb] at hk; omega
  have k10 : ∀ b j, sx_K σ b = 10 → ¬ (b = a ∧ j = k) := fun b j hb e => by rw [e.1] at hb; rw [hb] at hk; omega
  have k21 : ∀ b, sx_K σ b = 2 → ¬ (b = a ∧ 1 = k) := fun b hb e => by rw [e.1] at hb; rw [hb] at hk; omega
  have kfa : ∀ j, ¬ (c.fa = a ∧ j = k) := fun j e => by
    have hb := hg.rf.2.1
    rw [e.1] at hb
    rw [hb] at hk
    rcases hk with h | h | h
    · omega
    · omega
    · exact h.2 e.1.symm
  have hnL : nL c (wx_R σ a k v) = nL c σ := by
    unfold nL
    rw [key _ _ (k1 c.w 1 hg.rf.2.2.2.2)]
    rfl
  refine ⟨⟨⟨?_, ?_, hg.ww.2.2⟩, hg.zf, hg.kL, ?_, ?_, ?_, ?_, ?_, hg.inj, ?_, hg.af, ?_, hg.fc, hg.nz, ?_, ?_, ?_, hg.ws⟩, ⟨fun _ _ => ⟨rfl, rfl⟩, ?_, ?_, Int.le_refl _, Int.le_refl _, ?_⟩, rfl⟩
  · intro b j hb
    by_cases e : b = a ∧ j = k
    · obtain ⟨rfl, rfl⟩ := e
      rw [gR_R, if_pos ⟨rfl, rfl⟩]
      exact hn hb
    · rw [key b j e]
      exact hg.ww.1 b j hb
  · intro b j r h0 hr
    by_cases e : b = a ∧ j = k
    · obtain ⟨rfl, rfl⟩ := e
      rw [gR_R, if_pos ⟨rfl, rfl⟩] at hr
      exact hv r hr
    · rw [key b j e] at hr
      exact hg.ww.2.1 b j r h0 hr
  · intro x y p hx hy h1 h2
    rw [key _ _ (k7 x hx)] at h1
    rw [key _ _ (k7 y hy)] at h2
    exact hg.pi x y p hx hy h1 h2
  · intro x y p hx hy h1 h2
    rw [key _ _ (k3 x 0 hx)] at h1
    rw [key _ _ (k3 y 0 hy)] at h2
    exact hg.bi x y p hx hy h1 h2
  · intro x p hx h1
    rw [key _ _ (k7 x hx)] at h1
    exact hg.ra x p hx h1
  · intro x hx
    obtain ⟨q1, q2⟩ := hg.ha x hx
    refine ⟨fun b hb => q1 b ?_, q2⟩
    rw [key _ _ (k3 x 0 hx)] at hb
    exact hb
  · intro x b hx
    rw [key _ _ (k3 x 0 hx), key _ _ (k3 x 1 hx)]
    exact hg.hn x b hx
  · intro i hi
    rw [key _ _ (k21 _ (hg.kf i hi).1), key _ _ (kfa i)]
    exact hg.kf i hi
  · rw [key _ _ (k10 _ 2 hg.kL), key _ _ (k10 _ 3 hg.kL)]
    exact hg.rf
  · intro x b hx hb
    have hx4 : sx_K σ x = 4 := hx
    rw [key _ _ (k4 x 0 hx4)] at hb
    obtain ⟨q1, q2⟩ := hg.la x b hx4 hb
    refine ⟨q1, fun j f hf => ?_⟩
    by_cases e : b = a ∧ j = k
    · obtain ⟨rfl, rfl⟩ := e
      rw [gR_R, if_pos ⟨rfl, rfl⟩] at hf
      refine ho ?_ f hf
      have h9 := hg.ww.2.1 x 0 b (by rw [hx4]; decide) hb
      rw [hx4] at h9
      exact h9
    · rw [key b j e] at hf
      exact q2 j f hf
  · intro x f hx hf
    rw [key _ _ (k9 x 1 hx)] at hf
    exact hg.ta x f hx hf
  · rw [hnL, key _ _ (k1 c.w 1 hg.rf.2.2.2.2)]
    exact hg.wl
  · intro b hb j
    refine ⟨rfl, rfl, key b j (fun e => ?_)⟩
    unfold MO at hb
    rw [e.1] at hb
    omega
  · intro b hb h9
    obtain ⟨o, j, h1, h2, h3⟩ := h9
    by_cases e : o = a ∧ j = k
    · obtain ⟨rfl, rfl⟩ := e
      rw [gR_R, if_pos ⟨rfl, rfl⟩] at h3
      have h4 := hv b h3
      omega
    · rw [key o j e] at h3
      exact ⟨o, j, h1, h2, h3⟩
  · rw [hnL]; exact Int.le_refl _
/-- an event is put behind the others -/
def HX (c : CP) (σ : sx_T) (h : Nat) : Prop := ∃ j : Nat, j < 40 ∧ (j : Int) < nF c σ ∧ h = c.hx j
def HA (σ : sx_T) (h : Nat) : Nat → Prop := fun a => a = h ∨ sx_K σ a = 12 ∨ sx_K σ a = 14
theorem ok_add {h : Nat} {x1 : Int32} {x2 : Int64} (hg : GI c s σ) (hh : HX c σ h) (hx : x1.toInt8.toInt32.toInt8.toInt32 = 6 ∨ x1.toInt8.toInt32.toInt8.toInt32 = 12 → (sx_I σ h 2).toInt < 90) : Ok (f_X1_add σ h x1 x2) (fun u => UP c s σ u ∧ FA (HA σ h) σ u ∧ ((sx_I σ h 2).toInt < 140 → GI c (s - 1) u ∧ (sx_I u h 2).toInt = (sx_I σ h 2).toInt + 1) ∧ (sx_I u h 2).toInt ≤ (sx_I σ h 2).toInt + 1) := by
  obtain ⟨j, hj1, hj2, hj3⟩ := hh
  have hk : sx_K σ h = 3 := by rw [hj3]; exact (hg.kf j hj1).2.1
  obtain ⟨hv, c0, c1⟩ := hg.ha h hk
  obtain ⟨a, ha, hka, -⟩ := ww_r hg.ww (k := 0) hk rfl rfl (by decide)
  obtain ⟨b, hb, hkb, -⟩ := ww_r hg.ww (k := 1) hk rfl rfl (by decide)
  have hka' : sx_K σ a = 12 := hka
  have hkb' : sx_K σ b = 14 := hkb
  have na : sx_N σ a = 140 := hg.hn h a hk (Or.inl ha)
  have nb : sx_N σ b = 140 := hg.hn h b hk (Or.inr hb)
  have e140 : (Int32.ofNat 140).toInt = 140 := by decide
  unfold f_X1_add
  refine ok_n (by rw [n_lt, l_0]; omega) (ok_qb ha ?_)
  rw [na]
  refine ok_ite (fun e => ok_some ⟨up_r hg, fa_r, fun e2 => ?_, by omega⟩) (fun e => ok_qb hb ?_)
  · rw [n_le, e140] at e; omega
  rw [n_le, e140] at e
  rw [nb]
  refine ok_n (by rw [n_le, e140]; exact e) (ok_qb ha (ok_ck (by rw [na]; omega) (ok_qb hb (ok_ck (by rw [nb]; omega) (ok_some ?_)))))
  have e1 : (sx_I σ h 2 + 1).toInt = (sx_I σ h 2).toInt + 1 := n_add1 (by omega) (by omega)
  generalize hy : x1.toInt8.toInt32.toInt8.toInt32 = y at hx
  generalize hu : wx_I (wx_J (wx_I σ a (ti (sx_I σ h 2)) y) b (ti (sx_I σ h 2)) x2) h 2 (sx_I σ h 2 + 1) = u
  have hf : FA (fun q => q = h ∨ q = a ∨ q = b) σ u := by
    rw [← hu]
    exact fa_t (fa_I (Or.inr (Or.inl rfl))) (fa_t (fa_J (Or.inr (Or.inr rfl))) (fa_I (Or.inl rfl)))
  have hah : a ≠ h := fun q => by rw [q, hk] at hka'; cases hka'
  have hIh : sx_I u h 2 = sx_I σ h 2 + 1 := by rw [← hu, gI_I, if_pos ⟨rfl, rfl⟩]
  have hIa : ∀ k, sx_I u a k = if k = ti (sx_I σ h 2) then y else sx_I σ a k := by
    intro k
    rw [← hu, gI_I, if_neg (fun q => hah q.1), gI_J, gI_I]
    by_cases q : k = ti (sx_I σ h 2)
    · rw [if_pos ⟨rfl, q⟩, if_pos q]
    · rw [if_neg (fun q' => q q'.2), if_neg q]
  have hk2 : ∀ q, (q = h ∨ q = a ∨ q = b) → sx_K σ q = 3 ∨ sx_K σ q = 12 ∨ sx_K σ q = 14 := by
    intro q hq
    rcases hq with rfl | rfl | rfl
    · exact Or.inl hk
    · exact Or.inr (Or.inl hka)
    · exact Or.inr (Or.inr hkb)
  have hother : ∀ q k, sx_K σ q ≠ 3 → sx_K σ q ≠ 12 → sx_K σ q ≠ 14 → sx_I u q k = sx_I σ q k := fun q k h1 h2 h3 => hf.2.2.2.2.2.1 q (fun e => by rcases hk2 q e with e | e | e; exact h1 e; exact h2 e; exact h3 e) k
  obtain ⟨f1, f2, f3, f4, f5, f6, f7⟩ := hf
  have hf : FA (fun q => q = h ∨ q = a ∨ q = b) σ u := ⟨f1, f2, f3, f4, f5, f6, f7⟩
  have hF : nF c u = nF c σ := by unfold nF; rw [hother c.L 7 (by rw [hg.kL]; decide) (by rw [hg.kL]; decide) (by rw [hg.kL]; decide)]
  have hT : nT c u = nT c σ := by unfold nT; rw [hother c.w 2 (by rw [hg.rf.2.2.2.2]; decide) (by rw [hg.rf.2.2.2.2]; decide) (by rw [hg.rf.2.2.2.2]; decide)]
  have hC : ∀ x, sx_K σ x = 3 → x ≠ h → sx_I u x 2 = sx_I σ x 2 := fun x hx hxh => f6 x (fun e => by
    rcases e with e | e | e
    · exact hxh e
    · rw [e, hka'] at hx; cases hx
    · rw [e, hkb'] at hx; cases hx) 2
  have hE : nE c u = nE c σ + 1 := by
    refine sumC_1 (j := j) 40 hj1 ?_ (fun i hi hij => ?_)
    · show (sx_I u (c.hx j) 2).toInt = (sx_I σ (c.hx j) 2).toInt + 1
      rw [← hj3, hIh, e1]
    · show (sx_I u (c.hx i) 2).toInt = (sx_I σ (c.hx i) 2).toInt
      rw [hC _ (hg.kf i hi).2.1 (fun e => hij (hg.inj i j hi hj1 (by rw [e, hj3])))]
  have hop : ∀ f, OP c σ f → OP c u f := fun f => op_m (by omega)
  have hmain : GI c (s - 1) u := by
    refine ⟨ww_f hf hg.ww, ?_, ?_, ?_, ?_, ?_, ?_, ?_, hg.inj, ?_, ?_, ?_, by rw [hF]; exact hg.fc, ?_, ?_, ?_, ?_, ?_⟩
    · rw [f1, f4]; exact hg.zf
    · rw [f1]; exact hg.kL
    · rw [f1, f3]; exact hg.pi
    · rw [f1, f3]; exact hg.bi
    · intro t p ht hp
      rw [f1] at ht
      rw [f3] at hp
      exact ri_fk hf hg (fun q hq => by have := hk2 q hq; omega) t p ht hp (hg.ra t p ht hp)
    · intro x hxk
      rw [f1] at hxk
      by_cases exh : x = h
      · subst exh
        refine ⟨?_, by rw [hIh, e1]; omega, by rw [hIh, e1]; omega⟩
        intro a' ha' z z0 z1 z2
        rw [f3, ha] at ha'
        cases ha'
        rw [hIh, e1] at z1
        rw [hIa] at z2
        by_cases q : ti z = ti (sx_I σ x 2)
        · rw [if_pos q, show b8 y = y from by rw [← hy]; exact b8_b] at z2
          have h9 := hx z2
          unfold ti at q
          omega
        · rw [if_neg q] at z2
          refine hv a ha z z0 ?_ z2
          unfold ti at q
          omega
      · obtain ⟨q1, q2, q3⟩ := hg.ha x hxk
        rw [hC x hxk exh]
        refine ⟨?_, q2, q3⟩
        refine hv_f hf (fun e => ?_) (fun a' ha' e => ?_) q1
        · rcases e with e | e | e
          · exact exh e
          · rw [e, hka'] at hxk; cases hxk
          · rw [e, hkb'] at hxk; cases hxk
        · have h9 := hg.ww.2.1 x 0 a' (by rw [hxk]; decide) ha'
          rw [hxk] at h9
          have h9' : sx_K σ a' = 12 := h9
          rcases e with e | e | e
          · rw [e, hk] at h9'; cases h9'
          · rw [e] at ha'
            exact exh (hg.bi x h a hxk hk ha' ha)
          · rw [e, hkb'] at h9'; cases h9'
    · rw [f1, f2, f3]; exact hg.hn
    · rw [f1, f3]; exact hg.kf
    · rw [f1]; exact hg.af
    · rw [f1, f2, f3]; exact hg.rf
    · intro i hi hfi
      rw [hF] at hfi
      rw [hC _ (hg.kf i hi).2.1 (fun e => ?_)]
      · exact hg.nz i hi hfi
      · have h9 := hg.inj i j hi hj1 (by rw [e, hj3])
        omega
    · rw [f1, f3]
      exact fun l a hl ha => ⟨(hg.la l a hl ha).1, fun k f hk => hop f ((hg.la l a hl ha).2 k f hk)⟩
    · rw [f1, f3]
      exact fun t f ht hr => hop f (hg.ta t f ht hr)
    · rw [f1, f3, f4, hT, fa_nL hf]; exact hg.wl
    · rw [hE, hF, hT]
      have := hg.ws
      omega
  have hw : ∀ s', s - 1 ≤ s' → GI c s' u := fun s' hs => ⟨hmain.1, hmain.zf, hmain.kL, hmain.pi, hmain.bi, hmain.ra, hmain.ha, hmain.hn, hmain.inj, hmain.kf, hmain.af, hmain.rf, hmain.fc, hmain.nz, hmain.la, hmain.ta, hmain.wl, by have := hmain.ws; omega⟩
  have hgr : GR c σ u := by
    refine ⟨?_, ?_, ?_, by omega, ?_, ?_⟩
    · rw [f1, f2]; exact fun _ _ => ⟨rfl, rfl⟩
    · intro q hq k
      have hnq : ¬ (q = h ∨ q = a ∨ q = b) := fun e => by
        rcases e with e | e | e
        · exact k_mo hk (by decide) (by rw [← e]; exact hq)
        · exact k_mo hka' (by decide) (by rw [← e]; exact hq)
        · rw [e] at hq
          rcases hq with hq | hq
          · rw [hkb'] at hq; cases hq
          · exact hq.2 ⟨h, 1, by rw [hk]; decide, by rw [hk]; decide, hb⟩
      rw [f3]
      exact ⟨f6 q hnq k, f7 q hnq k, rfl⟩
    · intro q _
      rw [fa_co hf]
      exact id
    · rw [f4, hT]; exact Int.le_refl _
    · rw [f5, hT, fa_nL hf]; exact Int.le_refl _
  refine ⟨⟨hw s (by omega), hgr, hother c.L 8 (by rw [hg.kL]; decide) (by rw [hg.kL]; decide) (by rw [hg.kL]; decide)⟩, fa_m hf (fun q hq => ?_), fun _ => ⟨hmain, by rw [hIh, e1]⟩, by rw [hIh, e1]; exact Int.le_refl _⟩
  rcases hq with rfl | rfl | rfl
  · exact Or.inl rfl
  · exact Or.inr (Or.inl hka)
  · exact Or.inr (Or.inr hkb)
end G2
