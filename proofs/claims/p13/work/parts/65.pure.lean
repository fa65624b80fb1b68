section M16
variable {m w i : Nat} {σ v u β : sx_T} {s : Int} {n0 : Nat} {x1 x2 x3 : Int32}
theorem begins_ok : ∃ b, f_X9_begins σ m = some b ∧ KP m σ b ∧ (∀ k, k = 28 ∨ k = 30 ∨ k = 31 ∨ k = 32 ∨ k = 34 ∨ k = 35 ∨ k = 36 ∨ k = 37 ∨ k = 38 ∨ k = 39 → sx_I b m k = 0) ∧ (∀ k, 40 ≤ k → sx_I b m k = sx_I σ m k) ∧ ∀ j k, 1 ≤ j → sx_I b (m + j) k = sx_I σ (m + j) k := by
  refine ⟨_, rfl, ?_, ?_, ?_, ?_⟩
  · exact kp_m (kp_m (kp_m (kp_m (kp_m (kp_m (kp_m (kp_m (kp_m (kp_m (kp_m (kp_m (kp_m kp_r rfl) rfl) rfl) rfl) rfl) rfl) rfl) rfl) rfl) rfl) rfl) rfl) rfl
  · intro k hk
    rcases hk with rfl | rfl | rfl | rfl | rfl | rfl | rfl | rfl | rfl | rfl <;> simp only [gI_I, eq_self, true_and, Nat.reduceEqDiff, reduceIte]
  · intro k hk
    repeat rw [kn (by omega)]
  · intro j k hj
    repeat rw [gI_I, if_neg (by omega)]
theorem ok_replays (hn : 1000001 ≤ n0) (h : MI m 0 σ) (h0 : 0 ≤ x1.toInt) (h1 : x1.toInt ≤ 40) (hlv : x3 ≠ 0 → x1.toInt < mW m σ) (hx : x2.toInt = mE m σ (ti x1)) (hE : 1 ≤ mE m σ (ti x1)) (hW : x3 ≠ 0 → HW n0 m x1 σ) : Ok (f_X9_replays n0 σ m x1 x2 x3) (RR n0 m x1 x2 x3 σ) := by
  obtain ⟨b, eb, kb, f0, f4, rb⟩ := begins_ok (m := m) (σ := σ)
  have hsb := st_f kb.1 h.st
  have hwf := h.wf
  have tw := ti_of h0
  have i1 := n_160o h0 h1
  have t1 : ti (160 * x1) = 160 * ti x1 := by unfold ti; omega
  have ik : 0 ≤ (160 * x1).toInt ∧ (160 * x1).toInt < ((6560 : Nat) : Int) := by omega
  have hE2 := (h.eb (ti x1) (by omega)).2
  have hw : x3 ≠ 0 → ((ti x1 : Nat) : Int) < mW m σ ∧ ti x1 < 41 := fun e => ⟨by have := hlv e; omega, by omega⟩
  have go : ∀ y0 : Int32, (y0 = 0 ∨ (y0 = 1 ∧ sx_I σ (m + 11) (160 * ti x1) = 0)) → Ok (fb_X9_replays_28 n0 (wx_I b m 47 x3) m x1 x2 x3 y0) (RR n0 m x1 x2 x3 σ) := by
    intro y0 hy
    unfold fb_X9_replays_28
    refine ok_qb hsb.r15 (ok_ck (by show _ ∧ _ < ((sx_N b (m + 12) : Nat) : Int); rw [hsb.n12]; exact ik) ?_)
    rw [t1]
    generalize hj : (sx_J (wx_I b m 47 x3) (m + 12) (160 * ti x1)).toInt32 = y
    generalize hz : wx_I (wx_I (wx_I (wx_I (wx_I b m 47 x3) m 26 y0) m 29 y) m 27 1) m 48 (-1) = z
    have kz : KP m σ z := by rw [← hz]; exact kp_m (kp_m (kp_m (kp_m (kp_m kb rfl) rfl) rfl) rfl) rfl
    have z26 : sx_I z m 26 = y0 := by rw [← hz, kn (by decide), kn (by decide), kn (by decide), ke]
    have z27 : sx_I z m 27 = 1 := by rw [← hz, kn (by decide), ke]
    have z29 : sx_I z m 29 = y := by rw [← hz, kn (by decide), kn (by decide), ke]
    have z48 : sx_I z m 48 = -1 := by rw [← hz, ke]
    have z47 : sx_I z m 47 = x3 := by rw [← hz, kn (by decide), kn (by decide), kn (by decide), kn (by decide), ke]
    have zk : ∀ k, k ≠ 26 → k ≠ 27 → k ≠ 29 → k ≠ 47 → k ≠ 48 → sx_I z m k = sx_I b m k := fun k a1 a2 a3 a4 a5 => by rw [← hz, kn a5, kn a2, kn a3, kn a1, kn a4]
    have z0 : ∀ k, k = 28 ∨ k = 30 ∨ k = 31 ∨ k = 32 ∨ k = 34 ∨ k = 35 ∨ k = 36 ∨ k = 37 ∨ k = 38 ∨ k = 39 → sx_I z m k = 0 := fun k hk => by rw [zk k (by omega) (by omega) (by omega) (by omega) (by omega)]; exact f0 k hk
    have z45 : sx_I z m 45 = sx_I σ m 45 := by rw [zk 45 (by decide) (by decide) (by decide) (by decide) (by decide)]; exact f4 45 (by decide)
    have zj : ∀ j k, 1 ≤ j → sx_I z (m + j) k = sx_I σ (m + j) k := fun j k hj => by rw [← hz, gI_I, if_neg (by omega), gI_I, if_neg (by omega), gI_I, if_neg (by omega), gI_I, if_neg (by omega), gI_I, if_neg (by omega)]; exact rb j k hj
    have y29 : y = (sx_J z (m + 12) (160 * ti x1)).toInt32 := by rw [← hj, ← hz]; rfl
    have zE : mE m z (ti x1) = mE m σ (ti x1) := kp_E kz _
    have mAz : mA m z = 1 := by unfold mA; rw [z27]; rfl
    have tt : ti (1 : Int32) = 1 := by decide
    have rm : y0 ≠ 0 → RM m (ti x1) z := by
      intro e
      have ev := (hy.resolve_left e).2
      have c : ∀ x : Int32, x ≠ 0 → cn m z x (ti x1) (ti (sx_I z m 27)) = 0 := by
        intro x hx
        rw [z27, tt]
        show (0 : Int) + (if sx_I z (m + 11) (160 * ti x1) = x then 1 else 0) = 0
        rw [zj 11 _ (by decide), ev, if_neg (fun q => hx q.symm)]
        rfl
      unfold RM
      rw [c 1 (by decide), c 11 (by decide), mAz, z0 32 (by omega), z0 38 (by omega), z0 39 (by omega), z0 28 (by omega), z0 30 (by omega), z0 36 (by omega), z0 37 (by omega), l_0]
      unfold RQ
      omega
    have rbz : RB m (ti x1) x2 z := Or.inl ⟨by rw [mAz]; omega, by rw [zE]; exact hx⟩
    refine ok_m (ok_rep_l (i := (x2.toInt - 1).toNat) (β := z) (x2 := x2) (x3 := x3) hn h0 h1 (fun _ => by omega) 42000 n0 z y0 (mi_kp h kz) (fun e => by rw [kp_W kz]; exact hlv e) z47 (fun e => ?_) z48 ?_ (fun e f => ?_) (fun e f => ?_) (by omega)) (fun r hr => rr_t hw (lr_kp kz) z45 (fun k => zj 9 k (by decide)) (kp_W kz) hr)
    · have q := hW e
      unfold HW at q ⊢
      rw [z45]
      exact ⟨q.1, q.2.imp id (fun r => ⟨rc_up r.1 (lr_kp kz).1 (hw e) (by rw [zj 9 _ (by decide)]; exact Int.le_refl _), r.2⟩)⟩
    · by_cases e : y0 = 0
      · exact Or.inl (z26.trans e)
      · exact Or.inr ⟨rm e, rbz, fun q => absurd q e⟩
    · have := mz_b (rm e)
      rw [mAz] at this
      omega
    · have e1 : y0 ≠ 0 := by rw [z26] at f; exact f
      by_cases g : x2.toInt ≤ 1
      · exact Or.inr (Or.inr (Or.inl (by rw [mAz]; exact g)))
      · refine Or.inr (Or.inr (Or.inr ⟨0, fun k hk => ?_, st_f kz.1 h.st, ⟨fun _ _ _ _ => rfl, rfl, fun _ _ => ⟨rfl, rfl⟩⟩, ?_, ⟨by rw [mAz]; decide, by rw [mAz]; decide, by rw [mAz]; omega⟩, z0 36 (by omega)⟩))
        · have hk' : (26 ≤ k ∧ k ≤ 32) ∨ (34 ≤ k ∧ k ≤ 39) := by
            unfold fe at hk
            simpa using hk
          by_cases a : k = 26
          · rw [if_pos a, a, z26]
            exact (hy.resolve_left e1).1
          · rw [if_neg a]
            by_cases b : k = 27
            · rw [if_pos b, b, z27]
            · rw [if_neg b]
              by_cases c : k = 29
              · rw [if_pos c, c, z29, y29]
              · rw [if_neg c]
                exact z0 k (by omega)
        · rw [z0 39 (by omega)]
          decide
  unfold f_X9_replays
  refine ok_bre eb (ok_qb hsb.r14 (ok_ck (by rw [hsb.n11]; exact ik) (ok_ite (fun c => go 1 (Or.inr ⟨rfl, ?_⟩)) (fun _ => go 0 (Or.inl rfl)))))
  rw [← rb 11 _ (by decide), ← t1]
  exact c
/-- whether it goes with the code -/
def FI (m : Nat) (x1 : Int32) (σ : sx_T) (r : Int32 × sx_T) : Prop := MI m 0 r.2 ∧ LR m σ r.2 ∧ mW m r.2 = mW m σ ∧ (sx_I r.2 m 45 = sx_I σ m 45 ∧ ∀ k, sx_I r.2 (m + 9) k = sx_I σ (m + 9) k) ∧ (r.1 ≠ 0 → mA m r.2 = mE m r.2 (ti x1) ∧ mA m r.2 ≤ 134)
theorem rr_fi {r : Int32 × sx_T} (h : RR n0 m x1 x2 0 σ r) : FI m x1 σ (sx_I r.2 m 26, r.2) := by
  obtain ⟨h1, h2, h3, h4⟩ := h
  have h3 := h3.resolve_right (fun q => q.1 rfl)
  have h4 := h4.resolve_right (fun q => q.1 rfl)
  exact ⟨h1, h2, h3.2.1, h4, fun e => ⟨(h3.2.2 e).1, (h3.2.2 e).2.1⟩⟩
theorem ok_isFit (hn : 1000001 ≤ n0) (h : MI m 0 σ) (h0 : 0 ≤ x1.toInt) (h1 : x1.toInt ≤ 40) (hE : 1 ≤ mE m σ (ti x1)) : Ok (f_X9_isFit n0 σ m x1) (FI m x1 σ) := by
  have hs := h.st
  unfold f_X9_isFit
  refine ok_qb hs.r11 (ok_ck (by rw [hs.n8]; omega) (ok_bd (ok_replays (x3 := 0) hn h h0 h1 (fun e => absurd rfl e) rfl hE (fun e => absurd rfl e)) (fun r u hu => ok_some ?_)))
  exact rr_fi hu
end M16
