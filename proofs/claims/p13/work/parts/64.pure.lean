/-! a history is replayed -/
section M15
variable {m w i : Nat} {σ v u β : sx_T} {s : Int} {n0 : Nat} {x1 x2 x3 : Int32}
def AC (n0 m : Nat) (x1 x3 : Int32) (σ u : sx_T) : Prop := (sx_I u m 45 = sx_I σ m 45 ∧ ∀ k, sx_I u (m + 9) k = sx_I σ (m + 9) k) ∨ (x3 ≠ 0 ∧ ¬ Rc n0 m x1 σ ∧ Rc n0 m x1 u ∧ (sx_I u m 45).toInt = (sx_I σ m 45).toInt + 1 ∧ (∀ k, k ≠ ti x1 → sx_I u (m + 9) k = sx_I σ (m + 9) k) ∧ (sx_I σ (m + 9) (ti x1)).toInt ≤ (sx_I u (m + 9) (ti x1)).toInt)
def RR (n0 m : Nat) (x1 x2 x3 : Int32) (σ : sx_T) (r : Int32 × sx_T) : Prop := MI m 0 r.2 ∧ LR m σ r.2 ∧ ((r.1 = -1 ∧ mW m r.2 = mW m σ ∧ (sx_I r.2 m 26 ≠ 0 → mA m r.2 = mE m r.2 (ti x1) ∧ mA m r.2 ≤ 134 ∧ x2.toInt ≤ mA m r.2)) ∨ (x3 ≠ 0 ∧ mW m r.2 = mW m σ + 1 ∧ r.1.toInt = mW m σ)) ∧ AC n0 m x1 x3 σ r.2
def GT (n0 m : Nat) (x1 x2 : Int32) (i : Nat) (β σ : sx_T) : Prop := sx_I σ m 36 ≠ 0 ∨ (sx_I σ m 37).toInt ≠ 0 ∨ x2.toInt ≤ mA m σ ∨ ∃ k, Tr n0 m x1 i β k σ
def HW (n0 m : Nat) (x1 : Int32) (σ : sx_T) : Prop := 0 ≤ (sx_I σ m 45).toInt ∧ ((sx_I σ m 45).toInt < 399 ∨ (Rc n0 m x1 σ ∧ (sx_I σ m 45).toInt < 400))
theorem mz_b (rm : RM m w σ) : 300 * (140 - mA m σ) ≤ mz m σ ∧ mz m σ ≤ 300 * (140 - mA m σ) + 248 := by
  unfold RM RQ at rm
  unfold mz
  split <;> omega
/-- nothing of the children, then the rest -/
theorem rr_t {r : Int32 × sx_T} (hw : x3 ≠ 0 → ((ti x1 : Nat) : Int) < mW m σ ∧ ti x1 < 41) (l1 : LR m σ v) (e45 : sx_I v m 45 = sx_I σ m 45) (e9 : ∀ k, sx_I v (m + 9) k = sx_I σ (m + 9) k) (eW : mW m v = mW m σ) (h : RR n0 m x1 x2 x3 v r) : RR n0 m x1 x2 x3 σ r := by
  obtain ⟨h1, h2, h3, h4⟩ := h
  refine ⟨h1, lr_t l1 h2, by rw [← eW]; exact h3, ?_⟩
  rcases h4 with ⟨a, b⟩ | ⟨a, b, c, d, e, f⟩
  · exact Or.inl ⟨a.trans e45, fun k => (b k).trans (e9 k)⟩
  · refine Or.inr ⟨a, fun q => b (rc_up q l1.1 (hw a) (by rw [e9]; exact Int.le_refl _)), c, by rw [← e45]; exact d, fun k hk => (e k hk).trans (e9 k), by rw [← e9]; exact f⟩
theorem rep_stop {n : Nat} (h : MI m 0 σ) (hr : sx_I σ m 26 = 0 ∨ (RM m (ti x1) σ ∧ RB m (ti x1) x2 σ ∧ x2.toInt ≤ mA m σ)) : RR n0 m x1 x2 x3 σ (-1, σ) := by
  refine ⟨h, lr_r, Or.inl ⟨rfl, rfl, fun q => ?_⟩, Or.inl ⟨rfl, fun _ => rfl⟩⟩
  rcases hr with e | ⟨rm, rb, hx⟩
  · exact absurd e q
  · refine ⟨?_, rm.1.2.1, hx⟩
    show mA m σ = mE m σ (ti x1)
    unfold RB at rb
    omega
theorem ok_rep_l (hn : 1000001 ≤ n0) (h0 : 0 ≤ x1.toInt) (h1 : x1.toInt ≤ 40) (hi : x3 ≠ 0 → (i : Int) = x2.toInt - 1) : ∀ (p n : Nat) (σ : sx_T) (x4 : Int32), MI m 0 σ → (x3 ≠ 0 → x1.toInt < mW m σ) → sx_I σ m 47 = x3 → (x3 ≠ 0 → HW n0 m x1 σ) → sx_I σ m 48 = -1 → (sx_I σ m 26 = 0 ∨ (RM m (ti x1) σ ∧ RB m (ti x1) x2 σ ∧ (x4 = 0 → x2.toInt ≤ mA m σ))) → (x4 ≠ 0 → sx_I σ m 26 ≠ 0 → mz m σ ≤ p) → (x3 ≠ 0 → sx_I σ m 26 ≠ 0 → GT n0 m x1 x2 i β σ) → p + 3 ≤ n → Ok (fl_X9_replays_62 n0 n σ m x1 x2 x3 x4) (RR n0 m x1 x2 x3 σ) := by
  intro p
  induction p with
  | zero =>
    intro n σ x4 h hlv h47 hW h48 hr hz hG hpn
    obtain ⟨n, rfl⟩ : ∃ k, n = k + 1 := ⟨n - 1, by omega⟩
    unfold fl_X9_replays_62
    refine ok_ite (fun c4 => ok_some (rep_stop (n := 0) h (hr.imp id (fun q => ⟨q.1, q.2.1, q.2.2 c4⟩)))) (fun c4 => ok_ite (fun cf => ok_some (rep_stop (n := 0) h (Or.inl cf))) (fun cf => ?_))
    have hr := hr.resolve_left cf
    have b := mz_b hr.1
    have a := rq_a hr.1
    have := hz c4 cf
    omega
  | succ p ih =>
    intro n σ x4 h hlv h47 hW h48 hr hz hG hpn
    obtain ⟨n, rfl⟩ : ∃ k, n = k + 1 := ⟨n - 1, by omega⟩
    have tw := ti_of h0
    have hwf := h.wf
    have hw : x3 ≠ 0 → ((ti x1 : Nat) : Int) < mW m σ ∧ ti x1 < 41 := fun e => ⟨by have := hlv e; omega, by omega⟩
    unfold fl_X9_replays_62
    refine ok_ite (fun c4 => ok_some (rep_stop (n := 0) h (hr.imp id (fun q => ⟨q.1, q.2.1, q.2.2 c4⟩)))) (fun c4 => ok_ite (fun cf => ok_some (rep_stop (n := 0) h (Or.inl cf))) (fun cf => ?_))
    obtain ⟨rm, rb, -⟩ := hr.resolve_left cf
    have b := mz_b rm
    have a := rq_a rm
    have hz := hz c4 cf
    have rm' := rm
    unfold RM RQ at rm'
    have hstop : ∀ (v : sx_T), MI m 0 v → (sx_I v m 26 = 0 ∨ (RM m (ti x1) v ∧ RB m (ti x1) x2 v ∧ x2.toInt ≤ mA m v)) → Ok (fl_X9_replays_62 n0 n v m x1 x2 x3 0) (RR n0 m x1 x2 x3 v) := by
      intro v hv hr
      obtain ⟨n, rfl⟩ : ∃ k, n = k + 1 := ⟨n - 1, by omega⟩
      unfold fl_X9_replays_62
      exact ok_p rfl (ok_some (rep_stop (n := 0) hv hr))
    have n10 : ¬ (1 : Int32) = 0 := by decide
    -- a store of the way that goes on
    have hE2 : (x2.toInt ≤ mE m σ (ti x1)) := by unfold RB at rb; omega
    have way : ∀ (v : sx_T), x3 ≠ 0 → LR m σ v → MI m 0 v → RM m (ti x1) v → mA m σ ≤ mA m v → (sx_I σ m 36 = 0 → sx_I σ m 37 = 0 → mA m σ < x2.toInt → It n0 m x1 σ v) → sx_I σ m 36 = 0 → (sx_I σ m 37).toInt = 0 → GT n0 m x1 x2 i β v := by
      intro v e lr mv rv hA hit e36 e37
      by_cases q1 : sx_I v m 36 = 0
      · by_cases q3 : x2.toInt ≤ mA m v
        · exact Or.inr (Or.inr (Or.inl q3))
        · have hlt : mA m σ < x2.toInt := by omega
          rcases hG e cf with g | g | g | ⟨k, g⟩
          · exact absurd e36 g
          · exact absurd e37 g
          · omega
          · have c := tr_c k σ g
            have hiE := hi e
            have rv' := rv
            unfold RM RQ at rv'
            refine Or.inr (Or.inr (Or.inr ⟨k + 1, ⟨mv.st, hc_t c.2.1 ⟨fun j a b k => (lr.1.co j a b k).symm, (lr.1.pr _ (hw e).1 4 (by decide) (by decide)).symm, fun k hk => ?_⟩, by omega, ⟨by omega, by omega, by omega⟩, q1⟩, σ, g, hit e36 (q_0.mpr e37) hlt⟩))
            have := lr.1.hi _ (hw e).2 k (by omega)
            exact ⟨this.1.symm, this.2.symm⟩
      · exact Or.inl q1
    have hwOf : ∀ (v : sx_T), LR m σ v → XS m σ v → x3 ≠ 0 → HW n0 m x1 v := by
      intro v lr xs e
      have q := hW e
      unfold HW at q ⊢
      rw [xs.1]
      refine ⟨q.1, q.2.imp id (fun r => ⟨rc_up r.1 lr.1 (hw e) (by rw [xs.2.2]; exact Int.le_refl _), r.2⟩)⟩
    refine ok_ite (fun cO => ?_) (fun cO => ?_)
    · rw [n_le, l_0] at cO
      have hO : (sx_I σ m 37).toInt = 0 := by omega
      have hg : RG m (ti x1) x2 σ := ⟨rm, rb, cf, h48, hO⟩
      refine ok_ite (fun cw => ?_) (fun cw => ?_)
      · have cw' := q_0.mp cw
        refine ok_ite (fun cE => ?_) (fun cE => ?_)
        · rw [n_le, l_0] at cE
          have hEn : (sx_I σ m 36).toInt = 0 := by omega
          obtain ⟨⟨r7, u8⟩, heq, z1, z2, z3, z4, z5⟩ := ok_steps (x2 := x2) hn h h0 h1 hlv hg cw' hEn
          have z1 : MI m 0 u8 := z1
          have z2 : LR m σ u8 := z2
          have z3 : XS m σ u8 := z3
          have z4 : BW m x3 σ u8 := z4
          rw [heq]
          show Ok (if (sx_I u8 m 48) = (-1) then fl_X9_replays_62 n0 n u8 m x1 x2 x3 r7 else some (sx_I u8 m 48, u8)) _
          refine ok_ite (fun c48 => ?_) (fun c48 => ok_some ?_)
          · have eW : mW m u8 = mW m σ := by
              rcases z4 with q | ⟨-, q1, q2⟩
              · exact q.2
              · rw [c48] at q2
                have : (-1 : Int32).toInt = -1 := rfl
                omega
            refine ok_m (ih n u8 r7 z1 (fun e => by rw [eW]; exact hlv e) (z3.2.1.trans h47) (hwOf u8 z2 z3) c48 ?_ (fun e f => ?_) (fun e f => ?_) (by omega)) (fun r hr => rr_t hw z2 z3.1 z3.2.2 eW hr)
            · rcases z5 with q | q
              · exact Or.inl q
              · exact Or.inr ⟨q.1, q.2.1, q.2.2.1⟩
            · have q := z5.resolve_left f
              have := q.2.2.2 e
              have this : mz m u8 < mz m σ := this
              omega
            · have q := z5.resolve_left f
              have rq : RM m (ti x1) u8 := q.1
              refine way u8 e z2 z1 rq ?_ (fun _ _ hlt => ⟨x2, x3, hlt, Or.inr ⟨cw, r7, heq⟩⟩) (q_0.mpr hEn) hO
              by_cases r0 : r7 = 0
              · have q2 : x2.toInt ≤ mA m u8 := q.2.2.1 r0
                unfold RB at rb
                have qb : RB m (ti x1) x2 u8 := q.2.1
                have hev := z2.1.ev (ti x1) (by omega)
                unfold RB at qb
                omega
              · have q2 : mz m u8 < mz m σ := q.2.2.2 r0
                have := mz_b rq
                omega
          · rcases z4 with q | ⟨q0, q1, q2⟩
            · exact absurd q.1 c48
            · exact ⟨z1, z2, Or.inr ⟨q0, q1, q2⟩, Or.inl ⟨z3.1, z3.2.2⟩⟩
        · rw [n_le, l_0] at cE
          obtain ⟨⟨r12, u13⟩, heq, ⟨z1, z2, z3, z4, z5⟩, z6, z7⟩ := ok_undoes (x2 := x2) h h0 h1 hlv hg cw' (by omega)
          have z1 : MI m 0 u13 := z1
          have z2 : LR m σ u13 := z2
          have z3 : XS m σ u13 := z3
          have z4 : BW m x3 σ u13 := z4
          have z6 : sx_I u13 m 26 = 0 ∨ (sx_I u13 m 36).toInt = (sx_I σ m 36).toInt := z6
          have z7 : sx_I u13 m 48 = -1 := z7
          rw [heq]
          show Ok (fl_X9_replays_62 n0 n u13 m x1 x2 x3 r12) _
          have eW : mW m u13 = mW m σ := by
            rcases z4 with q | ⟨-, q1, q2⟩
            · exact q.2
            · rw [z7] at q2
              have : (-1 : Int32).toInt = -1 := rfl
              omega
          refine ok_m (ih n u13 r12 z1 (fun e => by rw [eW]; exact hlv e) (z3.2.1.trans h47) (hwOf u13 z2 z3) z7 ?_ (fun e f => ?_) (fun e f => ?_) (by omega)) (fun r hr => rr_t hw z2 z3.1 z3.2.2 eW hr)
          · rcases z5 with q | q
            · exact Or.inl q
            · exact Or.inr ⟨q.1, q.2.1, q.2.2.1⟩
          · have q := z5.resolve_left f
            have := q.2.2.2 e
            have this : mz m u13 < mz m σ := this
            omega
          · have q := z6.resolve_left f
            refine Or.inl (fun e => ?_)
            rw [e, l_0] at q
            omega
      · refine ok_ite (fun cx => ?_) (fun cx => ?_)
        · rw [n_le] at cx
          exact hstop σ h (Or.inr ⟨rm, rb, cx⟩)
        · rw [n_le] at cx
          have hlt : mA m σ < x2.toInt := by unfold mA; omega
          have cw' : (sx_I σ m 30).toInt ≠ 0 := fun e => cw (q_0.mpr e)
          have hltE : mA m σ < mE m σ (ti x1) := by omega
          unfold fb_X9_replays_131
          obtain ⟨u, heq, k1, k2, k3, k4, k5⟩ := ok_comes hn h h0 h1 rm cf hO cw' hltE (fun e => by rw [h47] at e; have := hW e; unfold HW at this; omega)
          rw [heq]
          show Ok (fl_X9_replays_62 n0 n u m x1 x2 x3 1) _
          have lr : LR m σ u := lr_kp k1
          have eW := kp_W k1
          have mu := mi_kp h k1
          have r47 : sx_I u m 47 = x3 := (k2 47 (by decide)).trans h47
          have r48 : sx_I u m 48 = -1 := (k2 48 (by decide)).trans h48
          have rbu : sx_I u m 26 ≠ 0 → RM m (ti x1) u ∧ RB m (ti x1) x2 u ∧ mA m u = mA m σ + 1 := fun e => by
            obtain ⟨q1, q2, q3⟩ := k3.resolve_left e
            refine ⟨q3, ?_, q2⟩
            unfold RB at rb ⊢
            rw [q2, kp_E k1]
            omega
          have mzu : sx_I u m 26 ≠ 0 → mz m u < mz m σ := fun e => by
            obtain ⟨q1, q2, q3⟩ := rbu e
            have := mz_b q1
            omega
          have frm : sx_I u m 26 = 0 ∨ (RM m (ti x1) u ∧ RB m (ti x1) x2 u ∧ ((1 : Int32) = 0 → x2.toInt ≤ mA m u)) := by
            by_cases e : sx_I u m 26 = 0
            · exact Or.inl e
            · obtain ⟨q1, q2, q3⟩ := rbu e
              exact Or.inr ⟨q1, q2, fun q => absurd q n10⟩
          rcases k4 with ⟨e45, e9⟩ | ⟨tg, e45, e9, e9w, eEn⟩
          · refine ok_m (ih n u 1 mu (fun e => by rw [eW]; exact hlv e) r47 (fun e => ?_) r48 frm (fun _ f => by have := mzu f; omega) (fun e f => ?_) (by omega)) (fun r hr => rr_t hw lr e45 e9 eW hr)
            · have q := hW e
              unfold HW at q ⊢
              rw [e45]
              exact ⟨q.1, q.2.imp id (fun r => ⟨rc_up r.1 lr.1 (hw e) (by rw [e9]; exact Int.le_refl _), r.2⟩)⟩
            · by_cases q36 : sx_I σ m 36 = 0
              · obtain ⟨q1, q2, q3⟩ := rbu f
                exact way u e lr mu q1 (by omega) (fun _ _ hlt => ⟨x2, x3, hlt, Or.inl ⟨cw, heq⟩⟩) q36 hO
              · exact Or.inl (k5 q36)
          · obtain ⟨t1, t2, t3, t4, t5, t6⟩ := tg
            have e : x3 ≠ 0 := by rw [← h47]; exact t5
            have hTQ : TQ m x1 σ := ⟨t1, t2, t4⟩
            obtain ⟨k, g⟩ : ∃ k, Tr n0 m x1 i β k σ := by
              rcases hG e cf with g | g | g | g
              · exact absurd t3 g
              · exact absurd hO g
              · omega
              · exact g
            have c := tr_c k σ g
            have hiE := hi e
            have nrc : ¬ Rc n0 m x1 σ := by
              rintro ⟨n', i', β', s', q1, q2, q3, q4, q5⟩
              have hmE : (i : Int) + 1 = mE m σ (ti x1) := by unfold RB at rb; omega
              have ii : i' ≤ i := by omega
              have hcb : HC m (ti x1) i' β' β := hc_t q3 (hc_s (hc_i c.2.1 ii))
              have := tr_one hn h0 h1 ii hcb q1 g q2 hTQ
              omega
            have rcu : Rc n0 m x1 u := by
              refine ⟨k, i, β, σ, g, hTQ, hc_t c.2.1 ⟨fun j a b k => (lr.1.co j a b k).symm, (lr.1.pr _ (hw e).1 4 (by decide) (by decide)).symm, fun k hk => ?_⟩, ?_, ?_⟩
              · have := lr.1.hi _ (hw e).2 k (by omega)
                exact ⟨this.1.symm, this.2.symm⟩
              · rw [kp_E k1]; omega
              · rw [e9w]; omega
            have hq := hW e
            unfold HW at hq
            have hq2 : (sx_I σ m 45).toInt < 399 := hq.2.resolve_right (fun r => nrc r.1)
            refine ok_m (ih n u 1 mu (fun e => by rw [eW]; exact hlv e) r47 (fun e => ⟨by omega, Or.inr ⟨rcu, by omega⟩⟩) r48 frm (fun _ f => by have := mzu f; omega) (fun _ _ => Or.inl eEn) (by omega)) (fun r hr => ?_)
            obtain ⟨w1, w2, w3, w4⟩ := hr
            refine ⟨w1, lr_t lr w2, by rw [← eW]; exact w3, ?_⟩
            rcases w4 with ⟨a1, a2⟩ | ⟨-, a2, -⟩
            · refine Or.inr ⟨e, nrc, rc_up rcu w2.1 ⟨by rw [eW]; exact (hw e).1, (hw e).2⟩ (by rw [a2]; exact Int.le_refl _), by rw [a1]; exact e45, fun k hk => (a2 k).trans (e9 k hk), by rw [a2, e9w]; omega⟩
            · exact absurd rcu a2
    · rw [n_le, l_0] at cO
      have fin : ∀ y : Int32, (y = 0 ∨ x2.toInt ≤ mA m σ) → Ok (fb_X9_replays_95 n0 (fl_X9_replays_62 n0 n) σ m x1 x2 x3 y) (RR n0 m x1 x2 x3 σ) := by
        intro y hy
        unfold fb_X9_replays_95
        have kp : KP m σ (wx_I σ m 26 y) := kp_m kp_r rfl
        have eA : mA m (wx_I σ m 26 y) = mA m σ := by unfold mA; rw [kn (by decide)]
        refine ok_m (hstop _ (mi_kp h kp) ?_) (fun r hr => rr_t hw (lr_kp kp) (kn (by decide)) (fun k => by rw [gI_I, if_neg (by omega)]) (kp_W kp) hr)
        rcases hy with rfl | hy
        · exact Or.inl ke
        · refine Or.inr ⟨?_, rb_e rb eA (kp_E kp _), by rw [eA]; exact hy⟩
          unfold RM at rm ⊢
          rw [kp_cn kp, kp_cn kp, eA, kn (by decide), kn (by decide), kn (by decide), kn (by decide), kn (by decide), kn (by decide), kn (by decide), kn (by decide)]
          exact rm
      refine ok_ite (fun _ => fin 0 (Or.inl rfl)) (fun c => fin 1 (Or.inr ?_))
      rw [n_lt] at c
      unfold mA
      omega
end M15
