section M8
variable {m w : Nat} {σ σ1 v u : sx_T} {s : Int} {n0 : Nat} {x2 : Int32} {x1 x3 x4 x6 x7 x8 x9 : Int32}
theorem op_711 (h : S2 m s x1 x2 x3 σ σ1) (hA : mA m σ1 ≤ 59) {y0 x10 : Int32} (hu : ET m s (ti x1) x2 x3 0 σ1 u) (vw : VW m u v) (hr : x10 ≠ 0) (hw : ((sx_I v m 36).toInt = 0 ∧ ((sx_I v m 30).toInt = 0 ∨ (sx_I v m 30).toInt = 5) ∨ (0 < (sx_I v m 36).toInt ∧ (sx_I v m 30).toInt = 0)) ∧ (sx_I v m 37).toInt = 0) : Ok (fb_X9_steps_711 n0 v m x8 x10 y0) (ZP m s (ti x1) x2 x3 σ) := by
  unfold fb_X9_steps_711
  refine l1085 hr (lfE h.1 hu (vw_m vw rfl) hr ?_)
  simp only [gI_I, eq_self, true_and, Nat.reduceEqDiff, reduceIte, true_or, or_true, and_true]
  omega
theorem op_692 (h : S2 m s x1 x2 x3 σ σ1) (hA : mA m σ1 ≤ 59) {y0 x10 : Int32} (hu : ET m s (ti x1) x2 x3 0 σ1 u) (vw : VW m u v) (hr : x10 ≠ 0) (hw : ((y0.toInt = 0 ∧ ((sx_I v m 30).toInt = 0 ∨ (sx_I v m 30).toInt = 5)) ∨ (0 < y0.toInt ∧ (sx_I v m 30).toInt = 0)) ∧ (sx_I v m 37).toInt = 0) : Ok (fb_X9_steps_692 n0 v m x1 x8 x10 y0) (ZP m s (ti x1) x2 x3 σ) := by
  unfold fb_X9_steps_692
  refine ok_n hr (ok_bre (s2_lat h hu (vw_m vw rfl)) (op_711 h hA hu (vw_m vw rfl) hr ?_))
  simp only [gI_I, eq_self, true_and, Nat.reduceEqDiff, reduceIte, true_or, or_true, and_true]
  exact hw
theorem op_kid (h : S2 m s x1 x2 x3 σ σ1) (p6 : 0 ≤ x6.toInt ∧ x6.toInt ≤ 99) (p8 : 0 ≤ x8.toInt ∧ x8.toInt ≤ 19) (hA : mA m σ1 ≤ 59) : Ok (bd (f_X9_starts σ1 m x1 x2 x3 7 (jrem x6 6) x1 (-1)) fun r52 u53 =>
    if r52 = 0 then
      fb_X9_steps_664 n0 u53 m x1 x8 r52
    else
      br (f_X9_latestNumber u53 m x1) fun r57 =>
      if (lg_cmp r57 0) < 0 then
        fb_X9_steps_664 n0 u53 m x1 x8 r52
      else
        fb_X9_steps_665 n0 u53 m x1 x8 r52 5) (ZP m s (ti x1) x2 x3 σ) := by
  have hS := h.1
  have hwf := h.1.1.wf
  have h0 := h.2.1
  have hlv := h.2.2.2
  have l5 : (5 : Int32).toInt = 5 := rfl
  have l2 : (2 : Int32).toInt = 2 := rfl
  refine ok_bd (s2_starts h (Or.inl rfl) (jr_6 p6.1 p6.2) ⟨by omega, fun e => by have := hlv e; omega⟩) (fun r u hu => ?_)
  unfold fb_X9_steps_664 fb_X9_steps_665 fb_X9_steps_688
  refine ok_ite (fun e => ok_p e ?_) (fun e => ?_)
  · rcases hu with ⟨a, b⟩ | ⟨a, -⟩
    · unfold fb_X9_steps_692 fb_X9_steps_711
      refine ok_p e (lfF hS b (vw_m (vw_m (vw_m vw_r rfl) rfl) rfl) p8 e (fun c => ?_))
      have := ef3 hS b c
      simp only [gI_I, eq_self, true_and, Nat.reduceEqDiff, reduceIte, true_or, or_true, and_true]
      exact ⟨rfl, this.2⟩
    · exact absurd e a
  · rcases hu with ⟨a, b⟩ | ⟨a, d, d3⟩
    · exact absurd a e
    · have d3 : (sx_I u m 30).toInt = 0 ∧ (sx_I u m 36).toInt = 0 ∧ (sx_I u m 37).toInt = 0 := et3 hS d3
      refine ok_bre (s2_lat h d vw_r) ?_
      have go : ∀ y0, (y0 = 0 ∨ (y0 = 5 ∧ ¬ lg_cmp (sx_J u (m + 12) (160 * ti x1 + ti (sx_I u m 27) - 1)) 0 < 0)) → Ok (if r = 0 then fb_X9_steps_692 n0 (wx_I u m 30 y0) m x1 x8 r (sx_I (wx_I u m 30 y0) m 36) else br (f_X9_latestNumber (wx_I u m 30 y0) m x1) fun r4 => if 0 ≤ (lg_cmp r4 0) then fb_X9_steps_692 n0 (wx_I u m 30 y0) m x1 x8 r (sx_I (wx_I u m 30 y0) m 36) else fb_X9_steps_692 n0 (wx_I u m 30 y0) m x1 x8 r 2) (ZP m s (ti x1) x2 x3 σ) := by
        intro y0 hy
        refine ok_n e (ok_bre (s2_lat h d (vw_m vw_r rfl)) (ok_ite (fun _ => op_692 h hA d (vw_m vw_r rfl) e ?_) (fun c => op_692 h hA d (vw_m vw_r rfl) e ?_)))
        · simp only [gI_I, eq_self, true_and, Nat.reduceEqDiff, reduceIte, true_or, or_true, and_true]
          rcases hy with rfl | ⟨rfl, -⟩
          · rw [l_0]; omega
          · rw [l5]; omega
        · simp only [gI_I, eq_self, true_and, Nat.reduceEqDiff, reduceIte, true_or, or_true, and_true]; rw [l2]
          rcases hy with rfl | ⟨rfl, q⟩
          · rw [l_0]; omega
          · exfalso
            rw [n_lt, l_0] at q
            rw [n_le, l_0] at c
            have c : ¬ 0 ≤ (lg_cmp (sx_J u (m + 12) (160 * ti x1 + ti (sx_I u m 27) - 1)) 0).toInt := c
            omega
      exact ok_ite (fun _ => go 0 (Or.inl rfl)) (fun c => go 5 (Or.inr ⟨rfl, c⟩))
theorem op_own (h : S2 m s x1 x2 x3 σ σ1) (p6 : 0 ≤ x6.toInt ∧ x6.toInt ≤ 99) (p8 : 0 ≤ x8.toInt ∧ x8.toInt ≤ 19) (hA : mA m σ1 ≤ 59) : Ok (bd (f_X9_starts σ1 m x1 x2 x3 14 (jrem x6 6) (-1) (-1)) fun r62 u63 =>
    if r62 = 0 then
      fb_X9_steps_755 n0 u63 m x1 x8 r62
    else
      br (f_X9_latestNumber u63 m x1) fun r67 =>
      if 0 ≤ (lg_cmp r67 0) then
        fb_X9_steps_755 n0 u63 m x1 x8 r62
      else
        fb_X9_steps_759 n0 u63 m x1 x8 r62 2) (ZP m s (ti x1) x2 x3 σ) := by
  have hS := h.1
  have hwf := h.1.1.wf
  have lm1 : (-1 : Int32).toInt = -1 := rfl
  have l2 : (2 : Int32).toInt = 2 := rfl
  refine ok_bd (s2_starts h (Or.inr rfl) (jr_6 p6.1 p6.2) ⟨by omega, fun e => by omega⟩) (fun r u hu => ?_)
  unfold fb_X9_steps_755 fb_X9_steps_759 fb_X9_steps_787 fb_X9_steps_791
  refine ok_ite (fun e => ok_p e ?_) (fun e => ?_)
  · rcases hu with ⟨a, b⟩ | ⟨a, -⟩
    · refine lfF hS b (vw_m (vw_m vw_r rfl) rfl) p8 e (fun c => ?_)
      have := ef3 hS b c
      simp only [gI_I, eq_self, true_and, Nat.reduceEqDiff, reduceIte, true_or, or_true, and_true]
      exact this
    · exact absurd e a
  · rcases hu with ⟨a, b⟩ | ⟨a, d, d3⟩
    · exact absurd a e
    · have d3 : (sx_I u m 30).toInt = 0 ∧ (sx_I u m 36).toInt = 0 ∧ (sx_I u m 37).toInt = 0 := et3 hS d3
      refine ok_bre (s2_lat h d vw_r) ?_
      have fin : ∀ y z, (y.toInt = 0 ∨ y.toInt = 2) → Ok (fb_X9_steps_1085 n0 (wx_I (wx_I u m 36 y) m 29 z) m x8 r) (ZP m s (ti x1) x2 x3 σ) := by
        intro y z hy
        refine l1085 e (lfE hS d (vw_m (vw_m vw_r rfl) rfl) e ?_)
        simp only [gI_I, eq_self, true_and, Nat.reduceEqDiff, reduceIte, true_or, or_true, and_true]
        omega
      have go : ∀ y, (y.toInt = 0 ∨ y.toInt = 2) → Ok (if r = 0 then fb_X9_steps_1085 n0 (wx_I (wx_I u m 36 y) m 29 (sx_I (wx_I u m 36 y) m 29)) m x8 r else br (f_X9_latestNumber (wx_I u m 36 y) m x1) fun r4 => if (lg_cmp r4 0) < 0 then fb_X9_steps_1085 n0 (wx_I (wx_I u m 36 y) m 29 (sx_I (wx_I u m 36 y) m 29)) m x8 r else br (f_X9_latestNumber (wx_I u m 36 y) m x1) fun r8 => fb_X9_steps_1085 n0 (wx_I (wx_I u m 36 y) m 29 r8.toInt32) m x8 r) (ZP m s (ti x1) x2 x3 σ) := by
        intro y hy
        exact ok_n e (ok_bre (s2_lat h d (vw_m vw_r rfl)) (ok_ite (fun _ => fin y _ hy) (fun _ => ok_bre (s2_lat h d (vw_m vw_r rfl)) (fin y _ hy))))
      exact ok_ite (fun _ => go _ (Or.inl d3.2.1)) (fun _ => go 2 (Or.inr l2))
theorem op_draw (h : S2 m s x1 x2 x3 σ σ1) (p6 : 0 ≤ x6.toInt ∧ x6.toInt ≤ 99) (p8 : 0 ≤ x8.toInt ∧ x8.toInt ≤ 19) (hA : mA m σ1 ≤ 59) : Ok (bd (f_X9_draws σ1 m x1 x2 x3 x6) fun r72 u73 => fb_X9_steps_1085 n0 u73 m x8 r72) (ZP m s (ti x1) x2 x3 σ) := by
  have hS := h.1
  have hS' := h.1
  obtain ⟨m1, k1, xs1, h48, rm, rb, n26, -⟩ := hS'
  refine ok_bd (ok_draws m1 h.2.1 h.2.2.1 h.2.2.2 (rq_a rm) rb n26 h48 p6) (fun r u hu => ?_)
  rcases hu with ⟨a, b⟩ | ⟨a, d, d3⟩
  · exact lfF hS b vw_r p8 a (ef3 hS b)
  · have d3 : (sx_I u m 30).toInt = 0 ∧ (sx_I u m 36).toInt = 0 ∧ (sx_I u m 37).toInt = 0 := et3 hS d3
    have a : r ≠ 0 := a
    exact l1085 a (lfE hS d vw_r a (by omega))
theorem op_mark (h : S2 m s x1 x2 x3 σ σ1) (p8 : 0 ≤ x8.toInt ∧ x8.toInt ≤ 19) (hA : mA m σ1 ≤ 59) {n : Int64} : Ok (bd (f_X9_meets σ1 m x1 x2 x3 10 n 0) fun r86 u87 =>
      if r86 = 0 then
        fb_X9_steps_965 n0 u87 m x8 r86 (sx_I u87 m 29)
      else
        fb_X9_steps_965 n0 u87 m x8 r86 1) (ZP m s (ti x1) x2 x3 σ) := by
  have hS := h.1
  refine ok_bd (s2_met (b := 0) h (by decide) (by decide) (by decide) (fun e => absurd e (by decide)) rfl) (fun r u hu => ?_)
  unfold fb_X9_steps_965
  refine ok_ite (fun e => ?_) (fun e => ?_)
  · rcases hu with ⟨a, b⟩ | ⟨a, -⟩
    · exact lfF hS b (vw_m vw_r rfl) p8 e (fun c => by have := ef3 hS b c; simp only [gI_I, eq_self, true_and, Nat.reduceEqDiff, reduceIte, true_or, or_true, and_true]; exact this)
    · exact absurd e a
  · rcases hu with ⟨a, b⟩ | ⟨a, ⟨d, d3⟩, -⟩
    · exact absurd a e
    · refine l1085 e (lfE hS d (vw_m vw_r rfl) e ?_)
      have : (sx_I u m 30).toInt = 0 ∧ (sx_I u m 36).toInt = 0 ∧ (sx_I u m 37).toInt = 0 := et3 hS d3
      simp only [gI_I, eq_self, true_and, Nat.reduceEqDiff, reduceIte, true_or, or_true, and_true]
      omega
theorem op_898 (h : S2 m s x1 x2 x3 σ σ1) (hA : mA m σ1 ≤ 59) (hlt : mA m σ1 < x2.toInt) {y0 : Int32} (hy : y0 = 0 ∨ (y0 = 1 ∧ sx_I σ1 (m + 11) (160 * ti x1 + ti (sx_I σ1 m 27)) = 10)) : Ok (fb_X9_steps_898 n0 σ1 m x8 1 y0) (ZP m s (ti x1) x2 x3 σ) := by
  have hS := h.1
  have hS' := h.1
  obtain ⟨m1, k1, xs1, h48, rm, rb, n26, eA1, h36, h38, a30, a36, a37, g38⟩ := hS'
  have rm' := rm
  unfold RM RQ at rm'
  have hA1 := rq_a rm
  have hA' : 1 ≤ (sx_I σ1 m 27).toInt ∧ (sx_I σ1 m 27).toInt ≤ 134 := hA1
  have e1 : (sx_I σ1 m 27 + 1).toInt = (sx_I σ1 m 27).toInt + 1 := n_add1 (by omega) (by omega)
  unfold fb_X9_steps_898 fb_X9_steps_915 fb_X9_steps_930
  rcases hy with rfl | ⟨rfl, hv⟩
  · refine ok_p rfl (ok_p rfl ?_)
    have e0 : sx_I σ1 m 27 + 0 = sx_I σ1 m 27 := by
      refine n_eq.mpr ?_
      rw [n_add (by rw [l_0]; omega) (by rw [l_0]; omega), l_0, Int.add_zero]
    rw [e0]
    refine l1085 (by decide) (lfN hS (kp_m (kp_m kp_r rfl) rfl) (xs_m (xs_m xs_r (by decide)) (by decide)) (fun k hk => ?_) ?_ ?_ ?_ ?_)
    · rw [kn (by omega)]
      by_cases e : k = 27
      · rw [e, ke]
      · rw [kn e]
    · simp only [gI_I, eq_self, true_and, Nat.reduceEqDiff, reduceIte, true_or, or_true, and_true]; omega
    · simp only [gI_I, eq_self, true_and, Nat.reduceEqDiff, reduceIte, true_or, or_true, and_true]; omega
    · simp only [gI_I, eq_self, true_and, Nat.reduceEqDiff, reduceIte, true_or, or_true, and_true]; omega
    · simp only [gI_I, eq_self, true_and, Nat.reduceEqDiff, reduceIte, true_or, or_true, and_true]; omega
  · have n10 : ¬ (1 : Int32) = 0 := by decide
    refine ok_n n10 (ok_n n10 ?_)
    have k27 : KP m σ1 (wx_I σ1 m 27 (sx_I σ1 m 27 + 1)) := kp_m kp_r rfl
    have eA : mA m (wx_I σ1 m 27 (sx_I σ1 m 27 + 1)) = mA m σ1 + 1 := by unfold mA; rw [ke, e1]
    have tn : ti (sx_I σ1 m 27 + 1) = ti (sx_I σ1 m 27) + 1 := by unfold ti; omega
    have d : ET m s (ti x1) x2 x3 0 σ1 (wx_I σ1 m 27 (sx_I σ1 m 27 + 1)) := by
      refine ⟨mi_kp m1 k27, lr_kp k27, xs_m xs_r (by decide), Or.inl ⟨by rw [kn (by decide)]; exact h48, kp_W k27⟩, by rw [kn (by decide)]; exact n26, eA, ?_, ?_, ?_, fun k hk => by rw [kn (by omega)]⟩
      · unfold RB at rb ⊢
        rw [eA, kp_E k27]
        omega
      · rw [ke, tn, kp_cn k27, Int.add_zero]
        show _ + (if sx_I σ1 (m + 11) (160 * ti x1 + ti (sx_I σ1 m 27)) = 1 then 1 else 0) = _
        rw [hv, if_neg (by decide), Int.add_zero]
      · rw [ke, tn, kp_cn k27]
        show _ + (if sx_I σ1 (m + 11) (160 * ti x1 + ti (sx_I σ1 m 27)) = 11 then 1 else 0) = _
        rw [hv, if_neg (by decide), Int.add_zero]
    refine l1085 (by decide) (lfE hS d (vw_m vw_r rfl) (by decide) ?_)
    simp only [gI_I, eq_self, true_and, Nat.reduceEqDiff, reduceIte, true_or, or_true, and_true]
    omega
theorem op_anew (h : S2 m s x1 x2 x3 σ σ1) (p8 : 0 ≤ x8.toInt ∧ x8.toInt ≤ 19) (hA : mA m σ1 ≤ 59) {y0 y1 y2 : Int32} (p2 : 0 ≤ y2.toInt ∧ y2.toInt ≤ 5) (p1 : -1 ≤ y1.toInt ∧ (x3 ≠ 0 → y1.toInt ≤ 39 ∧ y1.toInt ≤ mW m σ1)) : Ok (fb_X9_steps_1049 n0 σ1 m x1 x8 y0 y1 y2 14 x3 x2 x1) (ZP m s (ti x1) x2 x3 σ) := by
  have hS := h.1
  have l4 : (4 : Int32).toInt = 4 := rfl
  have l2 : (2 : Int32).toInt = 2 := rfl
  unfold fb_X9_steps_1049
  refine ok_bd (s2_starts h (Or.inr rfl) p2 p1) (fun r u hu => ?_)
  unfold fb_X9_steps_1082
  refine ok_ite (fun e => ?_) (fun e => ?_)
  · rcases hu with ⟨a, b⟩ | ⟨a, -⟩
    · refine lfF hS b (vw_m vw_r rfl) p8 e (fun c => ?_)
      have := ef3 hS b c
      simp only [gI_I, eq_self, true_and, Nat.reduceEqDiff, reduceIte, true_or, or_true, and_true]
      exact this
    · exact absurd e a
  · rcases hu with ⟨a, b⟩ | ⟨a, d, d3⟩
    · exact absurd a e
    · have d3 : (sx_I u m 30).toInt = 0 ∧ (sx_I u m 36).toInt = 0 ∧ (sx_I u m 37).toInt = 0 := et3 hS d3
      refine ok_bre (s2_lat h d vw_r) (ok_ite (fun _ => l1085 e (lfE hS d (vw_m vw_r rfl) e ?_)) (fun _ => l1085 e (lfE hS d (vw_m vw_r rfl) e ?_)))
      · simp only [gI_I, eq_self, true_and, Nat.reduceEqDiff, reduceIte, true_or, or_true, and_true]; rw [l4]; omega
      · simp only [gI_I, eq_self, true_and, Nat.reduceEqDiff, reduceIte, true_or, or_true, and_true]; rw [l2]; omega
end M8
