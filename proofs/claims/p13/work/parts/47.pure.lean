section G20
variable {c : CP} {σ : sx_T} {n0 : Nat}
/-- what is read from a history may be put into another at a place that is not higher -/
theorem ok_kB {h : Nat} {s : Int} {x : Int32} (hg : GI c s σ) (hk : sx_K σ h = 3) : ∃ r, f_X1_kindAt σ h x = some r ∧ (b8 r = 6 ∨ b8 r = 12 → x.toInt < 90) := by
  obtain ⟨a, r, ha, hr, h1⟩ := ok_kindAt (x := x) hg.ww hk
  refine ⟨r, hr, fun h2 => ?_⟩
  rcases h1 with rfl | ⟨h3, h4, rfl⟩
  · exact absurd h2 (by decide)
  · exact (hg.ha h hk).1 a ha x h3 h4 h2
theorem nT_c (hg : GI c (-1) σ) : 0 ≤ nT c σ ∧ nT c σ ≤ 5640 := nT_b (gi_le hg (by decide))
def AG (c : CP) (σ : sx_T) (r : Option Nat × sx_T) : Prop := UP c 0 σ r.2 ∧ ∀ g, r.1 = some g → OP c r.2 g
theorem ok_again_e (hn : 1000001 ≤ n0) {x2 : Int32} (hx : x2.toInt ≤ 140) {f : Nat} (hg : GI c (-1) σ) (of : OP c σ f) : Ok (bq (some f) fun a2 =>
      qv (sx_R σ a2 2) fun w3 =>
      bq w3 fun a4 =>
      br (f_X5_advance n0 σ a4 x2) fun u6 =>
      qv (sx_R u6 a2 2) fun w9 =>
      bq w9 fun a10 =>
      br (f_X5_waitsForActivity (wx_I u6 a2 8 x2) a10) fun r12 =>
      if r12 = 0 then
        some ((some a2), (wx_I u6 a2 8 x2))
      else
        qv (sx_R u6 a2 2) fun w15 =>
        bq w15 fun a16 =>
        br (f_X8_schedule (wx_I u6 a2 8 x2) c.L (some a2) ((sx_J u6 a16 17).toInt32)) fun u18 =>
        some ((some a2), u18)) (fun r => AG c σ r) := by
  have hkf := op_k hg of
  obtain ⟨h, r, -, -, ⟨h3, h4⟩, -⟩ := gi_f hg hkf
  refine ok_bq rfl (ok_qb h3 (ok_br (ok_advance hn hg h4 hx) (fun u hu => ?_)))
  have R2 : sx_R u f 2 = some r := by rw [hu.2.1.2.2.1]; exact h3
  have u2 := up_t hu.1 (gi_I (a := f) (k := 8) (x := x2) hu.1.1 (Or.inl (k_u hu.1 (by decide) hkf)))
  obtain ⟨w, hw⟩ := ok_wfa (σ := wx_I u f 8 x2) (r := r)
  have of2 := op_u u2 of
  refine ok_qb R2 (ok_bre hw (ok_ite (fun _ => ok_some ⟨up_le u2 (by decide), fun g eg => by cases eg; exact of2⟩) (fun _ => ok_qb R2 ?_)))
  have hb := nT_c u2.1
  refine ok_br (ok_schedule u2.1 (by omega) of2) (fun v hv => ok_some ⟨⟨hv.1, gr_t u2.2.1 hv.2.1, hv.2.2.1.trans u2.2.2⟩, fun g eg => ?_⟩)
  cases eg
  exact op_m hv.2.1.fm of2
theorem ok_again_l (hn : 1000001 ≤ n0) {x2 : Int32} (hx : x2.toInt ≤ 140) {a f : Nat} : ∀ (m n : Nat) (σ : sx_T) (x4 : Int32), GI c (-1) σ → OP c σ a → OP c σ f → (∀ h, sx_R σ f 1 = some h → (sx_I σ h 2).toInt ≤ x4.toInt) → 1 ≤ x4.toInt → 1000 - x4.toInt ≤ m → m < n → Ok (fl_X8_openAgain_29 n0 n σ c.L (some a) x2 (some f) x4) (fun r => AG c σ r) := by
  intro m
  induction m with
  | zero =>
    intro n σ x4 hg oa of hh h1 h2 h3
    obtain ⟨n, rfl⟩ : ∃ k, n = k + 1 := ⟨n - 1, by omega⟩
    unfold fl_X8_openAgain_29
    exact ok_p (by rw [n_le]; omega) (ok_again_e hn hx hg of)
  | succ m ih =>
    intro n σ x4 hg oa of hh h1 h2 h3
    obtain ⟨n, rfl⟩ : ∃ k, n = k + 1 := ⟨n - 1, by omega⟩
    unfold fl_X8_openAgain_29
    refine ok_ite (fun _ => ok_again_e hn hx hg of) (fun c1 => ?_)
    rw [n_le] at c1
    have e1 : (x4 + 1).toInt = x4.toInt + 1 := n_add1 (by omega) (by omega)
    obtain ⟨h, -, -, ⟨q1, q2⟩, -⟩ := gi_f hg (op_k hg of)
    obtain ⟨b, -, -, ⟨b1, b2⟩, -⟩ := gi_f hg (op_k hg oa)
    obtain ⟨r, hr, hr6⟩ := ok_kB (x := x4) hg b2
    obtain ⟨y, hy⟩ := ok_numberAt (x := x4) hg.ww b2
    have hq := hh h q1
    refine ok_bq rfl (ok_qv (ok_bq rfl (ok_qb b1 (ok_bre hr (ok_qb b1 (ok_bre hy (ok_bq q1 (ok_br (ok_add hg (op_h hg of q1) (fun e => ?_)) (fun u hu => ?_)))))))))
    · have := hr6 e
      omega
    · obtain ⟨v1, v2, -, v4⟩ := hu
      refine ok_m (ih n u (x4 + 1) v1.1 (op_u v1 oa) (op_u v1 of) (fun h' hh' => ?_) (by omega) (by omega) (by omega)) (fun w hw => ⟨⟨hw.1.1, gr_t v1.2.1 hw.1.2.1, hw.1.2.2.trans v1.2.2⟩, hw.2⟩)
      rw [v2.2.2.1, q1] at hh'
      cases hh'
      omega
theorem ok_openAgain {x2 : Int32} {a : Nat} (hn : 1000001 ≤ n0) (hg : GI c 0 σ) (hx : x2.toInt ≤ 140) (oa : OP c σ a) : Ok (f_X8_openAgain n0 σ c.L (some a) x2) (fun r => AG c σ r) := by
  obtain ⟨b, -, d, ⟨b1, b2⟩, -, d1, d2⟩ := gi_f hg (op_k hg oa)
  obtain ⟨y, hy⟩ := ok_numberAt (x := 0) hg.ww b2
  unfold f_X8_openAgain
  refine ok_bq rfl (ok_qv (ok_qb b1 (ok_bre hy (ok_bd (ok_open hg (fun e he => by rw [d1] at he; cases he; exact d2)) (fun r u hu => ?_)))))
  have u1 : UP c 0 σ u := hu.1
  refine ok_oc (fun _ => ok_some ⟨u1, fun g eg => by cases eg⟩) (fun f ef => ?_)
  obtain ⟨g1, g2, g3⟩ := hu.2 f ef
  refine ok_m (ok_again_l hn hx 1000 n0 u 1 g1 (op_u u1 oa) g2 g3 (by decide) (by decide) (by omega)) (fun w hw => ⟨up_t u1 hw.1, hw.2⟩)
theorem ok_eventsAhead {f : Nat} (hg : GI c 0 σ) (hf : sx_K σ f = 2) : ∃ r, f_X0_eventsAheadOfEnd σ f = some r ∧ r.toInt ≤ 140 := by
  obtain ⟨h, -, -, ⟨h1, h2⟩, -⟩ := gi_f hg hf
  obtain ⟨e, he⟩ := ok_hasEnded hg hf
  have h9 := hg.ha h h2
  have k : Ok (f_X0_eventsAheadOfEnd σ f) (fun r => r.toInt ≤ 140) := by
    unfold f_X0_eventsAheadOfEnd
    refine ok_bre he (ok_ite (fun _ => ok_qb h1 (ok_bre rfl (ok_some h9.2.2))) (fun _ => ok_qb h1 (ok_bre rfl (ok_some ?_))))
    rw [n_sub1 (by omega)]
    omega
  exact k
theorem ok_reset_l (hn : 1000001 ≤ n0) {a f : Nat} : ∀ (m n : Nat) (σ : sx_T) (x : Int32), GI c 0 σ → OP c σ a → OP c σ f → 1 ≤ x.toInt → 1000 - x.toInt ≤ m → m < n → Ok (fl_X8_reset_95 n0 n σ c.L (some a) (some f) x) (fun r => UP c 0 σ r.2) := by
  intro m
  induction m with
  | zero =>
    intro n σ x hg oa of h1 h2 h3
    obtain ⟨n, rfl⟩ : ∃ k, n = k + 1 := ⟨n - 1, by omega⟩
    obtain ⟨b, -, -, ⟨b1, b2⟩, -⟩ := gi_f hg (op_k hg oa)
    have h9 := hg.ha b b2
    unfold fl_X8_reset_95
    exact ok_bq rfl (ok_qb b1 (ok_bre rfl (ok_p (by rw [n_le]; omega) (ok_bq rfl (ok_some (up_r hg))))))
  | succ m ih =>
    intro n σ x hg oa of h1 h2 h3
    obtain ⟨n, rfl⟩ : ∃ k, n = k + 1 := ⟨n - 1, by omega⟩
    obtain ⟨b, -, -, ⟨b1, b2⟩, -⟩ := gi_f hg (op_k hg oa)
    have h9 := hg.ha b b2
    unfold fl_X8_reset_95
    refine ok_bq rfl (ok_qb b1 (ok_bre rfl (ok_ite (fun _ => ok_bq rfl (ok_some (up_r hg))) (fun c1 => ?_))))
    rw [n_le] at c1
    have e1 : (x + 1).toInt = x.toInt + 1 := n_add1 (by omega) (by omega)
    have go : ∀ u, UP c 0 σ u → Ok (fl_X8_reset_95 n0 n u c.L (some a) (some f) (x + 1)) (fun r => UP c 0 σ r.2) := fun u hu => ok_m (ih n u (x + 1) hu.1 (op_u hu oa) (op_u hu of) (by omega) (by omega) (by omega)) (fun w hw => up_t hu hw)
    obtain ⟨r, hr, -⟩ := ok_kB (x := x) hg b2
    obtain ⟨y, hy⟩ := ok_numberAt (x := x) hg.ww b2
    exact ok_qb b1 (ok_bre hr (ok_ite (fun _ => ok_qb b1 (ok_bre hy (ok_bd (ok_send hn hg of) (fun r u hu => go u hu)))) (fun _ => go σ (up_r hg))))
theorem ok_reset {x1 x2 : Int32} (hn : 1000001 ≤ n0) (hg : GI c 0 σ) : Ok (f_X8_reset n0 σ c.L x1 x2) (fun r => UP c 0 σ r.2) := by
  unfold f_X8_reset
  refine ok_br (ok_flowAt hg) (fun r hr => ok_oc (fun _ => ok_some (up_r hg)) (fun a ea => ok_ite (fun _ => ok_some (up_r hg)) (fun c1 => ?_)))
  have oa := hr a ea
  have ka := op_k hg oa
  obtain ⟨e, he, he2⟩ := ok_eventsAhead hg ka
  obtain ⟨w, hw⟩ := ok_hasEnded hg ka
  rw [n_lt, l_1] at c1
  refine ok_bre he (ok_ite (fun c2 => ok_bre hw (ok_ite (fun _ => ok_some (up_r hg)) (fun _ => ?_))) (fun _ => ok_some (up_r hg)))
  rw [n_le] at c2
  refine ok_bd (ok_canLead hn hg ka (by omega)) (fun r u hu => ?_)
  have u1 : UP c 0 σ u := hu
  refine ok_ite (fun _ => ok_some u1) (fun _ => ok_bd (ok_openAgain hn u1.1 (by omega) (op_u u1 oa)) (fun r v hv => ?_))
  have u2 : UP c 0 σ v := up_t u1 hv.1
  unfold fb_X8_reset_69
  refine ok_oc (fun _ => ok_some u2) (fun f ef => ?_)
  have of : OP c v f := hv.2 f ef
  refine ok_br (ok_goOn hn u2.1 (fun b eb => by cases eb; exact of)) (fun w hw => ?_)
  have u3 := up_t u2 hw
  exact ok_m (ok_reset_l hn 1000 n0 w x2 u3.1 (op_u u3 oa) (op_u hw of) (by omega) (by omega) (by omega)) (fun z hz => up_t u3 hz)
end G20
