section G5
variable {c : CP} {s : Int} {σ : sx_T} {t n0 : Nat}
theorem ok_servedAt {x : Int32} (hg : GI c s σ) : ∃ r, f_X8_servedAt σ c.L x = some r := by
  obtain ⟨a, ha, hka, hna⟩ := ww_r hg.ww (k := 1) hg.kL rfl rfl (by decide)
  have h1 : Ok (f_X8_servedAt σ c.L x) (fun _ => True) := by
    unfold f_X8_servedAt
    refine ok_ite (fun _ => ok_some trivial) (fun c1 => ok_qb ha (ok_ite (fun _ => ok_some trivial) (fun c3 => ok_qb ha (ok_ck ?_ (ok_some trivial)))))
    rw [n_lt, l_0] at c1
    rw [n_le, n_ofNat hna] at c3
    omega
  obtain ⟨r, hr, -⟩ := h1
  exact ⟨r, hr⟩
theorem ok_isAhead {a b : Nat} (hg : GI c s σ) (ha : sx_K σ a = 9) (hb : sx_K σ b = 9) : ∃ r, f_X8_isAhead σ c.L (some a) (some b) = some r := by
  obtain ⟨f, hf, of⟩ := gi_t hg ha
  obtain ⟨f', hf', of'⟩ := gi_t hg hb
  obtain ⟨-, -, d, -, -, hd, -⟩ := gi_f hg (op_k hg of)
  obtain ⟨-, -, d', -, -, hd', -⟩ := gi_f hg (op_k hg of')
  have h1 : Ok (f_X8_isAhead σ c.L (some a) (some b)) (fun _ => True) := by
    obtain ⟨r1, h1⟩ := ok_servedAt (x := sx_I σ d 0) hg
    obtain ⟨r2, h2⟩ := ok_servedAt (x := sx_I σ d' 0) hg
    unfold f_X8_isAhead
    exact ok_bq rfl (ok_qb hf (ok_qb hd (ok_bq rfl (ok_qb hf' (ok_qb hd' (ok_ite (fun _ => ok_ite (fun _ => ok_some trivial) (fun _ => ok_some trivial)) (fun _ => ok_bre h1 (ok_bre h2 (ok_ite (fun _ => ok_some trivial) (fun _ => ok_ite (fun _ => ok_ite (fun _ => ok_some trivial) (fun _ => ok_some trivial)) (fun _ => ok_some trivial)))))))))))
  obtain ⟨r, hr, -⟩ := h1
  exact ⟨r, hr⟩
theorem ok_serve {x : Int32} (hg : GI c s σ) : Ok (f_X8_serve σ c.L x) (fun u => UP c s σ u) := by
  obtain ⟨a, ha, hka, hna⟩ := ww_r hg.ww (k := 1) hg.kL rfl rfl (by decide)
  unfold f_X8_serve
  refine ok_ite (fun _ => ok_some (up_r hg)) (fun c1 => ok_qb ha (ok_ite (fun _ => ok_some (up_r hg)) (fun c3 => ok_qb ha (ok_ck ?_ (ok_some (gi_I hg (Or.inr (Or.inr (Or.inr (Or.inl ⟨hka, c.L, 1, by rw [hg.kL]; decide, by rw [hg.kL]; decide, ha⟩))))))))))
  rw [n_lt, l_0] at c1
  rw [n_le, n_ofNat hna] at c3
  omega
theorem ok_poll_l : ∀ (m n : Nat) (v1 : Option Nat) (x2 : Int32), GI c s σ → (∀ a, v1 = some a → sx_K σ a = 9) → 0 ≤ x2.toInt → 40 - x2.toInt ≤ m → m < n → Ok (fl_X8_poll_4 n0 n σ c.L v1 x2) (fun r => UP c s σ r.2) := by
  have fin : ∀ (v1 : Option Nat), GI c s σ → (∀ a, v1 = some a → sx_K σ a = 9) → Ok (oc v1 (
        some ((-1), σ)
      ) fun a2 =>
        br (f_X7_run (wx_I σ c.L 9 ((sx_I σ c.L 9) + 1)) a2 ((sx_I σ c.L 9) + 1) ((sx_I σ c.L 8) + 6)) fun u5 =>
        qv (sx_R u5 a2 1) fun w7 =>
        bq w7 fun a8 =>
        qv (sx_R u5 a8 3) fun w9 =>
        bq w9 fun a10 =>
        br (f_X8_serve u5 c.L (sx_I u5 a10 0)) fun u12 =>
        some (sx_I u12 c.L 9, u12)) (fun r => UP c s σ r.2) := by
    intro v1 hg hv
    refine ok_oc (fun _ => ok_some (up_r hg)) (fun a e => ?_)
    have hk := hv a e
    obtain ⟨f, hf, of⟩ := gi_t hg hk
    obtain ⟨-, -, d, -, -, hd, -⟩ := gi_f hg (op_k hg of)
    have u1 : UP c s σ (wx_I σ c.L 9 (sx_I σ c.L 9 + 1)) := gi_I hg (Or.inr (Or.inr (Or.inr (Or.inr ⟨hg.kL, by decide, by decide⟩))))
    have u2 := up_t u1 (gi_I (a := a) (k := 3) (x := 1) u1.1 (Or.inr (Or.inr (Or.inl hk))))
    have u3 := up_t u2 (gi_I (a := a) (k := 5) (x := sx_I σ c.L 9 + 1) u2.1 (Or.inr (Or.inr (Or.inl hk))))
    have u4 := up_t u3 (gi_I (a := a) (k := 6) (x := sx_I σ c.L 8 + 6) u3.1 (Or.inr (Or.inr (Or.inl hk))))
    exact ok_bre rfl (ok_qb hf (ok_qb hd (ok_br (ok_serve u4.1) (fun u hu => ok_some (up_t u4 hu)))))
  intro m
  induction m with
  | zero =>
    intro n v1 x2 hg hv h0 h1 h2
    obtain ⟨n, rfl⟩ : ∃ k, n = k + 1 := ⟨n - 1, by omega⟩
    have hF := hg.fc
    unfold nF at hF
    unfold fl_X8_poll_4
    exact ok_p (by rw [n_le]; omega) (fin v1 hg hv)
  | succ m ih =>
    intro n v1 x2 hg hv h0 h1 h2
    obtain ⟨n, rfl⟩ : ∃ k, n = k + 1 := ⟨n - 1, by omega⟩
    have hF := hg.fc
    unfold nF at hF
    unfold fl_X8_poll_4
    refine ok_ite (fun _ => fin v1 hg hv) (fun c1 => ?_)
    rw [n_le] at c1
    have e1 : (x2 + 1).toInt = x2.toInt + 1 := n_add1 (by omega) (by omega)
    have go := fun v hv' => ih n v (x2 + 1) hg hv' (by omega) (by omega) (by omega)
    refine ok_br (ok_movingTask hg) (fun r hr => ok_oc (fun _ => go v1 hv) (fun a e => ok_oc (fun _ => go _ (fun b eb => by cases eb; exact hr a e)) (fun b eb => ?_)))
    obtain ⟨r9, h9⟩ := ok_isAhead hg (hr a e) (hv b eb)
    exact ok_bre h9 (ok_ite (fun _ => go _ (fun d ed => by cases ed; exact hv b eb)) (fun _ => go _ (fun d ed => by cases ed; exact hr a e)))
theorem ok_poll (hn : 1000001 ≤ n0) (hg : GI c s σ) : Ok (f_X8_poll n0 σ c.L) (fun r => UP c s σ r.2) :=
  ok_poll_l 40 n0 none 0 hg (fun a e => by cases e) (by decide) (by decide) (by omega)
/-- tasks end -/
theorem ok_close {a : Nat} (hg : GI c s σ) (hk : sx_K σ a = 9) : Ok (f_X7_close σ a) (fun u => UP c s σ u ∧ sx_K u = sx_K σ ∧ (∀ b k, sx_K σ b ≠ 9 → sx_I u b k = sx_I σ b k) ∧ (∀ b k, k ≠ 7 → sx_R u b k = sx_R σ b k)) := by
  obtain ⟨f, hf, of⟩ := gi_t hg hk
  have hkf := op_k hg of
  have u1 := gi_I (a := a) (k := 3) (x := 3) hg (Or.inr (Or.inr (Or.inl hk)))
  have u2 := up_t u1 (gi_I (a := a) (k := 6) (x := 0) u1.1 (Or.inr (Or.inr (Or.inl hk))))
  have u3 := up_t u2 (gi_R (a := f) (k := 7) (v := none) u2.1 (Or.inl ⟨hkf, Or.inr rfl⟩) (fun r e => by cases e) (fun e => by have e : nn (sx_K σ f) 7 = true := e; rw [hkf] at e; cases e) (fun _ r e => by cases e))
  unfold f_X7_close
  refine ok_qb hf (ok_some ⟨u3, rfl, fun b k hb => ?_, fun b k hb => ?_⟩)
  · have hba : b ≠ a := fun e => hb (by rw [e]; exact hk)
    rw [gI_R, gI_I, if_neg (fun e => hba e.1), gI_I, if_neg (fun e => hba e.1)]
  · rw [gR_R, if_neg (fun e => hb e.2), gR_I, gR_I]
theorem hx_u {h : Nat} {s' : Int} {u : sx_T} (hu : UP c s' σ u) (h0 : HX c σ h) : HX c u h := by
  obtain ⟨j, h1, h2, h3⟩ := h0
  have := hu.2.1.fm
  exact ⟨j, h1, by omega, h3⟩
theorem ok_finish {a : Nat} {x1 x2 : Int32} (hg : GI c s σ) (hk : sx_K σ a = 9) (hx : x1 = 2 ∨ x1 = 3) : Ok (f_X7_finish σ a x1 x2) (fun u => UP c s σ u) := by
  obtain ⟨f, hf, of⟩ := gi_t hg hk
  unfold f_X7_finish
  refine ok_br (ok_close hg hk) (fun u hu => ?_)
  have hf' : sx_R u a 1 = some f := by rw [hu.2.2.2 a 1 (by decide)]; exact hf
  have of' := op_u hu.1 of
  obtain ⟨h, -, -, ⟨h1, h2⟩, -⟩ := gi_f hu.1.1 (op_k hu.1.1 of')
  refine ok_qb hf' (ok_qb h1 (ok_br (ok_add hu.1.1 (op_h hu.1.1 of' h1) ?_) (fun v hv => ok_some (up_t hu.1 hv.1))))
  rcases hx with rfl | rfl
  · exact fun e => absurd e (by decide)
  · exact fun e => absurd e (by decide)
theorem ok_loseTry {a : Nat} {x1 : Int32} (hg : GI c s σ) (hk : sx_K σ a = 9) : Ok (f_X7_loseTry σ a x1) (fun u => UP c s σ u) := by
  have u1 := gi_I (a := a) (k := 4) (x := sx_I σ a 4 + 1) hg (Or.inr (Or.inr (Or.inl hk)))
  unfold f_X7_loseTry
  refine ok_ite (fun _ => ok_some ?_) (fun _ => ok_br (ok_finish u1.1 hk (Or.inr rfl)) (fun u hu => ok_some (up_t u1 hu)))
  have u2 := up_t u1 (gi_I (a := a) (k := 3) (x := 2) u1.1 (Or.inr (Or.inr (Or.inl hk))))
  exact up_t u2 (gi_I (a := a) (k := 6) u2.1 (Or.inr (Or.inr (Or.inl hk))))
/-- lines -/
theorem ok_addLast {l : Nat} {v1 : Option Nat} (hg : GI c s σ) (hk : sx_K σ l = 4) (hv : ∀ f, v1 = some f → OP c σ f) : Ok (f_X2_addLast σ l v1) (fun u => UP c s σ u) := by
  obtain ⟨a, ha, hka, hna⟩ := ww_r hg.ww (k := 0) hk rfl rfl (by decide)
  have hka' : sx_K σ a = 15 := hka
  have haf := (hg.la l a hk ha).1
  unfold f_X2_addLast
  refine ok_oc (fun _ => ok_some (up_r hg)) (fun f e => ok_ite (fun _ => ok_some (up_r hg)) (fun c1 => ok_qb ha (ok_ite (fun _ => ok_some (up_r hg)) (fun c3 => ok_qb ha (ok_ck ?_ (ok_some ?_))))))
  · rw [n_lt, l_0] at c1
    rw [n_le, n_ofNat hna] at c3
    omega
  · have of := hv f e
    have u1 := gi_R (a := a) (k := ti (sx_I σ l 2)) (v := some f) hg (Or.inr (Or.inr ⟨hka', haf⟩)) (fun r e => by cases e; rw [hka', op_k hg of]; rfl) (fun _ => ⟨f, rfl⟩) (fun _ r e => by cases e; exact of)
    exact up_t u1 (gi_I u1.1 (Or.inr (Or.inl hk)))
theorem ok_isEmpty {l : Nat} : ∃ r, f_X2_isEmpty σ l = some r := by
  unfold f_X2_isEmpty
  split
  · exact ⟨_, rfl⟩
  · exact ⟨_, rfl⟩
theorem ok_removeFirst {l : Nat} (hg : GI c s σ) (hk : sx_K σ l = 4) : Ok (f_X2_removeFirst σ l) (fun r => UP c s σ r.2 ∧ ∀ f, r.1 = some f → OP c σ f) := by
  obtain ⟨a, ha, hka, hna⟩ := ww_r hg.ww (k := 0) hk rfl rfl (by decide)
  have u1 := gi_I (a := l) (k := 1) (x := 0) hg (Or.inr (Or.inl hk))
  have u2 := up_t u1 (gi_I (a := l) (k := 2) (x := 0) u1.1 (Or.inr (Or.inl hk)))
  have k30 : Ok (fb_X2_removeFirst_30 σ l) (fun r => UP c s σ r.2 ∧ ∀ f, r.1 = some f → OP c σ f) := ok_some ⟨u2, fun f e => by cases e⟩
  unfold f_X2_removeFirst
  refine ok_ite (fun _ => k30) (fun c1 => ok_ite (fun _ => k30) (fun c2 => ok_qb ha (ok_ite (fun c3 => ok_qb ha (ok_ck ?_ (ok_qv (ok_some ⟨gi_I hg (Or.inr (Or.inl hk)), fun f e => (hg.la l a hk ha).2 _ f e⟩)))) (fun _ => k30))))
  rw [n_lt, l_0] at c1
  rw [n_lt, n_ofNat hna] at c3
  omega
theorem ok_last {l : Nat} (hg : GI c s σ) (hk : sx_K σ l = 4) : Ok (f_X2_last σ l) (fun r => ∀ f, r = some f → OP c σ f) := by
  obtain ⟨a, ha, hka, hna⟩ := ww_r hg.ww (k := 0) hk rfl rfl (by decide)
  unfold f_X2_last
  refine ok_ite (fun _ => ok_some (fun f e => by cases e)) (fun c1 => ok_ite (fun _ => ok_some (fun f e => by cases e)) (fun c2 => ok_qb ha (ok_ite (fun _ => ok_some (fun f e => by cases e)) (fun c3 => ok_qb ha (ok_ck ?_ (ok_qv (ok_some (fun f e => (hg.la l a hk ha).2 _ f e))))))))
  rw [n_lt, l_0] at c2
  rw [n_le, n_ofNat hna] at c3
  omega
theorem ok_removeLast {l : Nat} (hg : GI c s σ) (hk : sx_K σ l = 4) : Ok (f_X2_removeLast σ l) (fun u => UP c s σ u ∧ ∀ b k, b ≠ l → sx_I u b k = sx_I σ b k) := by
  unfold f_X2_removeLast
  exact ok_ite (fun _ => ok_some ⟨up_r hg, fun _ _ _ => rfl⟩) (fun _ => ok_some ⟨gi_I hg (Or.inr (Or.inl hk)), fun b k hb => by rw [gI_I, if_neg (fun e => hb e.1)]⟩)
theorem ok_wfa {r : Nat} : ∃ x, f_X5_waitsForActivity σ r = some x := by
  unfold f_X5_waitsForActivity
  split
  · exact ⟨_, rfl⟩
  · split
    · exact ⟨_, rfl⟩
    · exact ⟨_, rfl⟩
/-- a task is let go: runs, histories stand -/
theorem ok_letGo {f : Nat} (hg : GI c s σ) (hk : sx_K σ f = 2) : Ok (f_X0_letGo σ f) (fun u => UP c s σ u ∧ sx_K u = sx_K σ ∧ (∀ b k, sx_K σ b ≠ 9 → sx_I u b k = sx_I σ b k) ∧ (∀ b k, k ≠ 7 → sx_R u b k = sx_R σ b k)) := by
  obtain ⟨-, r, -, -, ⟨h3, h4⟩, -⟩ := gi_f hg hk
  have st : UP c s σ σ ∧ sx_K σ = sx_K σ ∧ (∀ b k, sx_K σ b ≠ 9 → sx_I σ b k = sx_I σ b k) ∧ (∀ b k, k ≠ 7 → sx_R σ b k = sx_R σ b k) := ⟨up_r hg, rfl, fun _ _ _ => rfl, fun _ _ _ => rfl⟩
  obtain ⟨x, hx⟩ := ok_wfa (σ := σ) (r := r)
  unfold f_X0_letGo
  refine ok_qv (ok_oc (fun _ => ok_some st) (fun a e => ok_qb h3 (ok_ite (fun _ => ok_qb h3 (ok_bre hx (ok_ite (fun _ => ok_br (ok_close hg ?_) (fun u hu => ok_some hu)) (fun _ => ok_some st)))) (fun _ => ok_some st))))
  have h9 := hg.ww.2.1 f 7 a (by rw [hk]; decide) e
  rw [hk] at h9
  exact h9
theorem ok_wantsEvent {r : Nat} : ∃ x, f_X5_wantsEvent σ r = some x ∧ (x ≠ 0 → (sx_I σ r 19).toInt = 0 ∧ (sx_I σ r 16).toInt ≠ -1) := by
  unfold f_X5_wantsEvent
  by_cases c1 : sx_I σ r 19 = 0
  · rw [if_pos c1]
    by_cases c2 : sx_I σ r 16 = -1
    · rw [if_pos c2]; exact ⟨0, rfl, fun e => absurd rfl e⟩
    · rw [if_neg c2]; exact ⟨1, rfl, fun _ => ⟨q_0.mp c1, fun e => c2 (q_m1.mpr e)⟩⟩
  · rw [if_neg c1]; exact ⟨0, rfl, fun e => absurd rfl e⟩
end G5
