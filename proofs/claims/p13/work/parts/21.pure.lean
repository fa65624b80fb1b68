/-! PILE, SIGNALS -/
/-- something of the class refers to it -/
def CO (σ : sx_T) (a : Nat) : Prop := ∃ o k, sx_K σ o ≠ 0 ∧ sx_K σ o ≠ 11 ∧ sx_R σ o k = some a
/-- an array of ints of the class -/
def PA (σ : sx_T) (a : Nat) : Prop := sx_K σ a = 13 ∧ CO σ a
theorem ok_push {σ : sx_T} {p : Nat} {x : Int32} (hw : WW σ) (hk : sx_K σ p = 5) (h0 : 0 ≤ (sx_I σ p 1).toInt) (h1 : (sx_I σ p 1).toInt ≤ 1000000) : Ok (f_X3_push σ p x) (fun u => FA (fun a => a = p ∨ PA σ a) σ u ∧ ((sx_I u p 1).toInt = (sx_I σ p 1).toInt ∨ (sx_I u p 1).toInt = (sx_I σ p 1).toInt + 1)) := by
  obtain ⟨a, ha, hka, hna⟩ := ww_r hw (k := 0) hk rfl rfl (by decide)
  have hka' : PA σ a := ⟨hka, p, 0, by rw [hk]; decide, by rw [hk]; decide, ha⟩
  unfold f_X3_push
  refine ok_ite (fun c => ok_some ⟨fa_r, Or.inl rfl⟩) (fun c => ok_qb ha (ok_ite (fun c2 => ok_some ⟨fa_r, Or.inl rfl⟩) (fun c2 => ok_qb ha (ok_ck ?_ (ok_some ⟨?_, Or.inr ?_⟩)))))
  · rw [n_lt, l_0] at c
    rw [n_le, n_ofNat hna] at c2
    omega
  · exact fa_t (fa_I (Or.inr hka')) (fa_I (Or.inl rfl))
  · rw [gI_I, if_pos ⟨rfl, rfl⟩]
    exact n_add1 (by omega) (by omega)
theorem ok_pop {σ : sx_T} {p : Nat} (hw : WW σ) (hk : sx_K σ p = 5) (h0 : 0 ≤ (sx_I σ p 1).toInt) (h1 : (sx_I σ p 1).toInt ≤ 1000000) : Ok (f_X3_pop σ p) (fun q => FA (fun a => a = p) σ q.2 ∧ ((q.1 = -1 ∧ sx_I q.2 p 1 = sx_I σ p 1) ∨ ((sx_I q.2 p 1).toInt = (sx_I σ p 1).toInt - 1 ∧ 0 ≤ (sx_I q.2 p 1).toInt))) := by
  obtain ⟨a, ha, hka, hna⟩ := ww_r hw (k := 0) hk rfl rfl (by decide)
  have e1 : (sx_I σ p 1 - 1).toInt = (sx_I σ p 1).toInt - 1 := n_sub1 (by omega)
  unfold f_X3_pop
  refine ok_ite (fun c => ok_some ⟨fa_r, Or.inl ⟨rfl, rfl⟩⟩) (fun c => ok_qb ha (ok_ite (fun c2 => ok_qb ha (ok_ck ?_ (ok_some ⟨?_, Or.inr ?_⟩))) (fun c2 => ok_some ⟨fa_r, Or.inl ⟨rfl, rfl⟩⟩)))
  · rw [n_lt, l_0] at c
    rw [n_lt, n_ofNat hna] at c2
    omega
  · exact fa_I rfl
  · rw [n_lt, l_0] at c
    show (sx_I (wx_I σ p 1 _) p 1).toInt = _ ∧ 0 ≤ (sx_I (wx_I σ p 1 _) p 1).toInt
    rw [gI_I, if_pos ⟨rfl, rfl⟩]
    omega
theorem ok_keep {σ : sx_T} {q : Nat} {x : Int32} (hw : WW σ) (hk : sx_K σ q = 8) : Ok (f_X6_keep σ q x) (fun u => FA (fun a => a = q ∨ PA σ a) σ u) := by
  obtain ⟨a, ha, hka, hna⟩ := ww_r hw (k := 0) hk rfl rfl (by decide)
  have hka' : PA σ a := ⟨hka, q, 0, by rw [hk]; decide, by rw [hk]; decide, ha⟩
  unfold f_X6_keep
  refine ok_ite (fun c => ok_some fa_r) (fun c => ok_qb ha (ok_ite (fun c2 => ok_some fa_r) (fun c2 => ok_qb ha (ok_ck ?_ (ok_some ?_)))))
  · rw [n_lt, l_0] at c
    rw [n_le, n_ofNat hna] at c2
    omega
  · exact fa_t (fa_I (Or.inr hka')) (fa_I (Or.inl rfl))
theorem ok_find_l {σ : sx_T} {q n0 : Nat} {x : Int32} (hw : WW σ) (hk : sx_K σ q = 8) : ∀ (m n : Nat) (i : Int32), 0 ≤ i.toInt → i.toInt ≤ 1000000 → 1000000 - i.toInt ≤ m → m < n → ∃ r, fl_X6_find_2 n0 n σ q x i = some r := by
  obtain ⟨a, ha, hka, hna⟩ := ww_r hw (k := 0) hk rfl rfl (by decide)
  intro m
  induction m with
  | zero =>
    intro n i h0 h1 h2 h3
    obtain ⟨n, rfl⟩ : ∃ k, n = k + 1 := ⟨n - 1, by omega⟩
    unfold fl_X6_find_2
    by_cases c : sx_I σ q 1 ≤ i
    · exact ⟨_, by rw [if_pos c]⟩
    rw [if_neg c, ha]
    show ∃ r, (if Int32.ofNat (sx_N σ a) ≤ i then some (-1) else _) = some r
    have c2 : Int32.ofNat (sx_N σ a) ≤ i := by
      rw [n_le, n_ofNat hna]
      omega
    exact ⟨_, by rw [if_pos c2]⟩
  | succ m ih =>
    intro n i h0 h1 h2 h3
    obtain ⟨n, rfl⟩ : ∃ k, n = k + 1 := ⟨n - 1, by omega⟩
    unfold fl_X6_find_2
    by_cases c : sx_I σ q 1 ≤ i
    · exact ⟨_, by rw [if_pos c]⟩
    rw [if_neg c, ha]
    by_cases c2 : Int32.ofNat (sx_N σ a) ≤ i
    · exact ⟨-1, by show (if Int32.ofNat (sx_N σ a) ≤ i then some (-1) else _) = _; rw [if_pos c2]⟩
    have c3 := c2
    rw [n_le, n_ofNat hna] at c3
    show ∃ r, (if Int32.ofNat (sx_N σ a) ≤ i then some (-1) else ck i (sx_N σ a) (if sx_I σ a (ti i) / 100 = x then some i else fl_X6_find_2 n0 n σ q x (i + 1))) = some r
    rw [if_neg c2]
    unfold ck
    rw [if_pos ⟨h0, by omega⟩]
    by_cases c4 : sx_I σ a (ti i) / 100 = x
    · exact ⟨i, by rw [if_pos c4]⟩
    rw [if_neg c4]
    have e1 : (i + 1).toInt = i.toInt + 1 := n_add1 (by omega) (by omega)
    exact ih n (i + 1) (by omega) (by omega) (by omega) (by omega)
theorem ok_find {σ : sx_T} {q n0 : Nat} {x : Int32} (hw : WW σ) (hk : sx_K σ q = 8) (hn : 1000001 ≤ n0) : ∃ r, f_X6_find n0 σ q x = some r :=
  ok_find_l hw hk 1000000 n0 0 (by decide) (by decide) (by decide) (by omega)
theorem ok_use_l {q n0 : Nat} {x : Int32} : ∀ (m n : Nat) (σ : sx_T) (i : Int32), WW σ → sx_K σ q = 8 → (∀ a, sx_R σ q 0 = some a → (sx_I σ q 1).toInt ≤ sx_N σ a) → 0 ≤ i.toInt → i.toInt ≤ 1000000 → (sx_I σ q 1).toInt - i.toInt ≤ m → m < n → Ok (fl_X6_use_38 n0 n σ q x i) (fun r => FA (fun a => a = q ∨ PA σ a) σ r.2) := by
  intro m
  induction m with
  | zero =>
    intro n σ i hw hk hN h0 h1 h2 h3
    obtain ⟨n, rfl⟩ : ∃ k, n = k + 1 := ⟨n - 1, by omega⟩
    have e1 : (i + 1).toInt = i.toInt + 1 := n_add1 (by omega) (by omega)
    unfold fl_X6_use_38
    exact ok_p (by rw [n_le, e1]; omega) (ok_some (fa_I (Or.inl rfl)))
  | succ m ih =>
    intro n σ i hw hk hN h0 h1 h2 h3
    obtain ⟨n, rfl⟩ : ∃ k, n = k + 1 := ⟨n - 1, by omega⟩
    obtain ⟨a, ha, hka, hna⟩ := ww_r hw (k := 0) hk rfl rfl (by decide)
    have hka' : PA σ a := ⟨hka, q, 0, by rw [hk]; decide, by rw [hk]; decide, ha⟩
    have hN1 := hN a ha
    have e1 : (i + 1).toInt = i.toInt + 1 := n_add1 (by omega) (by omega)
    have hqa : q ≠ a := fun e => by have h9 := hka'.1; rw [← e, hk] at h9; cases h9
    unfold fl_X6_use_38
    refine ok_ite (fun c => ok_some (fa_I (Or.inl rfl))) (fun c => ok_qv (ok_qv (ok_bq ha (ok_ck ?_ (ok_bq ha (ok_ck ?_ ?_))))))
    · rw [n_le, e1] at c
      omega
    · rw [n_le, e1] at c
      omega
    · rw [n_le, e1] at c
      have hf : FA (fun a => a = q ∨ PA σ a) σ (wx_I σ a (ti i) (sx_I σ a (ti (i + 1)))) := fa_I (Or.inr hka')
      have e2 : sx_I (wx_I σ a (ti i) (sx_I σ a (ti (i + 1)))) q 1 = sx_I σ q 1 := by rw [gI_I, if_neg (fun e => hqa e.1)]
      refine ok_m (ih n _ (i + 1) (ww_f hf hw) hk (by rw [e2]; exact hN) (by omega) (by omega) (by rw [e2]; omega) (by omega)) (fun r hr => fa_t hf hr)
theorem ok_use {σ : sx_T} {q n0 : Nat} {x : Int32} (hw : WW σ) (hk : sx_K σ q = 8) (hn : 1000001 ≤ n0) : Ok (f_X6_use n0 σ q x) (fun r => FA (fun a => a = q ∨ PA σ a) σ r.2) := by
  obtain ⟨a, ha, hka, hna⟩ := ww_r hw (k := 0) hk rfl rfl (by decide)
  unfold f_X6_use
  refine ok_ite (fun c => ok_some fa_r) (fun c => ok_ite (fun c2 => ok_some fa_r) (fun c2 => ok_qb ha (ok_ite (fun c3 => ok_qb ha (ok_ck ?_ ?_)) (fun c3 => ok_some fa_r))))
  · rw [n_lt, l_0] at c
    rw [n_le] at c2
    rw [n_le, n_ofNat hna] at c3
    omega
  · rw [n_lt, l_0] at c
    rw [n_le] at c2
    rw [n_le, n_ofNat hna] at c3
    refine ok_use_l 1000000 n0 σ x hw hk (fun b hb => ?_) (by omega) (by omega) (by omega) (by omega)
    rw [ha] at hb
    cases hb
    exact c3
