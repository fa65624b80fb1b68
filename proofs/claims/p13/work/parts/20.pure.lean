/-! PURE: the functions are defined, and keep what holds -/
def Ok {α : Type} (x : Option α) (P : α → Prop) : Prop := ∃ r, x = some r ∧ P r
theorem ok_some {α : Type} {r : α} {P : α → Prop} (h : P r) : Ok (some r) P := ⟨r, rfl, h⟩
theorem ok_ite {α : Type} {c : Prop} [Decidable c] {a b : Option α} {P : α → Prop} (h1 : c → Ok a P) (h2 : ¬ c → Ok b P) : Ok (if c then a else b) P := by
  by_cases h : c
  · rw [if_pos h]; exact h1 h
  · rw [if_neg h]; exact h2 h
theorem ok_p {α : Type} {c : Prop} [Decidable c] {a b : Option α} {P : α → Prop} (h : c) (h1 : Ok a P) : Ok (if c then a else b) P := by rw [if_pos h]; exact h1
theorem ok_n {α : Type} {c : Prop} [Decidable c] {a b : Option α} {P : α → Prop} (h : ¬ c) (h1 : Ok b P) : Ok (if c then a else b) P := by rw [if_neg h]; exact h1
theorem ok_qv {α : Type} {v : Option Nat} {k : Option Nat → Option α} {P : α → Prop} (h : Ok (k v) P) : Ok (qv v k) P := h
theorem ok_qn {α : Type} {v : Nat} {k : Nat → Option α} {P : α → Prop} (h : Ok (k v) P) : Ok (qn v k) P := h
theorem ok_bq {α : Type} {v : Option Nat} {a : Nat} {k : Nat → Option α} {P : α → Prop} (e : v = some a) (h : Ok (k a) P) : Ok (bq v k) P := by subst e; exact h
theorem ok_qb {α : Type} {v : Option Nat} {a : Nat} {k : Nat → Option α} {P : α → Prop} (e : v = some a) (h : Ok (k a) P) : Ok (qv v fun w => bq w k) P := by subst e; exact h
theorem ok_br {α β : Type} {x : Option α} {k : α → Option β} {Q : α → Prop} {P : β → Prop} (h1 : Ok x Q) (h2 : ∀ r, Q r → Ok (k r) P) : Ok (br x k) P := by
  obtain ⟨r, rfl, hq⟩ := h1
  exact h2 r hq
theorem ok_bre {α β : Type} {x : Option α} {r : α} {k : α → Option β} {P : β → Prop} (h1 : x = some r) (h2 : Ok (k r) P) : Ok (br x k) P := by subst h1; exact h2
theorem ok_bd {α β : Type} {x : Option (α × sx_T)} {k : α → sx_T → Option β} {Q : α × sx_T → Prop} {P : β → Prop} (h1 : Ok x Q) (h2 : ∀ r u, Q (r, u) → Ok (k r u) P) : Ok (bd x k) P := by
  obtain ⟨⟨r, u⟩, rfl, hq⟩ := h1
  exact h2 r u hq
theorem ok_ck {α : Type} {i : Int32} {n : Nat} {k : Option α} {P : α → Prop} (h : 0 ≤ i.toInt ∧ i.toInt < (n : Int)) (h1 : Ok k P) : Ok (ck i n k) P := by unfold ck; rw [if_pos h]; exact h1
theorem ok_oc {α : Type} {v : Option Nat} {a : Option α} {k : Nat → Option α} {P : α → Prop} (h1 : v = none → Ok a P) (h2 : ∀ r, v = some r → Ok (k r) P) : Ok (oc v a k) P := by
  cases v with
  | none => exact h1 rfl
  | some r => exact h2 r rfl
theorem ok_nz {α : Type} {y : Int32} {k : Option α} {P : α → Prop} (h : ¬ y = 0) (h1 : Ok k P) : Ok (nz y k) P := by unfold nz; rw [if_neg h]; exact h1
theorem ok_gk {α : Type} {σ : sx_T} {a kd : Nat} {k : Option α} {P : α → Prop} (h : sx_K σ a = kd) (h1 : Ok k P) : Ok (gk σ a kd k) P := by unfold gk; rw [if_pos h]; exact h1
theorem ok_lim {α : Type} {x : Int32} {k : Option α} {P : α → Prop} (h : 0 ≤ x.toInt ∧ x.toInt ≤ 100000) (h1 : Ok k P) : Ok (lim x k) P := by unfold lim; rw [if_pos h]; exact h1
theorem ok_m {α : Type} {x : Option α} {Q P : α → Prop} (h1 : Ok x Q) (h2 : ∀ r, Q r → P r) : Ok x P := by
  obtain ⟨r, e, h⟩ := h1
  exact ⟨r, e, h2 r h⟩
/-! numbers -/
theorem n_lt {x y : Int32} : x < y ↔ x.toInt < y.toInt := Int32.lt_iff_toInt_lt
theorem n_le {x y : Int32} : x ≤ y ↔ x.toInt ≤ y.toInt := Int32.le_iff_toInt_le
theorem n_eq {x y : Int32} : x = y ↔ x.toInt = y.toInt := Int32.toInt_inj.symm
theorem n_add {x y : Int32} (h1 : -2147483648 ≤ x.toInt + y.toInt) (h2 : x.toInt + y.toInt < 2147483648) : (x + y).toInt = x.toInt + y.toInt := by
  rw [Int32.toInt_add]
  rw [Int.bmod_eq_of_le] <;> omega
theorem n_sub {x y : Int32} (h1 : -2147483648 ≤ x.toInt - y.toInt) (h2 : x.toInt - y.toInt < 2147483648) : (x - y).toInt = x.toInt - y.toInt := by
  rw [Int32.toInt_sub]
  rw [Int.bmod_eq_of_le] <;> omega
theorem n_add1 {x : Int32} (h1 : -2147483648 ≤ x.toInt) (h2 : x.toInt < 2147483647) : (x + 1).toInt = x.toInt + 1 := by
  have e : (1 : Int32).toInt = 1 := by decide
  rw [n_add (by omega) (by omega), e]
theorem n_sub1 {x : Int32} (h1 : -2147483648 < x.toInt) : (x - 1).toInt = x.toInt - 1 := by
  have e : (1 : Int32).toInt = 1 := by decide
  have := Int32.toInt_lt x
  rw [n_sub (by omega) (by omega), e]
theorem n_ofNat {n : Nat} (h : n ≤ 1000000) : (Int32.ofNat n).toInt = (n : Int) := Int32.toInt_ofNat_of_lt (by omega)
theorem l_0 : (0 : Int32).toInt = 0 := by decide
theorem l_1 : (1 : Int32).toInt = 1 := by decide
theorem l_m1 : (-1 : Int32).toInt = -1 := by decide
theorem l_20 : (20 : Int32).toInt = 20 := by decide
theorem l_60 : (60 : Int32).toInt = 60 := by decide
theorem l_90 : (90 : Int32).toInt = 90 := by decide
theorem l_40 : (40 : Int32).toInt = 40 := by decide
theorem ti_of {x : Int32} (h : 0 ≤ x.toInt) : ((ti x : Nat) : Int) = x.toInt := by unfold ti; omega
/-! what refs are there -/
def nn : Nat → Nat → Bool
  | 1, 1 => true
  | 2, 1 => true
  | 2, 2 => true
  | 2, 3 => true
  | 3, 0 => true
  | 3, 1 => true
  | 4, 0 => true
  | 5, 0 => true
  | 6, 1 => true
  | 6, 2 => true
  | 6, 3 => true
  | 7, 0 => true
  | 7, 1 => true
  | 7, 2 => true
  | 7, 3 => true
  | 8, 0 => true
  | 9, 1 => true
  | 10, 0 => true
  | 10, 1 => true
  | 10, 2 => true
  | 10, 3 => true
  | 10, 4 => true
  | 10, 5 => true
  | 10, 6 => true
  | _, _ => false
/-- refs are there and of their kinds; no array is too long -/
def WW (σ : sx_T) : Prop := (∀ a k, nn (sx_K σ a) k = true → ∃ r, sx_R σ a k = some r) ∧ (∀ a k r, ty_r (sx_K σ a) k ≠ 0 → sx_R σ a k = some r → sx_K σ r = ty_r (sx_K σ a) k) ∧ ∀ a, sx_K σ a ≠ 0 → sx_N σ a ≤ 1000000
theorem ww_r {σ : sx_T} (h : WW σ) {a kd k kd' : Nat} (hk : sx_K σ a = kd) (hn : nn kd k = true) (ht : ty_r kd k = kd') (h0 : kd' ≠ 0) : ∃ r, sx_R σ a k = some r ∧ sx_K σ r = kd' ∧ sx_N σ r ≤ 1000000 := by
  subst hk
  subst ht
  obtain ⟨r, hr⟩ := h.1 a k hn
  have h2 := h.2.1 a k r h0 hr
  exact ⟨r, hr, h2, h.2.2 r (by rw [h2]; exact h0)⟩
/-- only ints and longs at some addresses have changed -/
def FA (A : Nat → Prop) (σ u : sx_T) : Prop := sx_K u = sx_K σ ∧ sx_N u = sx_N σ ∧ sx_R u = sx_R σ ∧ sx_Z u = sx_Z σ ∧ sx_S u = sx_S σ ∧ (∀ a, ¬ A a → ∀ k, sx_I u a k = sx_I σ a k) ∧ ∀ a, ¬ A a → ∀ k, sx_J u a k = sx_J σ a k
theorem fa_r {A : Nat → Prop} {σ : sx_T} : FA A σ σ := ⟨rfl, rfl, rfl, rfl, rfl, fun _ _ _ => rfl, fun _ _ _ => rfl⟩
theorem fa_t {A : Nat → Prop} {σ v u : sx_T} (h1 : FA A σ v) (h2 : FA A v u) : FA A σ u := by
  obtain ⟨a1, a2, a3, a4, a5, a6, a7⟩ := h1
  obtain ⟨b1, b2, b3, b4, b5, b6, b7⟩ := h2
  exact ⟨b1.trans a1, b2.trans a2, b3.trans a3, b4.trans a4, b5.trans a5, fun a ha k => (b6 a ha k).trans (a6 a ha k), fun a ha k => (b7 a ha k).trans (a7 a ha k)⟩
theorem fa_I {A : Nat → Prop} {σ : sx_T} {a k : Nat} {x : Int32} (h : A a) : FA A σ (wx_I σ a k x) := ⟨rfl, rfl, rfl, rfl, rfl, fun b hb j => ux_a (fun e => hb (by rw [e]; exact h)), fun _ _ _ => rfl⟩
theorem fa_J {A : Nat → Prop} {σ : sx_T} {a k : Nat} {x : Int64} (h : A a) : FA A σ (wx_J σ a k x) := ⟨rfl, rfl, rfl, rfl, rfl, fun _ _ _ => rfl, fun b hb j => ux_a (fun e => hb (by rw [e]; exact h))⟩
theorem fa_m {A B : Nat → Prop} {σ u : sx_T} (h : FA A σ u) (hm : ∀ a, A a → B a) : FA B σ u := ⟨h.1, h.2.1, h.2.2.1, h.2.2.2.1, h.2.2.2.2.1, fun a ha => h.2.2.2.2.2.1 a (fun q => ha (hm a q)), fun a ha => h.2.2.2.2.2.2 a (fun q => ha (hm a q))⟩
theorem ww_f {A : Nat → Prop} {σ u : sx_T} (h : FA A σ u) (hw : WW σ) : WW u := by
  obtain ⟨a1, a2, a3, -⟩ := h
  unfold WW at hw ⊢
  rw [a1, a2, a3]
  exact hw
/-! reads of writes, as equations for simp -/
theorem gI_I {σ : sx_T} {a k b j : Nat} {x : Int32} : sx_I (wx_I σ a k x) b j = if b = a ∧ j = k then x else sx_I σ b j := rfl
theorem gI_J {σ : sx_T} {a k b j : Nat} {x : Int64} : sx_I (wx_J σ a k x) b j = sx_I σ b j := rfl
theorem gI_R {σ : sx_T} {a k b j : Nat} {x : Option Nat} : sx_I (wx_R σ a k x) b j = sx_I σ b j := rfl
theorem gJ_J {σ : sx_T} {a k b j : Nat} {x : Int64} : sx_J (wx_J σ a k x) b j = if b = a ∧ j = k then x else sx_J σ b j := rfl
theorem gJ_I {σ : sx_T} {a k b j : Nat} {x : Int32} : sx_J (wx_I σ a k x) b j = sx_J σ b j := rfl
theorem gJ_R {σ : sx_T} {a k b j : Nat} {x : Option Nat} : sx_J (wx_R σ a k x) b j = sx_J σ b j := rfl
theorem gR_R {σ : sx_T} {a k b j : Nat} {x : Option Nat} : sx_R (wx_R σ a k x) b j = if b = a ∧ j = k then x else sx_R σ b j := rfl
theorem gR_I {σ : sx_T} {a k b j : Nat} {x : Int32} : sx_R (wx_I σ a k x) b j = sx_R σ b j := rfl
theorem gR_J {σ : sx_T} {a k b j : Nat} {x : Int64} : sx_R (wx_J σ a k x) b j = sx_R σ b j := rfl
theorem gK_I {σ : sx_T} {a k b : Nat} {x : Int32} : sx_K (wx_I σ a k x) b = sx_K σ b := rfl
theorem gK_J {σ : sx_T} {a k b : Nat} {x : Int64} : sx_K (wx_J σ a k x) b = sx_K σ b := rfl
theorem gK_R {σ : sx_T} {a k b : Nat} {x : Option Nat} : sx_K (wx_R σ a k x) b = sx_K σ b := rfl
theorem gN_I {σ : sx_T} {a k b : Nat} {x : Int32} : sx_N (wx_I σ a k x) b = sx_N σ b := rfl
theorem gN_J {σ : sx_T} {a k b : Nat} {x : Int64} : sx_N (wx_J σ a k x) b = sx_N σ b := rfl
theorem gN_R {σ : sx_T} {a k b : Nat} {x : Option Nat} : sx_N (wx_R σ a k x) b = sx_N σ b := rfl
/-! the histories, piles, signals, programs -/
theorem ok_kindAt {σ : sx_T} {h : Nat} {x : Int32} (hw : WW σ) (hk : sx_K σ h = 3) : ∃ (a : Nat) (r : Int32), sx_R σ h 0 = some a ∧ f_X1_kindAt σ h x = some r ∧ (r = -1 ∨ (0 ≤ x.toInt ∧ x.toInt < (sx_I σ h 2).toInt ∧ r = sx_I σ a (ti x))) := by
  obtain ⟨a, ha, hka, hna⟩ := ww_r hw (k := 0) hk rfl rfl (by decide)
  refine ⟨a, ?_⟩
  unfold f_X1_kindAt
  by_cases c1 : x < 0
  · exact ⟨-1, ha, by rw [if_pos c1], Or.inl rfl⟩
  rw [if_neg c1]
  by_cases c2 : sx_I σ h 2 ≤ x
  · exact ⟨-1, ha, by rw [if_pos c2], Or.inl rfl⟩
  rw [if_neg c2, ha]
  show ∃ r, some a = some a ∧ (if Int32.ofNat (sx_N σ a) ≤ x then some (-1) else ck x (sx_N σ a) (some (sx_I σ a (ti x)))) = some r ∧ _
  by_cases c3 : Int32.ofNat (sx_N σ a) ≤ x
  · exact ⟨-1, rfl, by rw [if_pos c3], Or.inl rfl⟩
  rw [if_neg c3]
  rw [n_lt, l_0] at c1
  rw [n_le] at c2
  rw [n_le, n_ofNat hna] at c3
  refine ⟨_, rfl, ?_, Or.inr ⟨by omega, by omega, rfl⟩⟩
  unfold ck
  rw [if_pos ⟨by omega, by omega⟩]
theorem ok_numberAt {σ : sx_T} {h : Nat} {x : Int32} (hw : WW σ) (hk : sx_K σ h = 3) : ∃ r : Int64, f_X1_numberAt σ h x = some r := by
  obtain ⟨a, ha, hka, hna⟩ := ww_r hw (k := 1) hk rfl rfl (by decide)
  unfold f_X1_numberAt
  by_cases c1 : x < 0
  · exact ⟨0, by rw [if_pos c1]⟩
  rw [if_neg c1]
  by_cases c2 : sx_I σ h 2 ≤ x
  · exact ⟨0, by rw [if_pos c2]⟩
  rw [if_neg c2, ha]
  show ∃ r, (if Int32.ofNat (sx_N σ a) ≤ x then some 0 else ck x (sx_N σ a) (some (sx_J σ a (ti x)))) = some r
  by_cases c3 : Int32.ofNat (sx_N σ a) ≤ x
  · exact ⟨0, by rw [if_pos c3]⟩
  rw [if_neg c3]
  rw [n_lt, l_0] at c1
  rw [n_le, n_ofNat hna] at c3
  refine ⟨sx_J σ a (ti x), ?_⟩
  unfold ck
  rw [if_pos ⟨by omega, by omega⟩]
theorem ok_fmod {σ : sx_T} {x : Int64} : ∃ r : Int64, f_J9_floorMod_f86c9 σ x 10 = some r := by
  unfold f_J9_floorMod_f86c9
  rw [if_neg (by decide)]
  split
  · exact ⟨_, rfl⟩
  · split
    · exact ⟨_, rfl⟩
    · exact ⟨_, rfl⟩
theorem ok_fdiv {σ : sx_T} {x : Int64} : ∃ r : Int64, f_J9_floorDiv_f86c9 σ x 10 = some r := by
  unfold f_J9_floorDiv_f86c9
  rw [if_neg (by decide)]
  split
  · exact ⟨_, rfl⟩
  · split
    · exact ⟨_, rfl⟩
    · exact ⟨_, rfl⟩
theorem ok_prog {σ : sx_T} {c : Nat} {x : Int32} (hw : WW σ) (hk : sx_K σ c = 6) : (∃ r, f_X4_operation σ c x = some r) ∧ (∃ r, f_X4_first σ c x = some r) ∧ ∃ r, f_X4_second σ c x = some r := by
  obtain ⟨a1, h1, -, n1⟩ := ww_r hw (k := 1) hk rfl rfl (by decide)
  obtain ⟨a2, h2, -, n2⟩ := ww_r hw (k := 2) hk rfl rfl (by decide)
  obtain ⟨a3, h3, -, n3⟩ := ww_r hw (k := 3) hk rfl rfl (by decide)
  unfold f_X4_operation f_X4_first f_X4_second
  by_cases c1 : x < 0
  · rw [if_pos c1, if_pos c1, if_pos c1]
    exact ⟨⟨_, rfl⟩, ⟨_, rfl⟩, ⟨_, rfl⟩⟩
  rw [if_neg c1, if_neg c1, if_neg c1, h1, h2, h3]
  rw [n_lt, l_0] at c1
  have key : ∀ (a : Nat), sx_N σ a ≤ 1000000 → ∃ r : Int32, (if Int32.ofNat (sx_N σ a) ≤ x then some 0 else ck x (sx_N σ a) (some (sx_I σ a (ti x)))) = some r := by
    intro a hn
    by_cases c2 : Int32.ofNat (sx_N σ a) ≤ x
    · rw [if_pos c2]
      exact ⟨0, rfl⟩
    · rw [if_neg c2]
      rw [n_le, n_ofNat hn] at c2
      refine ⟨sx_I σ a (ti x), ?_⟩
      unfold ck
      rw [if_pos ⟨by omega, by omega⟩]
  exact ⟨key a1 n1, key a2 n2, key a3 n3⟩
/-! literals -/
theorem q_0 {x : Int32} : x = 0 ↔ x.toInt = 0 := by rw [n_eq]; exact Iff.rfl
theorem q_1 {x : Int32} : x = 1 ↔ x.toInt = 1 := by rw [n_eq]; exact Iff.rfl
theorem q_2 {x : Int32} : x = 2 ↔ x.toInt = 2 := by rw [n_eq]; exact Iff.rfl
theorem q_3 {x : Int32} : x = 3 ↔ x.toInt = 3 := by rw [n_eq]; exact Iff.rfl
theorem q_4 {x : Int32} : x = 4 ↔ x.toInt = 4 := by rw [n_eq]; exact Iff.rfl
theorem q_5 {x : Int32} : x = 5 ↔ x.toInt = 5 := by rw [n_eq]; exact Iff.rfl
theorem q_6 {x : Int32} : x = 6 ↔ x.toInt = 6 := by rw [n_eq]; exact Iff.rfl
theorem q_7 {x : Int32} : x = 7 ↔ x.toInt = 7 := by rw [n_eq]; exact Iff.rfl
theorem q_8 {x : Int32} : x = 8 ↔ x.toInt = 8 := by rw [n_eq]; exact Iff.rfl
theorem q_9 {x : Int32} : x = 9 ↔ x.toInt = 9 := by rw [n_eq]; exact Iff.rfl
theorem q_10 {x : Int32} : x = 10 ↔ x.toInt = 10 := by rw [n_eq]; exact Iff.rfl
theorem q_11 {x : Int32} : x = 11 ↔ x.toInt = 11 := by rw [n_eq]; exact Iff.rfl
theorem q_12 {x : Int32} : x = 12 ↔ x.toInt = 12 := by rw [n_eq]; exact Iff.rfl
theorem q_13 {x : Int32} : x = 13 ↔ x.toInt = 13 := by rw [n_eq]; exact Iff.rfl
theorem q_14 {x : Int32} : x = 14 ↔ x.toInt = 14 := by rw [n_eq]; exact Iff.rfl
theorem q_15 {x : Int32} : x = 15 ↔ x.toInt = 15 := by rw [n_eq]; exact Iff.rfl
theorem q_16 {x : Int32} : x = 16 ↔ x.toInt = 16 := by rw [n_eq]; exact Iff.rfl
theorem q_17 {x : Int32} : x = 17 ↔ x.toInt = 17 := by rw [n_eq]; exact Iff.rfl
theorem q_18 {x : Int32} : x = 18 ↔ x.toInt = 18 := by rw [n_eq]; exact Iff.rfl
theorem q_19 {x : Int32} : x = 19 ↔ x.toInt = 19 := by rw [n_eq]; exact Iff.rfl
theorem q_20 {x : Int32} : x = 20 ↔ x.toInt = 20 := by rw [n_eq]; exact Iff.rfl
theorem q_60 {x : Int32} : x = 60 ↔ x.toInt = 60 := by rw [n_eq]; exact Iff.rfl
theorem q_90 {x : Int32} : x = 90 ↔ x.toInt = 90 := by rw [n_eq]; exact Iff.rfl
theorem q_m1 {x : Int32} : x = -1 ↔ x.toInt = -1 := by rw [n_eq]; exact Iff.rfl
