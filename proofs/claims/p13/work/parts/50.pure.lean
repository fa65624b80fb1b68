/-! THE MODEL: where its rows lie -/
section M1
variable {m : Nat} {σ v u : sx_T}
def mo_L : List (Nat × Nat × Nat) := [(3, 1, 120), (4, 2, 120), (5, 3, 120), (7, 4, 41), (8, 5, 41), (9, 6, 41), (10, 7, 41), (11, 8, 41), (12, 9, 41), (13, 10, 41), (14, 11, 6560), (15, 12, 6560), (17, 13, 2100), (18, 14, 2100), (19, 15, 2100), (20, 16, 2100), (21, 17, 2100), (22, 18, 2100), (25, 19, 6), (33, 20, 20), (40, 21, 160), (41, 22, 160), (42, 23, 50), (44, 24, 400), (46, 25, 400)]
def ST (m : Nat) (σ : sx_T) : Prop := ∀ k j n, (k, j, n) ∈ mo_L → sx_R σ m k = some (m + j) ∧ sx_N σ (m + j) = n
theorem ST.r3 (h : ST m σ) : sx_R σ m 3 = some (m + 1) := (h 3 1 120 (by decide)).1
theorem ST.n1 (h : ST m σ) : sx_N σ (m + 1) = 120 := (h 3 1 120 (by decide)).2
theorem ST.r4 (h : ST m σ) : sx_R σ m 4 = some (m + 2) := (h 4 2 120 (by decide)).1
theorem ST.n2 (h : ST m σ) : sx_N σ (m + 2) = 120 := (h 4 2 120 (by decide)).2
theorem ST.r5 (h : ST m σ) : sx_R σ m 5 = some (m + 3) := (h 5 3 120 (by decide)).1
theorem ST.n3 (h : ST m σ) : sx_N σ (m + 3) = 120 := (h 5 3 120 (by decide)).2
theorem ST.r7 (h : ST m σ) : sx_R σ m 7 = some (m + 4) := (h 7 4 41 (by decide)).1
theorem ST.n4 (h : ST m σ) : sx_N σ (m + 4) = 41 := (h 7 4 41 (by decide)).2
theorem ST.r8 (h : ST m σ) : sx_R σ m 8 = some (m + 5) := (h 8 5 41 (by decide)).1
theorem ST.n5 (h : ST m σ) : sx_N σ (m + 5) = 41 := (h 8 5 41 (by decide)).2
theorem ST.r9 (h : ST m σ) : sx_R σ m 9 = some (m + 6) := (h 9 6 41 (by decide)).1
theorem ST.n6 (h : ST m σ) : sx_N σ (m + 6) = 41 := (h 9 6 41 (by decide)).2
theorem ST.r10 (h : ST m σ) : sx_R σ m 10 = some (m + 7) := (h 10 7 41 (by decide)).1
theorem ST.n7 (h : ST m σ) : sx_N σ (m + 7) = 41 := (h 10 7 41 (by decide)).2
theorem ST.r11 (h : ST m σ) : sx_R σ m 11 = some (m + 8) := (h 11 8 41 (by decide)).1
theorem ST.n8 (h : ST m σ) : sx_N σ (m + 8) = 41 := (h 11 8 41 (by decide)).2
theorem ST.r12 (h : ST m σ) : sx_R σ m 12 = some (m + 9) := (h 12 9 41 (by decide)).1
theorem ST.n9 (h : ST m σ) : sx_N σ (m + 9) = 41 := (h 12 9 41 (by decide)).2
theorem ST.r13 (h : ST m σ) : sx_R σ m 13 = some (m + 10) := (h 13 10 41 (by decide)).1
theorem ST.n10 (h : ST m σ) : sx_N σ (m + 10) = 41 := (h 13 10 41 (by decide)).2
theorem ST.r14 (h : ST m σ) : sx_R σ m 14 = some (m + 11) := (h 14 11 6560 (by decide)).1
theorem ST.n11 (h : ST m σ) : sx_N σ (m + 11) = 6560 := (h 14 11 6560 (by decide)).2
theorem ST.r15 (h : ST m σ) : sx_R σ m 15 = some (m + 12) := (h 15 12 6560 (by decide)).1
theorem ST.n12 (h : ST m σ) : sx_N σ (m + 12) = 6560 := (h 15 12 6560 (by decide)).2
theorem ST.r17 (h : ST m σ) : sx_R σ m 17 = some (m + 13) := (h 17 13 2100 (by decide)).1
theorem ST.n13 (h : ST m σ) : sx_N σ (m + 13) = 2100 := (h 17 13 2100 (by decide)).2
theorem ST.r18 (h : ST m σ) : sx_R σ m 18 = some (m + 14) := (h 18 14 2100 (by decide)).1
theorem ST.n14 (h : ST m σ) : sx_N σ (m + 14) = 2100 := (h 18 14 2100 (by decide)).2
theorem ST.r19 (h : ST m σ) : sx_R σ m 19 = some (m + 15) := (h 19 15 2100 (by decide)).1
theorem ST.n15 (h : ST m σ) : sx_N σ (m + 15) = 2100 := (h 19 15 2100 (by decide)).2
theorem ST.r20 (h : ST m σ) : sx_R σ m 20 = some (m + 16) := (h 20 16 2100 (by decide)).1
theorem ST.n16 (h : ST m σ) : sx_N σ (m + 16) = 2100 := (h 20 16 2100 (by decide)).2
theorem ST.r21 (h : ST m σ) : sx_R σ m 21 = some (m + 17) := (h 21 17 2100 (by decide)).1
theorem ST.n17 (h : ST m σ) : sx_N σ (m + 17) = 2100 := (h 21 17 2100 (by decide)).2
theorem ST.r22 (h : ST m σ) : sx_R σ m 22 = some (m + 18) := (h 22 18 2100 (by decide)).1
theorem ST.n18 (h : ST m σ) : sx_N σ (m + 18) = 2100 := (h 22 18 2100 (by decide)).2
theorem ST.r25 (h : ST m σ) : sx_R σ m 25 = some (m + 19) := (h 25 19 6 (by decide)).1
theorem ST.n19 (h : ST m σ) : sx_N σ (m + 19) = 6 := (h 25 19 6 (by decide)).2
theorem ST.r33 (h : ST m σ) : sx_R σ m 33 = some (m + 20) := (h 33 20 20 (by decide)).1
theorem ST.n20 (h : ST m σ) : sx_N σ (m + 20) = 20 := (h 33 20 20 (by decide)).2
theorem ST.r40 (h : ST m σ) : sx_R σ m 40 = some (m + 21) := (h 40 21 160 (by decide)).1
theorem ST.n21 (h : ST m σ) : sx_N σ (m + 21) = 160 := (h 40 21 160 (by decide)).2
theorem ST.r41 (h : ST m σ) : sx_R σ m 41 = some (m + 22) := (h 41 22 160 (by decide)).1
theorem ST.n22 (h : ST m σ) : sx_N σ (m + 22) = 160 := (h 41 22 160 (by decide)).2
theorem ST.r42 (h : ST m σ) : sx_R σ m 42 = some (m + 23) := (h 42 23 50 (by decide)).1
theorem ST.n23 (h : ST m σ) : sx_N σ (m + 23) = 50 := (h 42 23 50 (by decide)).2
theorem ST.r44 (h : ST m σ) : sx_R σ m 44 = some (m + 24) := (h 44 24 400 (by decide)).1
theorem ST.n24 (h : ST m σ) : sx_N σ (m + 24) = 400 := (h 44 24 400 (by decide)).2
theorem ST.r46 (h : ST m σ) : sx_R σ m 46 = some (m + 25) := (h 46 25 400 (by decide)).1
theorem ST.n25 (h : ST m σ) : sx_N σ (m + 25) = 400 := (h 46 25 400 (by decide)).2
def MC (m : Nat) : Nat → Prop := fun a => m ≤ a ∧ a ≤ m + 25
theorem mc_0 : MC m m := ⟨Nat.le_refl _, by omega⟩
theorem mc_j {j : Nat} (h : j ≤ 25) : MC m (m + j) := ⟨by omega, by omega⟩
theorem st_f {A : Nat → Prop} (h : FA A σ u) (hs : ST m σ) : ST m u := by
  intro k j n hk
  rw [h.2.2.1, h.2.1]
  exact hs k j n hk
/-- fields and rows that the replaying of a history leaves -/
def kpf (k : Nat) : Bool := k == 0 || k == 1 || k == 6 || k == 16 || k == 43
def kpr (j : Nat) : Bool := (1 ≤ j && j ≤ 8) || j == 10 || j == 11 || j == 13 || j == 23 || j == 24
def KP (m : Nat) (σ u : sx_T) : Prop := FA (MC m) σ u ∧ (∀ k, kpf k = true → sx_I u m k = sx_I σ m k) ∧ (∀ j, kpr j = true → ∀ k, sx_I u (m + j) k = sx_I σ (m + j) k) ∧ ∀ a k, sx_J u a k = sx_J σ a k
theorem kp_r : KP m σ σ := ⟨fa_r, fun _ _ => rfl, fun _ _ _ => rfl, fun _ _ => rfl⟩
theorem kp_t (h1 : KP m σ v) (h2 : KP m v u) : KP m σ u := ⟨fa_t h1.1 h2.1, fun k hk => (h2.2.1 k hk).trans (h1.2.1 k hk), fun j hj k => (h2.2.2.1 j hj k).trans (h1.2.2.1 j hj k), fun a k => (h2.2.2.2 a k).trans (h1.2.2.2 a k)⟩
theorem kp_m {k : Nat} {x : Int32} (h : KP m σ u) (hk : kpf k = false) : KP m σ (wx_I u m k x) := by
  refine kp_t h ⟨fa_I mc_0, fun j hj => ?_, fun j hj i => ?_, fun _ _ => rfl⟩
  · rw [gI_I, if_neg]
    rintro ⟨-, e⟩
    rw [e, hk] at hj
    cases hj
  · rw [gI_I, if_neg]
    rintro ⟨e, -⟩
    have : j = 0 := by omega
    rw [this] at hj
    cases hj
theorem kp_a {j k : Nat} {x : Int32} (h : KP m σ u) (hj : kpr j = false) (h1 : 1 ≤ j) (h2 : j ≤ 25) : KP m σ (wx_I u (m + j) k x) := by
  refine kp_t h ⟨fa_I (mc_j h2), fun i hi => ?_, fun i hi q => ?_, fun _ _ => rfl⟩
  · rw [gI_I, if_neg]
    rintro ⟨e, -⟩
    omega
  · rw [gI_I, if_neg]
    rintro ⟨e, -⟩
    have : i = j := by omega
    rw [this, hj] at hi
    cases hi
/-! numbers -/
theorem n_160 {w a : Int32} (h0 : 0 ≤ w.toInt) (h1 : w.toInt ≤ 40) (h2 : -1 ≤ a.toInt) (h3 : a.toInt ≤ 1000) : (160 * w + a).toInt = 160 * w.toInt + a.toInt := by
  have e : (160 : Int32).toInt = 160 := by decide
  have e1 : (160 * w).toInt = 160 * w.toInt := by
    rw [Int32.toInt_mul, e, Int.bmod_eq_of_le] <;> omega
  rw [n_add (by omega) (by omega), e1]
theorem n_20 {w a : Int32} (h0 : 0 ≤ w.toInt) (h1 : w.toInt ≤ 40) (h2 : -1 ≤ a.toInt) (h3 : a.toInt ≤ 1000) : (20 * w + a).toInt = 20 * w.toInt + a.toInt := by
  have e1 : (20 * w).toInt = 20 * w.toInt := by
    rw [Int32.toInt_mul, l_20, Int.bmod_eq_of_le] <;> omega
  rw [n_add (by omega) (by omega), e1]
theorem ti_160 {w a : Int32} (h0 : 0 ≤ w.toInt) (h1 : w.toInt ≤ 40) (h2 : 0 ≤ a.toInt) (h3 : a.toInt ≤ 1000) : ti (160 * w + a) = 160 * ti w + ti a := by
  have := n_160 h0 h1 (by omega) h3
  unfold ti
  omega
theorem n_160o {w : Int32} (h0 : 0 ≤ w.toInt) (h1 : w.toInt ≤ 40) : (160 * w).toInt = 160 * w.toInt := by
  have e : (160 : Int32).toInt = 160 := by decide
  rw [Int32.toInt_mul, e, Int.bmod_eq_of_le] <;> omega
theorem of_ti {x : Int32} (h : 0 ≤ x.toInt) (h2 : x.toInt ≤ 1000000) : Int32.ofNat (ti x) = x := by
  apply Int32.toInt_inj.mp
  rw [n_ofNat (by unfold ti; omega)]
  exact ti_of h
theorem jr_20 {x : Int32} (h : 0 ≤ x.toInt) (h2 : x.toInt ≤ 99) : 0 ≤ (jrem x 20).toInt ∧ (jrem x 20).toInt ≤ 19 := by
  have k : ∀ n, n < 100 → 0 ≤ (jrem (Int32.ofNat n) 20).toInt ∧ (jrem (Int32.ofNat n) 20).toInt ≤ 19 := by decide +kernel
  have := k (ti x) (by unfold ti; omega)
  rw [of_ti h (by omega)] at this
  exact this
theorem jr_6 {x : Int32} (h : 0 ≤ x.toInt) (h2 : x.toInt ≤ 99) : 0 ≤ (jrem x 6).toInt ∧ (jrem x 6).toInt ≤ 5 := by
  have k : ∀ n, n < 100 → 0 ≤ (jrem (Int32.ofNat n) 6).toInt ∧ (jrem (Int32.ofNat n) 6).toInt ≤ 5 := by decide +kernel
  have := k (ti x) (by unfold ti; omega)
  rw [of_ti h (by omega)] at this
  exact this
/-! what holds of it -/
def mE (m : Nat) (σ : sx_T) (w : Nat) : Int := (sx_I σ (m + 8) w).toInt
def mW (m : Nat) (σ : sx_T) : Int := (sx_I σ m 6).toInt
def mT (m : Nat) (σ : sx_T) : Int := (sx_I σ m 16).toInt
def cn (m : Nat) (σ : sx_T) (x : Int32) (w : Nat) : Nat → Int
  | 0 => 0
  | n + 1 => cn m σ x w n + if sx_I σ (m + 11) (160 * w + n) = x then 1 else 0
def wt (m : Nat) (σ : sx_T) (w : Nat) : Int := cn m σ 1 w (mE m σ w).toNat + cn m σ 11 w (mE m σ w).toNat + if sx_I σ (m + 10) w = -1 then 0 else 1
def PW (m : Nat) (σ : sx_T) (w : Nat) : Prop :=
  (0 ≤ (sx_I σ (m + 4) w).toInt ∧ (sx_I σ (m + 4) w).toInt ≤ 5) ∧
  (-1 ≤ (sx_I σ (m + 5) w).toInt ∧ (sx_I σ (m + 5) w).toInt ≤ 39) ∧
  (0 ≤ mE m σ w ∧ mE m σ w ≤ 140) ∧
  (∀ k : Nat, (k : Int) < mE m σ w → (sx_I σ (m + 11) (160 * w + k) = 6 ∨ sx_I σ (m + 11) (160 * w + k) = 12) → k < 90) ∧
  cn m σ 1 w (mE m σ w).toNat ≤ 30 ∧ cn m σ 11 w (mE m σ w).toNat ≤ 20
def MI (m : Nat) (s : Int) (σ : sx_T) : Prop :=
  (ST m σ) ∧
  (0 ≤ mW m σ ∧ mW m σ ≤ 40) ∧
  (∀ w, w < 41 → PW m σ w) ∧
  (∀ w : Nat, (w : Int) < mW m σ → (sx_I σ (m + 5) w).toInt < mW m σ) ∧
  (∀ w : Nat, w < 40 → mW m σ ≤ w → mE m σ w = 0) ∧
  (0 ≤ s ∧ 0 ≤ mT m σ ∧ mT m σ + s ≤ sumC (wt m σ) (mW m σ).toNat) ∧
  (∀ t : Nat, (t : Int) < mT m σ → 0 ≤ (sx_I σ (m + 13) t).toInt ∧ (sx_I σ (m + 13) t).toInt < mW m σ) ∧
  (∀ k : Nat, k < 120 → (0 ≤ (sx_I σ (m + 2) k).toInt ∧ (sx_I σ (m + 2) k).toInt ≤ 99) ∧ 0 ≤ (sx_I σ (m + 1) k).toInt ∧ (sx_I σ (m + 1) k).toInt ≤ 17)
theorem MI.st {s : Int} (h : MI m s σ) : ST m σ := h.1
theorem MI.wf {s : Int} (h : MI m s σ) : 0 ≤ mW m σ ∧ mW m σ ≤ 40 := h.2.1
theorem MI.pw {s : Int} (h : MI m s σ) : ∀ w, w < 41 → PW m σ w := h.2.2.1
theorem MI.pa {s : Int} (h : MI m s σ) : ∀ w : Nat, (w : Int) < mW m σ → (sx_I σ (m + 5) w).toInt < mW m σ := h.2.2.2.1
theorem MI.e0 {s : Int} (h : MI m s σ) : ∀ w : Nat, w < 40 → mW m σ ≤ w → mE m σ w = 0 := h.2.2.2.2.1
theorem MI.tk {s : Int} (h : MI m s σ) : 0 ≤ s ∧ 0 ≤ mT m σ ∧ mT m σ + s ≤ sumC (wt m σ) (mW m σ).toNat := h.2.2.2.2.2.1
theorem MI.ow {s : Int} (h : MI m s σ) : ∀ t : Nat, (t : Int) < mT m σ → 0 ≤ (sx_I σ (m + 13) t).toInt ∧ (sx_I σ (m + 13) t).toInt < mW m σ := h.2.2.2.2.2.2.1
theorem MI.fi {s : Int} (h : MI m s σ) : ∀ k : Nat, k < 120 → (0 ≤ (sx_I σ (m + 2) k).toInt ∧ (sx_I σ (m + 2) k).toInt ≤ 99) ∧ 0 ≤ (sx_I σ (m + 1) k).toInt ∧ (sx_I σ (m + 1) k).toInt ≤ 17 := h.2.2.2.2.2.2.2
theorem cn_e {x : Int32} {w : Nat} : ∀ n, (∀ k, k < n → sx_I u (m + 11) (160 * w + k) = sx_I σ (m + 11) (160 * w + k)) → cn m u x w n = cn m σ x w n := by
  intro n
  induction n with
  | zero => intro _; rfl
  | succ n ih =>
    intro h
    show cn m u x w n + _ = cn m σ x w n + _
    rw [ih (fun k hk => h k (by omega)), h n (by omega)]
theorem cn_b {x : Int32} {w : Nat} : ∀ n, 0 ≤ cn m σ x w n ∧ cn m σ x w n ≤ n := by
  intro n
  induction n with
  | zero => exact ⟨Int.le_refl _, Int.le_refl _⟩
  | succ n ih =>
    have e : cn m σ x w (n + 1) = cn m σ x w n + if sx_I σ (m + 11) (160 * w + n) = x then 1 else 0 := rfl
    rw [e]
    split <;> omega
theorem cn_m {x : Int32} {w n : Nat} : ∀ k, cn m σ x w n ≤ cn m σ x w (n + k) := by
  intro k
  induction k with
  | zero => exact Int.le_refl _
  | succ k ih =>
    have e : cn m σ x w (n + (k + 1)) = cn m σ x w (n + k) + if sx_I σ (m + 11) (160 * w + (n + k)) = x then 1 else 0 := rfl
    rw [e]
    split <;> omega
theorem wt_b {s : Int} (h : MI m s σ) {w : Nat} (hw : w < 41) : 0 ≤ wt m σ w ∧ wt m σ w ≤ 51 := by
  obtain ⟨-, -, -, -, h1, h2⟩ := h.pw w hw
  have a1 := cn_b (m := m) (σ := σ) (x := 1) (w := w) (mE m σ w).toNat
  have a2 := cn_b (m := m) (σ := σ) (x := 11) (w := w) (mE m σ w).toNat
  unfold wt
  split <;> omega
theorem mt_b {s : Int} (h : MI m s σ) : mT m σ + s ≤ 2040 := by
  have h1 := h.tk
  have h2 := h.wf
  have h3 := sumC_b (f := wt m σ) (m := 51) (mW m σ).toNat (fun i hi => (wt_b h (by omega)).2)
  omega
theorem mi_le {s s' : Int} (h : MI m s σ) (h1 : s' ≤ s) (h2 : 0 ≤ s') : MI m s' σ := ⟨h.st, h.wf, h.pw, h.pa, h.e0, ⟨h2, h.tk.2.1, by have := h.tk; omega⟩, h.ow, h.fi⟩
/-- what MI speaks of stands -/
theorem mi_q {s : Int} (h : MI m s σ) (hf : FA (MC m) σ u) (h6 : sx_I u m 6 = sx_I σ m 6) (h16 : sx_I u m 16 = sx_I σ m 16) (hr : ∀ j, j = 1 ∨ j = 2 ∨ j = 4 ∨ j = 5 ∨ j = 8 ∨ j = 10 ∨ j = 11 ∨ j = 13 → ∀ k, sx_I u (m + j) k = sx_I σ (m + j) k) : MI m s u := by
  have hW : mW m u = mW m σ := by unfold mW; rw [h6]
  have hT : mT m u = mT m σ := by unfold mT; rw [h16]
  have hE : ∀ w, mE m u w = mE m σ w := fun w => by unfold mE; rw [hr 8 (by omega)]
  have hc : ∀ x w n, cn m u x w n = cn m σ x w n := fun x w n => cn_e n (fun k _ => hr 11 (by omega) _)
  have hwt : wt m u = wt m σ := by funext w; unfold wt; rw [hE, hc, hc, hr 10 (by omega)]
  refine ⟨st_f hf h.st, by rw [hW]; exact h.wf, fun w hw => ?_, ?_, ?_, ?_, ?_, ?_⟩
  · have := h.pw w hw
    unfold PW at this ⊢
    rw [hE, hc, hc, hr 4 (by omega), hr 5 (by omega)]
    refine ⟨this.1, this.2.1, this.2.2.1, fun k => ?_, this.2.2.2.2⟩
    rw [hr 11 (by omega)]
    exact this.2.2.2.1 k
  · intro w hw
    rw [hW] at hw ⊢
    rw [hr 5 (by omega)]
    exact h.pa w hw
  · intro w h1 h2
    rw [hW] at h2
    rw [hE]
    exact h.e0 w h1 h2
  · rw [hT, hW, hwt]; exact h.tk
  · intro t ht
    rw [hT] at ht
    rw [hW, hr 13 (by omega)]
    exact h.ow t ht
  · intro k hk
    rw [hr 2 (by omega), hr 1 (by omega)]
    exact h.fi k hk
theorem mi_kp {s : Int} (h : MI m s σ) (hk : KP m σ u) : MI m s u := mi_q h hk.1 (hk.2.1 6 rfl) (hk.2.1 16 rfl) (fun j hj => hk.2.2.1 j (by rcases hj with rfl | rfl | rfl | rfl | rfl | rfl | rfl | rfl <;> rfl))
/-- what only grows -/
def LW0 (m : Nat) (σ u : sx_T) : Prop :=
  FA (MC m) σ u ∧ (∀ k, k ≤ 1 → sx_I u m k = sx_I σ m k) ∧
  (∀ j, 1 ≤ j → j ≤ 3 → ∀ k, sx_I u (m + j) k = sx_I σ (m + j) k) ∧
  (mW m σ ≤ mW m u ∧ mT m σ ≤ mT m u) ∧
  (∀ w : Nat, (w : Int) < mW m σ → ∀ j, 4 ≤ j → j ≤ 6 → sx_I u (m + j) w = sx_I σ (m + j) w) ∧
  (∀ w, w < 41 → mE m σ w ≤ mE m u w) ∧
  (∀ w, w < 41 → ∀ k : Nat, (k : Int) < mE m σ w → sx_I u (m + 11) (160 * w + k) = sx_I σ (m + 11) (160 * w + k) ∧ sx_J u (m + 12) (160 * w + k) = sx_J σ (m + 12) (160 * w + k)) ∧
  (∀ t : Nat, (t : Int) < mT m σ → sx_I u (m + 13) t = sx_I σ (m + 13) t)
/-- what is made has an event -/
def LW (m : Nat) (σ u : sx_T) : Prop := LW0 m σ u ∧ ∀ w : Nat, w < 41 → mW m σ ≤ w → (w : Int) < mW m u → 1 ≤ mE m u w
theorem LW.fa (h : LW m σ u) : FA (MC m) σ u := h.1.1
theorem LW.nw (h : LW m σ u) : sx_I u m 1 = sx_I σ m 1 := h.1.2.1 1 (Nat.le_refl 1)
theorem LW.th (h : LW m σ u) : sx_I u m 0 = sx_I σ m 0 := h.1.2.1 0 (Nat.zero_le 1)
theorem LW.co (h : LW m σ u) : ∀ j, 1 ≤ j → j ≤ 3 → ∀ k, sx_I u (m + j) k = sx_I σ (m + j) k := h.1.2.2.1
theorem LW.up (h : LW m σ u) : mW m σ ≤ mW m u ∧ mT m σ ≤ mT m u := h.1.2.2.2.1
theorem LW.pr (h : LW m σ u) : ∀ w : Nat, (w : Int) < mW m σ → ∀ j, 4 ≤ j → j ≤ 6 → sx_I u (m + j) w = sx_I σ (m + j) w := h.1.2.2.2.2.1
theorem LW.ev (h : LW m σ u) : ∀ w, w < 41 → mE m σ w ≤ mE m u w := h.1.2.2.2.2.2.1
theorem LW.hi (h : LW m σ u) : ∀ w, w < 41 → ∀ k : Nat, (k : Int) < mE m σ w → sx_I u (m + 11) (160 * w + k) = sx_I σ (m + 11) (160 * w + k) ∧ sx_J u (m + 12) (160 * w + k) = sx_J σ (m + 12) (160 * w + k) := h.1.2.2.2.2.2.2.1
theorem LW.ow (h : LW m σ u) : ∀ t : Nat, (t : Int) < mT m σ → sx_I u (m + 13) t = sx_I σ (m + 13) t := h.1.2.2.2.2.2.2.2
theorem lw0_r : LW0 m σ σ := ⟨fa_r, fun _ _ => rfl, fun _ _ _ _ => rfl, ⟨Int.le_refl _, Int.le_refl _⟩, fun _ _ _ _ _ => rfl, fun _ _ => Int.le_refl _, fun _ _ _ _ => ⟨rfl, rfl⟩, fun _ _ => rfl⟩
theorem lw_r : LW m σ σ := ⟨lw0_r, fun w _ h1 h2 => by omega⟩
theorem lw0_t (h1 : LW0 m σ v) (h2 : LW0 m v u) : LW0 m σ u := by
  obtain ⟨a1, a2, a3, a4, a5, a6, a7, a8⟩ := h1
  obtain ⟨b1, b2, b3, b4, b5, b6, b7, b8⟩ := h2
  refine ⟨fa_t a1 b1, fun k hk => (b2 k hk).trans (a2 k hk), fun j p q k => (b3 j p q k).trans (a3 j p q k), ⟨by omega, by omega⟩, fun w hw j p q => (b5 w (by omega) j p q).trans (a5 w hw j p q), fun w hw => Int.le_trans (a6 w hw) (b6 w hw), fun w hw k hk => ?_, fun t ht => (b8 t (by omega)).trans (a8 t ht)⟩
  have e1 := a7 w hw k hk
  have e2 := b7 w hw k (by have := a6 w hw; omega)
  exact ⟨e2.1.trans e1.1, e2.2.trans e1.2⟩
theorem lw_t (h1 : LW m σ v) (h2 : LW m v u) : LW m σ u := by
  refine ⟨lw0_t h1.1 h2.1, fun w hw p q => ?_⟩
  by_cases e : (w : Int) < mW m v
  · exact Int.le_trans (h1.2 w hw p e) (h2.ev w hw)
  · exact h2.2 w hw (by omega) q
def LR (m : Nat) (σ u : sx_T) : Prop := LW m σ u ∧ sx_I u m 43 = sx_I σ m 43 ∧ ∀ j, j = 7 ∨ j = 23 ∨ j = 24 → ∀ k, sx_I u (m + j) k = sx_I σ (m + j) k
/-- a workflow more, with no event yet -/
def LR0 (m : Nat) (σ u : sx_T) : Prop := LW0 m σ u ∧ sx_I u m 43 = sx_I σ m 43 ∧ ∀ j, j = 7 ∨ j = 23 ∨ j = 24 → ∀ k, sx_I u (m + j) k = sx_I σ (m + j) k
theorem lr0_t (h1 : LR0 m σ v) (h2 : LR m v u) (h : ∀ w : Nat, w < 41 → mW m σ ≤ w → (w : Int) < mW m u → 1 ≤ mE m u w) : LR m σ u := ⟨⟨lw0_t h1.1 h2.1.1, h⟩, h2.2.1.trans h1.2.1, fun j hj k => (h2.2.2 j hj k).trans (h1.2.2 j hj k)⟩
theorem lr_r : LR m σ σ := ⟨lw_r, rfl, fun _ _ _ => rfl⟩
theorem lr_t (h1 : LR m σ v) (h2 : LR m v u) : LR m σ u := ⟨lw_t h1.1 h2.1, h2.2.1.trans h1.2.1, fun j hj k => (h2.2.2 j hj k).trans (h1.2.2 j hj k)⟩
theorem lr_kp (h : KP m σ u) : LR m σ u := by
  have e6 : mW m u = mW m σ := by unfold mW; rw [h.2.1 6 rfl]
  have e16 : mT m u = mT m σ := by unfold mT; rw [h.2.1 16 rfl]
  have e8 : ∀ w, mE m u w = mE m σ w := fun w => by unfold mE; rw [h.2.2.1 8 rfl]
  refine ⟨⟨⟨h.1, fun k hk => h.2.1 k (by rcases (show k = 0 ∨ k = 1 by omega) with rfl | rfl <;> rfl), fun j p q k => h.2.2.1 j ?_ k, ⟨by omega, by omega⟩, fun w _ j p q => h.2.2.1 j ?_ w, fun w _ => by rw [e8]; exact Int.le_refl _, fun w _ k _ => ⟨h.2.2.1 11 rfl _, h.2.2.2 _ _⟩, fun t _ => h.2.2.1 13 rfl t⟩, fun w _ p q => by omega⟩, h.2.1 43 rfl, fun j hj k => h.2.2.1 j (by rcases hj with rfl | rfl | rfl <;> rfl) k⟩
  · have : j = 1 ∨ j = 2 ∨ j = 3 := by omega
    rcases this with rfl | rfl | rfl <;> rfl
  · have : j = 4 ∨ j = 5 ∨ j = 6 := by omega
    rcases this with rfl | rfl | rfl <;> rfl
end M1
