/-! ALL OF IT -/
def CP : Type := (Nat → Nat) × (Nat → Nat) × Nat × Nat × Nat
def CP.fx (c : CP) : Nat → Nat := c.1
def CP.hx (c : CP) : Nat → Nat := c.2.1
def CP.fa (c : CP) : Nat := c.2.2.1
def CP.L (c : CP) : Nat := c.2.2.2.1
def CP.w (c : CP) : Nat := c.2.2.2.2
def sumC (f : Nat → Int) : Nat → Int
  | 0 => 0
  | n + 1 => sumC f n + f n
theorem sumC_e {f f' : Nat → Int} : ∀ n, (∀ i, i < n → f' i = f i) → sumC f' n = sumC f n := by
  intro n
  induction n with
  | zero => intro _; rfl
  | succ n ih =>
    intro h
    show sumC f' n + f' n = sumC f n + f n
    rw [ih (fun i hi => h i (by omega)), h n (by omega)]
theorem sumC_1 {f f' : Nat → Int} {j : Nat} {d : Int} : ∀ n, j < n → f' j = f j + d → (∀ i, i < n → i ≠ j → f' i = f i) → sumC f' n = sumC f n + d := by
  intro n
  induction n with
  | zero => intro h; omega
  | succ n ih =>
    intro hj h1 h2
    show sumC f' n + f' n = sumC f n + f n + d
    by_cases e : j = n
    · subst e
      rw [sumC_e j (fun i hi => h2 i (by omega) (by omega)), h1]
      omega
    · rw [ih (by omega) h1 (fun i hi hij => h2 i (by omega) hij), h2 n (by omega) (by omega)]
      omega
theorem sumC_b {f : Nat → Int} {m : Int} : ∀ n : Nat, (∀ i, i < n → f i ≤ m) → sumC f n ≤ n * m := by
  intro n
  induction n with
  | zero => intro _; show (0 : Int) ≤ ((0 : Nat) : Int) * m; simp
  | succ n ih =>
    intro h
    have h1 := ih (fun i hi => h i (by omega))
    have h2 := h n (by omega)
    show sumC f n + f n ≤ ((n + 1 : Nat) : Int) * m
    have e : ((n + 1 : Nat) : Int) * m = (n : Int) * m + m := by
      rw [Int.natCast_succ, Int.add_mul, Int.one_mul]
    omega
/-- how many there are of events, of workflows, of tasks; how long the list's row is -/
def nE (c : CP) (σ : sx_T) : Int := sumC (fun i => (sx_I σ (c.hx i) 2).toInt) 40
def nF (c : CP) (σ : sx_T) : Int := (sx_I σ c.L 7).toInt
def nT (c : CP) (σ : sx_T) : Int := (sx_I σ c.w 2).toInt
def nL (c : CP) (σ : sx_T) : Int := match sx_R σ c.w 1 with
  | some e => (lenE σ e : Int)
  | none => 0
/-- a workflow that was opened -/
def OP (c : CP) (σ : sx_T) (f : Nat) : Prop := ∃ j : Nat, j < 40 ∧ (j : Int) < nF c σ ∧ f = c.fx j
def GI (c : CP) (s : Int) (σ : sx_T) : Prop :=
  (WW σ) ∧
  (∀ a, sx_K σ a ≠ 0 → a < sx_Z σ) ∧
  (sx_K σ c.L = 10) ∧
  (∀ t t' p, sx_K σ t = 7 → sx_K σ t' = 7 → sx_R σ t 0 = some p → sx_R σ t' 0 = some p → t = t') ∧
  (∀ h h' a, sx_K σ h = 3 → sx_K σ h' = 3 → sx_R σ h 0 = some a → sx_R σ h' 0 = some a → h = h') ∧
  (∀ t p, sx_K σ t = 7 → sx_R σ t 0 = some p → RI σ t p) ∧
  (∀ h, sx_K σ h = 3 → HV σ h ∧ 0 ≤ (sx_I σ h 2).toInt ∧ (sx_I σ h 2).toInt ≤ 140) ∧
  (∀ h a, sx_K σ h = 3 → (sx_R σ h 0 = some a ∨ sx_R σ h 1 = some a) → sx_N σ a = 140) ∧
  (∀ i j, i < 40 → j < 40 → c.hx i = c.hx j → i = j) ∧
  (∀ i, i < 40 → sx_K σ (c.fx i) = 2 ∧ sx_K σ (c.hx i) = 3 ∧ sx_R σ (c.fx i) 1 = some (c.hx i) ∧ sx_R σ c.fa i = some (c.fx i)) ∧
  (∀ f, sx_K σ f = 2 → ∃ i, i < 40 ∧ f = c.fx i) ∧
  (sx_R σ c.L 2 = some c.fa ∧ sx_K σ c.fa = 15 ∧ sx_N σ c.fa = 40 ∧ sx_R σ c.L 3 = some c.w ∧ sx_K σ c.w = 1) ∧
  (0 ≤ nF c σ ∧ nF c σ ≤ 40) ∧
  (∀ i : Nat, i < 40 → nF c σ ≤ i → (sx_I σ (c.hx i) 2).toInt = 0) ∧
  (∀ l a, sx_K σ l = 4 → sx_R σ l 0 = some a → a ≠ c.fa ∧ ∀ k f, sx_R σ a k = some f → OP c σ f) ∧
  (∀ t f, sx_K σ t = 9 → sx_R σ t 1 = some f → OP c σ f) ∧
  (∃ e, sx_R σ c.w 1 = some e ∧ (sx_K σ e = 17 ∨ sx_K σ e = 0) ∧ e < sx_Z σ ∧ 0 ≤ nT c σ ∧ nT c σ ≤ nL c σ ∧ nL c σ ≤ 10 + 2 * nT c σ) ∧
  (nT c σ ≤ nE c σ + nF c σ + s)
theorem GI.ww {c : CP} {s : Int} {σ : sx_T} (h : GI c s σ) : WW σ := h.1
theorem GI.zf {c : CP} {s : Int} {σ : sx_T} (h : GI c s σ) : ∀ a, sx_K σ a ≠ 0 → a < sx_Z σ := h.2.1
theorem GI.kL {c : CP} {s : Int} {σ : sx_T} (h : GI c s σ) : sx_K σ c.L = 10 := h.2.2.1
theorem GI.pi {c : CP} {s : Int} {σ : sx_T} (h : GI c s σ) : ∀ t t' p, sx_K σ t = 7 → sx_K σ t' = 7 → sx_R σ t 0 = some p → sx_R σ t' 0 = some p → t = t' := h.2.2.2.1
theorem GI.bi {c : CP} {s : Int} {σ : sx_T} (h : GI c s σ) : ∀ h h' a, sx_K σ h = 3 → sx_K σ h' = 3 → sx_R σ h 0 = some a → sx_R σ h' 0 = some a → h = h' := h.2.2.2.2.1
theorem GI.ra {c : CP} {s : Int} {σ : sx_T} (h : GI c s σ) : ∀ t p, sx_K σ t = 7 → sx_R σ t 0 = some p → RI σ t p := h.2.2.2.2.2.1
theorem GI.ha {c : CP} {s : Int} {σ : sx_T} (h : GI c s σ) : ∀ h, sx_K σ h = 3 → HV σ h ∧ 0 ≤ (sx_I σ h 2).toInt ∧ (sx_I σ h 2).toInt ≤ 140 := h.2.2.2.2.2.2.1
theorem GI.hn {c : CP} {s : Int} {σ : sx_T} (h : GI c s σ) : ∀ h a, sx_K σ h = 3 → (sx_R σ h 0 = some a ∨ sx_R σ h 1 = some a) → sx_N σ a = 140 := h.2.2.2.2.2.2.2.1
theorem GI.inj {c : CP} {s : Int} {σ : sx_T} (h : GI c s σ) : ∀ i j, i < 40 → j < 40 → c.hx i = c.hx j → i = j := h.2.2.2.2.2.2.2.2.1
theorem GI.kf {c : CP} {s : Int} {σ : sx_T} (h : GI c s σ) : ∀ i, i < 40 → sx_K σ (c.fx i) = 2 ∧ sx_K σ (c.hx i) = 3 ∧ sx_R σ (c.fx i) 1 = some (c.hx i) ∧ sx_R σ c.fa i = some (c.fx i) := h.2.2.2.2.2.2.2.2.2.1
theorem GI.af {c : CP} {s : Int} {σ : sx_T} (h : GI c s σ) : ∀ f, sx_K σ f = 2 → ∃ i, i < 40 ∧ f = c.fx i := h.2.2.2.2.2.2.2.2.2.2.1
theorem GI.rf {c : CP} {s : Int} {σ : sx_T} (h : GI c s σ) : sx_R σ c.L 2 = some c.fa ∧ sx_K σ c.fa = 15 ∧ sx_N σ c.fa = 40 ∧ sx_R σ c.L 3 = some c.w ∧ sx_K σ c.w = 1 := h.2.2.2.2.2.2.2.2.2.2.2.1
theorem GI.fc {c : CP} {s : Int} {σ : sx_T} (h : GI c s σ) : 0 ≤ nF c σ ∧ nF c σ ≤ 40 := h.2.2.2.2.2.2.2.2.2.2.2.2.1
theorem GI.nz {c : CP} {s : Int} {σ : sx_T} (h : GI c s σ) : ∀ i : Nat, i < 40 → nF c σ ≤ i → (sx_I σ (c.hx i) 2).toInt = 0 := h.2.2.2.2.2.2.2.2.2.2.2.2.2.1
theorem GI.la {c : CP} {s : Int} {σ : sx_T} (h : GI c s σ) : ∀ l a, sx_K σ l = 4 → sx_R σ l 0 = some a → a ≠ c.fa ∧ ∀ k f, sx_R σ a k = some f → OP c σ f := h.2.2.2.2.2.2.2.2.2.2.2.2.2.2.1
theorem GI.ta {c : CP} {s : Int} {σ : sx_T} (h : GI c s σ) : ∀ t f, sx_K σ t = 9 → sx_R σ t 1 = some f → OP c σ f := h.2.2.2.2.2.2.2.2.2.2.2.2.2.2.2.1
theorem GI.wl {c : CP} {s : Int} {σ : sx_T} (h : GI c s σ) : ∃ e, sx_R σ c.w 1 = some e ∧ (sx_K σ e = 17 ∨ sx_K σ e = 0) ∧ e < sx_Z σ ∧ 0 ≤ nT c σ ∧ nT c σ ≤ nL c σ ∧ nL c σ ≤ 10 + 2 * nT c σ := h.2.2.2.2.2.2.2.2.2.2.2.2.2.2.2.2.1
theorem GI.ws {c : CP} {s : Int} {σ : sx_T} (h : GI c s σ) : nT c σ ≤ nE c σ + nF c σ + s := h.2.2.2.2.2.2.2.2.2.2.2.2.2.2.2.2.2
/-- what is the model's -/
def MO (σ : sx_T) (a : Nat) : Prop := sx_K σ a = 11 ∨ ((sx_K σ a = 13 ∨ sx_K σ a = 14) ∧ ¬ CO σ a)
def GR (c : CP) (σ u : sx_T) : Prop :=
  (∀ a, sx_K σ a ≠ 0 → sx_K u a = sx_K σ a ∧ sx_N u a = sx_N σ a) ∧
  (∀ a, MO σ a → ∀ k, sx_I u a k = sx_I σ a k ∧ sx_J u a k = sx_J σ a k ∧ sx_R u a k = sx_R σ a k) ∧
  (∀ a, sx_K σ a = 13 ∨ sx_K σ a = 14 → CO u a → CO σ a) ∧
  (nF c σ ≤ nF c u) ∧
  ((sx_Z u : Int) + 2 * nT c σ ≤ sx_Z σ + 2 * nT c u) ∧
  ((sx_S u : Int) + 9 * nT c σ + 4 * nL c σ ≤ sx_S σ + 9 * nT c u + 4 * nL c u)
theorem GR.kk {c : CP} {σ u : sx_T} (h : GR c σ u) : ∀ a, sx_K σ a ≠ 0 → sx_K u a = sx_K σ a ∧ sx_N u a = sx_N σ a := h.1
theorem GR.mo {c : CP} {σ u : sx_T} (h : GR c σ u) : ∀ a, MO σ a → ∀ k, sx_I u a k = sx_I σ a k ∧ sx_J u a k = sx_J σ a k ∧ sx_R u a k = sx_R σ a k := h.2.1
theorem GR.cb {c : CP} {σ u : sx_T} (h : GR c σ u) : ∀ a, sx_K σ a = 13 ∨ sx_K σ a = 14 → CO u a → CO σ a := h.2.2.1
theorem GR.fm {c : CP} {σ u : sx_T} (h : GR c σ u) : nF c σ ≤ nF c u := h.2.2.2.1
theorem GR.z1 {c : CP} {σ u : sx_T} (h : GR c σ u) : (sx_Z u : Int) + 2 * nT c σ ≤ sx_Z σ + 2 * nT c u := h.2.2.2.2.1
theorem GR.z2 {c : CP} {σ u : sx_T} (h : GR c σ u) : (sx_S u : Int) + 9 * nT c σ + 4 * nL c σ ≤ sx_S σ + 9 * nT c u + 4 * nL c u := h.2.2.2.2.2
/-- the clock stands -/
def CK (c : CP) (σ u : sx_T) : Prop := sx_I u c.L 8 = sx_I σ c.L 8
theorem gr_r {c : CP} {σ : sx_T} : GR c σ σ := ⟨fun _ _ => ⟨rfl, rfl⟩, fun _ _ _ => ⟨rfl, rfl, rfl⟩, fun _ _ h => h, Int.le_refl _, Int.le_refl _, Int.le_refl _⟩
theorem mo_u {c : CP} {σ u : sx_T} (h : GR c σ u) {a : Nat} (ha : MO σ a) : MO u a := by
  rcases ha with ha | ⟨ha, hc⟩
  · exact Or.inl ((h.kk a (by rw [ha]; decide)).1.trans ha)
  · refine Or.inr ⟨?_, fun e => hc (h.cb a ha e)⟩
    have hk := (h.kk a (by rcases ha with e | e <;> rw [e] <;> decide)).1
    rw [hk]
    exact ha
theorem gr_t {c : CP} {σ v u : sx_T} (h1 : GR c σ v) (h2 : GR c v u) : GR c σ u := by
  refine ⟨fun a ha => ?_, fun a ha k => ?_, fun a ha e => ?_, Int.le_trans h1.fm h2.fm, ?_, ?_⟩
  · have e1 := h1.kk a ha
    have e2 := h2.kk a (by rw [e1.1]; exact ha)
    exact ⟨e2.1.trans e1.1, e2.2.trans e1.2⟩
  · have e1 := h1.mo a ha k
    have e2 := h2.mo a (mo_u h1 ha) k
    exact ⟨e2.1.trans e1.1, e2.2.1.trans e1.2.1, e2.2.2.trans e1.2.2⟩
  · have hk := (h1.kk a (by rcases ha with e | e <;> rw [e] <;> decide)).1
    exact h1.cb a ha (h2.cb a (by rw [hk]; exact ha) e)
  · have := h1.z1
    have := h2.z1
    omega
  · have := h1.z2
    have := h2.z2
    omega
theorem op_m {c : CP} {σ u : sx_T} {f : Nat} (h : nF c σ ≤ nF c u) (ho : OP c σ f) : OP c u f := by
  obtain ⟨j, h1, h2, h3⟩ := ho
  exact ⟨j, h1, by omega, h3⟩
theorem fa_co {A : Nat → Prop} {σ u : sx_T} {a : Nat} (h : FA A σ u) : CO u a = CO σ a := by
  unfold CO
  rw [h.1, h.2.2.1]
theorem fa_nL {A : Nat → Prop} {c : CP} {σ u : sx_T} (h : FA A σ u) : nL c u = nL c σ := by
  unfold nL lenE
  rw [h.1, h.2.1, h.2.2.1]
/-- ints and longs of some cells have changed -/
theorem gi_fa {A : Nat → Prop} {c : CP} {s : Int} {σ u : sx_T} (h : FA A σ u) (hg : GI c s σ) (hA : ∀ a, A a → sx_K σ a ≠ 3 ∧ sx_K σ a ≠ 12 ∧ sx_K σ a ≠ 1 ∧ ¬ MO σ a) (hL : nF c u = nF c σ) (hR : ∀ t p, sx_K σ t = 7 → sx_R σ t 0 = some p → RI σ t p → RI u t p) : GI c s u ∧ GR c σ u := by
  have hf := h
  obtain ⟨h1, h2, h3, h4, h5, h6, h7⟩ := h
  have hc : ∀ x, sx_K σ x = 3 → sx_I u x 2 = sx_I σ x 2 := fun x hx => h6 x (fun e => (hA x e).1 hx) 2
  have hw : nT c u = nT c σ := by unfold nT; rw [h6 c.w (fun e => (hA _ e).2.2.1 hg.rf.2.2.2.2) 2]
  have hE : nE c u = nE c σ := sumC_e 40 (fun i hi => by show (sx_I u (c.hx i) 2).toInt = _; rw [hc _ (hg.kf i hi).2.1])
  have hop : ∀ f, OP c σ f → OP c u f := fun f => op_m (by omega)
  refine ⟨⟨ww_f hf hg.ww, ?_, ?_, ?_, ?_, ?_, ?_, ?_, hg.inj, ?_, ?_, ?_, by rw [hL]; exact hg.fc, ?_, ?_, ?_, ?_, ?_⟩, ⟨?_, ?_, ?_, by omega, ?_, ?_⟩⟩
  · rw [h1, h4]; exact hg.zf
  · rw [h1]; exact hg.kL
  · rw [h1, h3]; exact hg.pi
  · rw [h1, h3]; exact hg.bi
  · intro t p ht hp
    rw [h1] at ht
    rw [h3] at hp
    exact hR t p ht hp (hg.ra t p ht hp)
  · intro x hx
    rw [h1] at hx
    obtain ⟨q1, q2, q3⟩ := hg.ha x hx
    rw [hc x hx]
    refine ⟨hv_f hf (fun e => (hA x e).1 hx) (fun a ha e => ?_) q1, q2, q3⟩
    have h9 := hg.ww.2.1 x 0 a (by rw [hx]; decide) ha
    rw [hx] at h9
    exact (hA a e).2.1 h9
  · rw [h1, h2, h3]; exact hg.hn
  · rw [h1, h3]; exact hg.kf
  · rw [h1]; exact hg.af
  · rw [h1, h2, h3]; exact hg.rf
  · intro i hi hfi
    rw [hL] at hfi
    rw [hc _ (hg.kf i hi).2.1]
    exact hg.nz i hi hfi
  · rw [h1, h3]
    exact fun l a hl ha => ⟨(hg.la l a hl ha).1, fun k f hk => hop f ((hg.la l a hl ha).2 k f hk)⟩
  · rw [h1, h3]
    exact fun t f ht hr => hop f (hg.ta t f ht hr)
  · rw [h1, h3, h4, hw, fa_nL hf]; exact hg.wl
  · rw [hE, hL, hw]; exact hg.ws
  · rw [h1, h2]; exact fun _ _ => ⟨rfl, rfl⟩
  · intro a ha k
    have hna : ¬ A a := fun e => (hA a e).2.2.2 ha
    rw [h3]
    exact ⟨h6 a hna k, h7 a hna k, rfl⟩
  · intro a ha
    rw [fa_co hf]
    exact id
  · rw [h4, hw]; exact Int.le_refl _
  · rw [h5, hw, fa_nL hf]; exact Int.le_refl _
