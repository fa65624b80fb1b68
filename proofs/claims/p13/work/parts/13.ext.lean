/-! EXACT WALKS: a method's run from a store, with what it answers and the store behind it -/
def rk (σ : sx_T) (v : Option Nat) (kd : Nat) : Prop := ∀ a, v = some a → sx_K σ a = kd
def TS (g : gx_T) (σ : sx_T) : Prop := (∀ a k r, ty_r (sx_K σ a) k ≠ 0 → sx_R σ a k = some r → sx_K σ r = ty_r (sx_K σ a) k) ∧ (∀ a k, bz (sx_K σ a) k = true → sx_I σ a k = 0 ∨ sx_I σ a k = 1) ∧ (∀ a, sx_K σ a ≠ 0 → a < sx_Z σ ∧ gx_b g ≤ a) ∧ (∀ a r, sx_K σ a = 1 → sx_R σ a 1 = some r → sx_K σ r = 17 ∨ r = gx_e g) ∧ gx_b g ≤ sx_Z σ ∧ gx_e g < gx_b g
def GG (g : gx_T) (σ u : sx_T) : Prop := sx_Z σ ≤ sx_Z u ∧ sx_S σ ≤ sx_S u ∧ (∀ a, sx_K σ a ≠ 0 → sx_K u a = sx_K σ a ∧ sx_N u a = sx_N σ a) ∧ TS g u
theorem TS_e {g : gx_T} {σ : sx_T} (h : TS g σ) : sx_K σ (gx_e g) = 0 := Classical.byContradiction fun q => by have := (h.2.2.1 _ q).2; have := h.2.2.2.2.2; omega
theorem rk_G {g : gx_T} {σ u : sx_T} {v : Option Nat} {kd : Nat} (hG : GG g σ u) (h0 : kd ≠ 0) (h : rk σ v kd) : rk u v kd := fun a ha => (hG.2.2.1 a (by rw [h a ha]; exact h0)).1.trans (h a ha)
theorem k_G {g : gx_T} {σ u : sx_T} {a kd : Nat} (hG : GG g σ u) (h0 : kd ≠ 0) (h : sx_K σ a = kd) : sx_K u a = kd := (hG.2.2.1 a (by rw [h]; exact h0)).1.trans h
theorem rk_T {g : gx_T} {σ : sx_T} {a kd k kd' : Nat} {v : Option Nat} (hT : TS g σ) (hk : sx_K σ a = kd) (hy : ty_r kd k = kd') (h0 : kd' ≠ 0) (e : sx_R σ a k = v) : rk σ v kd' := fun r hr => by
  have h1 : ty_r (sx_K σ a) k = kd' := by rw [hk]; exact hy
  exact (hT.1 a k r (by rw [h1]; exact h0) (e.trans hr)).trans h1
theorem rk_n {σ : sx_T} {kd : Nat} : rk σ none kd := fun _ h => nomatch h
theorem rk_a {σ : sx_T} {a kd : Nat} (h : sx_K σ a = kd) : rk σ (some a) kd := fun b hb => by cases hb; exact h
theorem bz_T {g : gx_T} {σ : sx_T} {a kd k : Nat} {x : Int32} (hT : TS g σ) (hk : sx_K σ a = kd) (hy : bz kd k = true) (e : sx_I σ a k = x) : x = 0 ∨ x = 1 := by subst e; exact hT.2.1 a k (by rw [hk]; exact hy)
theorem TS_I {g : gx_T} {σ : sx_T} {a kd k : Nat} {x : Int32} (hT : TS g σ) (hk : sx_K σ a = kd) (hb : bz kd k = false ∨ x = 0 ∨ x = 1) : TS g (wx_I σ a k x) := by
  refine ⟨hT.1, fun b j hj => ?_, hT.2.2⟩
  show sx_u (sx_I σ) a k x b j = 0 ∨ sx_u (sx_I σ) a k x b j = 1
  by_cases q : b = a ∧ j = k
  · obtain ⟨rfl, rfl⟩ := q
    rw [ux_eq]
    have hj' : bz (sx_K σ b) j = true := hj
    rw [hk] at hj'
    exact hb.elim (fun h => by rw [h] at hj'; cases hj') id
  · rw [ux_ne q]
    exact hT.2.1 b j hj
theorem TS_J {g : gx_T} {σ : sx_T} {a k : Nat} {x : Int64} (hT : TS g σ) : TS g (wx_J σ a k x) := hT
theorem TS_R {g : gx_T} {σ : sx_T} {a kd k : Nat} {v : Option Nat} (hT : TS g σ) (hk : sx_K σ a = kd) (hv : ty_r kd k = 0 ∨ rk σ v (ty_r kd k)) (h1 : kd ≠ 1 ∨ k ≠ 1 ∨ rk σ v 17) : TS g (wx_R σ a k v) := by
  refine ⟨fun b j r h0 hr => ?_, hT.2.1, hT.2.2.1, fun b r hb hr => ?_, hT.2.2.2.2⟩
  · by_cases q : b = a ∧ j = k
    · obtain ⟨rfl, rfl⟩ := q
      have hr' : v = some r := by
        have h9 : sx_u (sx_R σ) b j v b j = some r := hr
        rw [ux_eq] at h9
        exact h9
      have h0' : ty_r (sx_K σ b) j ≠ 0 := h0
      show sx_K σ r = ty_r (sx_K σ b) j
      rw [hk] at h0' ⊢
      exact hv.elim (fun h => absurd h h0') (fun h => h r hr')
    · have h9 : sx_u (sx_R σ) a k v b j = some r := hr
      rw [ux_ne q] at h9
      exact hT.1 b j r h0 h9
  · have h9 : sx_u (sx_R σ) a k v b 1 = some r := hr
    have hb' : sx_K σ b = 1 := hb
    by_cases q : b = a ∧ 1 = k
    · obtain ⟨rfl, rfl⟩ := q
      rw [ux_eq] at h9
      have hkd : kd = 1 := hk.symm.trans hb'
      exact h1.elim (fun h => absurd hkd h) (fun h => h.elim (fun h => absurd rfl h) (fun h => Or.inl (h r h9)))
    · rw [ux_ne q] at h9
      exact hT.2.2.2.1 b r hb' h9
theorem TS_N {g : gx_T} {σ : sx_T} {kd n : Nat} (hT : TS g σ) : TS g (wx_N σ kd n) := by
  have hz : ∀ a, sx_K σ a ≠ 0 → a ≠ sx_Z σ := fun a h q => by have := (hT.2.2.1 a h).1; omega
  refine ⟨fun a k r h0 hr => ?_, fun a k hb => ?_, fun a ha => ?_, fun a r ha hr => ?_, Nat.le_succ_of_le hT.2.2.2.2.1, hT.2.2.2.2.2⟩
  · have hr' : (if a = sx_Z σ then none else sx_R σ a k) = some r := hr
    by_cases q : a = sx_Z σ
    · rw [if_pos q] at hr'
      cases hr'
    · rw [if_neg q] at hr'
      have hK : sx_K (wx_N σ kd n) a = sx_K σ a := if_neg q
      rw [hK] at h0 ⊢
      have h9 := hT.1 a k r h0 hr'
      have hq : r ≠ sx_Z σ := hz r (by rw [h9]; exact h0)
      exact (show sx_K (wx_N σ kd n) r = sx_K σ r from if_neg hq).trans h9
  · show (if a = sx_Z σ then 0 else sx_I σ a k) = 0 ∨ (if a = sx_Z σ then 0 else sx_I σ a k) = 1
    by_cases q : a = sx_Z σ
    · rw [if_pos q]
      exact Or.inl rfl
    · rw [if_neg q]
      have hK : sx_K (wx_N σ kd n) a = sx_K σ a := if_neg q
      rw [hK] at hb
      exact hT.2.1 a k hb
  · show a < sx_Z σ + 1 ∧ _
    by_cases q : a = sx_Z σ
    · exact ⟨by omega, by rw [q]; exact hT.2.2.2.2.1⟩
    · have hK : sx_K (wx_N σ kd n) a = sx_K σ a := if_neg q
      rw [hK] at ha
      have := hT.2.2.1 a ha
      exact ⟨by omega, this.2⟩
  · have hr' : (if a = sx_Z σ then none else sx_R σ a 1) = some r := hr
    by_cases q : a = sx_Z σ
    · rw [if_pos q] at hr'
      cases hr'
    · rw [if_neg q] at hr'
      have hK : sx_K (wx_N σ kd n) a = sx_K σ a := if_neg q
      rw [hK] at ha
      rcases hT.2.2.2.1 a r ha hr' with h | h
      · exact Or.inl ((show sx_K (wx_N σ kd n) r = sx_K σ r from if_neg (hz r (by rw [h]; decide))).trans h)
      · exact Or.inr h
theorem GG_r {g : gx_T} {σ : sx_T} (hT : TS g σ) : GG g σ σ := ⟨Nat.le_refl _, Nat.le_refl _, fun _ _ => ⟨rfl, rfl⟩, hT⟩
theorem GG_t {g : gx_T} {σ v u : sx_T} (h1 : GG g σ v) (h2 : GG g v u) : GG g σ u := ⟨Nat.le_trans h1.1 h2.1, Nat.le_trans h1.2.1 h2.2.1, fun a ha => by
  have q := h1.2.2.1 a ha
  have q2 := h2.2.2.1 a (by rw [q.1]; exact ha)
  exact ⟨q2.1.trans q.1, q2.2.trans q.2⟩, h2.2.2.2⟩
theorem GG_w {g : gx_T} {σ σ' u : sx_T} (e : sx_K σ' = sx_K σ ∧ sx_N σ' = sx_N σ ∧ sx_Z σ' = sx_Z σ ∧ sx_S σ' = sx_S σ) (h : GG g σ' u) : GG g σ u := by
  obtain ⟨e1, e2, e3, e4⟩ := e
  unfold GG at h ⊢
  rw [e1, e2, e3, e4] at h
  exact h
theorem GG_n {g : gx_T} {σ u : sx_T} {kd n : Nat} (hT : TS g σ) (h : GG g (wx_N σ kd n) u) : GG g σ u := by
  refine GG_t ⟨Nat.le_succ _, Nat.le_add_right _ _, fun a ha => ?_, TS_N hT⟩ h
  have q : a ≠ sx_Z σ := fun q => by have := (hT.2.2.1 a ha).1; omega
  exact ⟨if_neg q, if_neg q⟩
/-! the words of the pictures -/
def oc {α : Type} (v : Option Nat) (a : α) (k : Nat → α) : α := match v with | none => a | some r => k r
def qv {α : Type} (v : Option Nat) (k : Option Nat → α) : α := k v
def qn {α : Type} (v : Nat) (k : Nat → α) : α := k v
def bq {α : Type} (v : Option Nat) (k : Nat → Option α) : Option α := match v with | none => none | some r => k r
def br {α β : Type} (x : Option α) (k : α → Option β) : Option β := match x with | none => none | some r => k r
def bd {α β : Type} (x : Option (α × sx_T)) (k : α → sx_T → Option β) : Option β := match x with | none => none | some q => k q.1 q.2
def ck {α : Type} (i : Int32) (n : Nat) (k : Option α) : Option α := if 0 ≤ i.toInt ∧ i.toInt < (n : Int) then k else none
def gk {α : Type} (σ : sx_T) (a kd : Nat) (k : Option α) : Option α := if sx_K σ a = kd then k else none
def nz {α : Type} (y : Int32) (k : Option α) : Option α := if y = 0 then none else k
def ti (i : Int32) : Nat := i.toInt.toNat
def jrem (x y : Int32) : Int32 := x - x / y * y
def jreml (x y : Int64) : Int64 := x - x / y * y
theorem ite_p {α : Type} {c : Prop} [Decidable c] {a b x : α} (hc : c) (h : (if c then a else b) = x) : a = x := by rw [if_pos hc] at h; exact h
theorem ite_n {α : Type} {c : Prop} [Decidable c] {a b x : α} (hc : ¬ c) (h : (if c then a else b) = x) : b = x := by rw [if_neg hc] at h; exact h
theorem oc_n {α : Type} {a x : α} {k : Nat → α} (h : oc none a k = x) : a = x := h
theorem oc_s {α : Type} {a x : α} {r : Nat} {k : Nat → α} (h : oc (some r) a k = x) : k r = x := h
theorem qv_e {α : Type} {v : Option Nat} {x : α} {k : Option Nat → α} (h : qv v k = x) : ∃ w, v = w ∧ k w = x := ⟨v, rfl, h⟩
theorem qn_e {α : Type} {v : Nat} {x : α} {k : Nat → α} (h : qn v k = x) : ∃ w, v = w ∧ k w = x := ⟨v, rfl, h⟩
theorem bq_e {α : Type} {v : Option Nat} {x : α} {k : Nat → Option α} (h : bq v k = some x) : ∃ w, v = some w ∧ k w = some x := match v, h with | some w, h => ⟨w, rfl, h⟩
theorem br_e {α β : Type} {v : Option α} {x : β} {k : α → Option β} (h : br v k = some x) : ∃ w, v = some w ∧ k w = some x := match v, h with | some w, h => ⟨w, rfl, h⟩
theorem bd_e {α β : Type} {v : Option (α × sx_T)} {x : β} {k : α → sx_T → Option β} (h : bd v k = some x) : ∃ r u, v = some (r, u) ∧ k r u = some x := match v, h with | some w, h => ⟨w.1, w.2, rfl, h⟩
theorem ck_e {α : Type} {i : Int32} {n : Nat} {x : α} {k : Option α} (h : ck i n k = some x) : vp_in i n ∧ k = some x := by
  unfold ck at h
  split at h
  · rename_i q
    exact ⟨vp_in_iff.mpr q, h⟩
  · cases h
theorem gk_e {α : Type} {σ : sx_T} {a kd : Nat} {x : α} {k : Option α} (h : gk σ a kd k = some x) : sx_K σ a = kd ∧ k = some x := by
  unfold gk at h
  split at h
  · rename_i q
    exact ⟨q, h⟩
  · cases h
theorem nz_e {α : Type} {y : Int32} {x : α} {k : Option α} (h : nz y k = some x) : ¬ y = 0 ∧ k = some x := by
  unfold nz at h
  split at h
  · cases h
  · rename_i q
    exact ⟨q, h⟩
/-! reading a written store -/
theorem rI_s {σ : sx_T} {a k : Nat} {x : Int32} : sx_I (wx_I σ a k x) a k = x := ux_eq
theorem rI_n {σ : sx_T} {a k j : Nat} {x v : Int32} (h : j ≠ k) (e : sx_I σ a j = v) : sx_I (wx_I σ a k x) a j = v := (ux_k h).trans e
theorem rI_k {σ : sx_T} {a b k j ka kb : Nat} {x v : Int32} (h : kb ≠ ka) (ha : sx_K σ a = ka) (hb : sx_K σ b = kb) (e : sx_I σ b j = v) : sx_I (wx_I σ a k x) b j = v := (ux_a (fun q => h (by rw [← hb, ← ha, q]))).trans e
theorem rJ_s {σ : sx_T} {a k : Nat} {x : Int64} : sx_J (wx_J σ a k x) a k = x := ux_eq
theorem rJ_n {σ : sx_T} {a k j : Nat} {x v : Int64} (h : j ≠ k) (e : sx_J σ a j = v) : sx_J (wx_J σ a k x) a j = v := (ux_k h).trans e
theorem rJ_k {σ : sx_T} {a b k j ka kb : Nat} {x v : Int64} (h : kb ≠ ka) (ha : sx_K σ a = ka) (hb : sx_K σ b = kb) (e : sx_J σ b j = v) : sx_J (wx_J σ a k x) b j = v := (ux_a (fun q => h (by rw [← hb, ← ha, q]))).trans e
theorem rR_s {σ : sx_T} {a k : Nat} {x : Option Nat} : sx_R (wx_R σ a k x) a k = x := ux_eq
theorem rR_n {σ : sx_T} {a k j : Nat} {x v : Option Nat} (h : j ≠ k) (e : sx_R σ a j = v) : sx_R (wx_R σ a k x) a j = v := (ux_k h).trans e
theorem rR_k {σ : sx_T} {a b k j ka kb : Nat} {x v : Option Nat} (h : kb ≠ ka) (ha : sx_K σ a = ka) (hb : sx_K σ b = kb) (e : sx_R σ b j = v) : sx_R (wx_R σ a k x) b j = v := (ux_a (fun q => h (by rw [← hb, ← ha, q]))).trans e

theorem rI_J {σ : sx_T} {a b k j : Nat} {x : Int64} {v : Int32} (e : sx_I σ b j = v) : sx_I (wx_J σ a k x) b j = v := e
theorem rI_R {σ : sx_T} {a b k j : Nat} {x : Option Nat} {v : Int32} (e : sx_I σ b j = v) : sx_I (wx_R σ a k x) b j = v := e
theorem rJ_I {σ : sx_T} {a b k j : Nat} {x : Int32} {v : Int64} (e : sx_J σ b j = v) : sx_J (wx_I σ a k x) b j = v := e
theorem rJ_R {σ : sx_T} {a b k j : Nat} {x : Option Nat} {v : Int64} (e : sx_J σ b j = v) : sx_J (wx_R σ a k x) b j = v := e
theorem rR_I {σ : sx_T} {a b k j : Nat} {x : Int32} {v : Option Nat} (e : sx_R σ b j = v) : sx_R (wx_I σ a k x) b j = v := e
theorem rR_J {σ : sx_T} {a b k j : Nat} {x : Int64} {v : Option Nat} (e : sx_R σ b j = v) : sx_R (wx_J σ a k x) b j = v := e
theorem kk_I {σ : sx_T} {a k b kd : Nat} {x : Int32} (h : sx_K σ b = kd) : sx_K (wx_I σ a k x) b = kd := h
theorem qk_I {σ : sx_T} {a k kd : Nat} {x : Int32} {v : Option Nat} (h : rk σ v kd) : rk (wx_I σ a k x) v kd := h
theorem kk_J {σ : sx_T} {a k b kd : Nat} {x : Int64} (h : sx_K σ b = kd) : sx_K (wx_J σ a k x) b = kd := h
theorem qk_J {σ : sx_T} {a k kd : Nat} {x : Int64} {v : Option Nat} (h : rk σ v kd) : rk (wx_J σ a k x) v kd := h
theorem kk_R {σ : sx_T} {a k b kd : Nat} {x : Option Nat} (h : sx_K σ b = kd) : sx_K (wx_R σ a k x) b = kd := h
theorem qk_R {σ : sx_T} {a k kd : Nat} {x : Option Nat} {v : Option Nat} (h : rk σ v kd) : rk (wx_R σ a k x) v kd := h

theorem e_I {σ : sx_T} {a k : Nat} {x : Int32} : sx_K (wx_I σ a k x) = sx_K σ ∧ sx_N (wx_I σ a k x) = sx_N σ ∧ sx_Z (wx_I σ a k x) = sx_Z σ ∧ sx_S (wx_I σ a k x) = sx_S σ := ⟨rfl, rfl, rfl, rfl⟩
theorem e_J {σ : sx_T} {a k : Nat} {x : Int64} : sx_K (wx_J σ a k x) = sx_K σ ∧ sx_N (wx_J σ a k x) = sx_N σ ∧ sx_Z (wx_J σ a k x) = sx_Z σ ∧ sx_S (wx_J σ a k x) = sx_S σ := ⟨rfl, rfl, rfl, rfl⟩
theorem e_R {σ : sx_T} {a k : Nat} {x : Option Nat} : sx_K (wx_R σ a k x) = sx_K σ ∧ sx_N (wx_R σ a k x) = sx_N σ ∧ sx_Z (wx_R σ a k x) = sx_Z σ ∧ sx_S (wx_R σ a k x) = sx_S σ := ⟨rfl, rfl, rfl, rfl⟩

theorem kd_I {σ : sx_T} {a k b kd : Nat} {x : Int32} (h : sx_K (wx_I σ a k x) b = kd) : sx_K σ b = kd := h
theorem kd_J {σ : sx_T} {a k b kd : Nat} {x : Int64} (h : sx_K (wx_J σ a k x) b = kd) : sx_K σ b = kd := h
theorem kd_R {σ : sx_T} {a k b kd : Nat} {x : Option Nat} (h : sx_K (wx_R σ a k x) b = kd) : sx_K σ b = kd := h

def ZY (l : Launch) (g : gx_T) (cc : ByteArray) (own nm : String) (ret : Option FieldType) (nL fr lo dc ds : Nat) (ho : Bool) (As : Array Value) (QQ : List Frame → State → Nat → Nat → State → Prop) (X : Prop) (u σ : sx_T) (pc : Nat) (lv : List (Nat × Value)) (st : List Value) : Prop :=
  (GG g σ u ∧ X) ∧ ∀ (p : Program) (e : Env) (s : State) (m : MethodId) (below : List Frame) (meth : Method) (c : Code), zx_B p s m As meth c cc own nL g → meth.sig.returnType = ret → meth.name = nm → (ho = true → ∀ x ∈ c.exceptionTable.toList, False) → ∀ cells slots mc ms : Nat, cells + (sx_Z u - sx_Z σ) + dc ≤ mc → slots + (sx_S u - sx_S σ) + ds ≤ ms → zx p l e { frames := fr, cells := mc, slots := ms, locals := lo } s m As below meth c g nL cells slots (QQ below s mc ms) σ pc lv st
section YROWS
variable {l : Launch} {g : gx_T} {cc : ByteArray} {own nm : String} {ret : Option FieldType} {nL fr lo dc ds : Nat} {ho : Bool} {As : Array Value} {QQ : List Frame → State → Nat → Nat → State → Prop} {X : Prop} {u σ σ' : sx_T} {pc : Nat} {lv lv' : List (Nat × Value)} {st st' : List Value}
theorem ym (pc' : Nat) (f : ∀ {p : Program} {e : Env} {R : Room} {s : State} {m : MethodId} {below : List Frame} {meth : Method} {c : Code} {cells slots : Nat} {Q : State → Prop}, zx_B p s m As meth c cc own nL g → zx p l e R s m As below meth c g nL cells slots Q σ pc' lv' st' → zx p l e R s m As below meth c g nL cells slots Q σ pc lv st) (k : ZY l g cc own nm ret nL fr lo dc ds ho As QQ X u σ pc' lv' st') : ZY l g cc own nm ret nL fr lo dc ds ho As QQ X u σ pc lv st :=
  ⟨k.1, fun p e s m below meth c B h1 h2 h3 cells slots mc ms hc hs => f B (k.2 p e s m below meth c B h1 h2 h3 cells slots mc ms hc hs)⟩
theorem ymw (pc' : Nat) (e : sx_K σ' = sx_K σ ∧ sx_N σ' = sx_N σ ∧ sx_Z σ' = sx_Z σ ∧ sx_S σ' = sx_S σ) (f : ∀ {p : Program} {e : Env} {R : Room} {s : State} {m : MethodId} {below : List Frame} {meth : Method} {c : Code} {cells slots : Nat} {Q : State → Prop}, zx_B p s m As meth c cc own nL g → meth.name = nm → zx p l e R s m As below meth c g nL cells slots Q σ' pc' lv' st' → zx p l e R s m As below meth c g nL cells slots Q σ pc lv st) (k : ZY l g cc own nm ret nL fr lo dc ds ho As QQ X u σ' pc' lv' st') : ZY l g cc own nm ret nL fr lo dc ds ho As QQ X u σ pc lv st :=
  ⟨⟨GG_w e k.1.1, k.1.2⟩, fun p e' s m below meth c B h1 h2 h3 cells slots mc ms hc hs => f B h2 (k.2 p e' s m below meth c B h1 h2 h3 cells slots mc ms (by rw [e.2.2.1]; exact hc) (by rw [e.2.2.2]; exact hs))⟩
theorem ymn (pc' : Nat) {kd n : Nat} (hT : TS g σ) (f : ∀ {p : Program} {e : Env} {R : Room} {s : State} {m : MethodId} {below : List Frame} {meth : Method} {c : Code} {cells slots : Nat} {Q : State → Prop}, zx_B p s m As meth c cc own nL g → cells + 1 ≤ R.cells → slots + sx_sz kd n ≤ R.slots → zx p l e R s m As below meth c g nL (cells + 1) (slots + sx_sz kd n) Q (wx_N σ kd n) pc' lv' st' → zx p l e R s m As below meth c g nL cells slots Q σ pc lv st) (k : ZY l g cc own nm ret nL fr lo dc ds ho As QQ X u (wx_N σ kd n) pc' lv' st') : ZY l g cc own nm ret nL fr lo dc ds ho As QQ X u σ pc lv st := by
  have hz : sx_Z σ + 1 ≤ sx_Z u := k.1.1.1
  have hs0 : sx_S σ + sx_sz kd n ≤ sx_S u := k.1.1.2.1
  refine ⟨⟨GG_n hT k.1.1, k.1.2⟩, fun p e s m below meth c B h1 h2 h3 cells slots mc ms hc hs => f B (by show cells + 1 ≤ mc; omega) (by show slots + sx_sz kd n ≤ ms; omega) (k.2 p e s m below meth c B h1 h2 h3 (cells + 1) (slots + sx_sz kd n) mc ms ?_ ?_)⟩
  · show cells + 1 + (sx_Z u - (sx_Z σ + 1)) + dc ≤ mc
    omega
  · show slots + sx_sz kd n + (sx_S u - (sx_S σ + sx_sz kd n)) + ds ≤ ms
    omega
theorem y_sub (lv' : List (Nat × Value)) (ks : List Nat) (hk : lv_pick lv ks = lv') (k : ZY l g cc own nm ret nL fr lo dc ds ho As QQ X u σ pc lv' st) : ZY l g cc own nm ret nL fr lo dc ds ho As QQ X u σ pc lv st := ym pc (fun _ k => z_sub lv' ks hk k) k
/-- a call's end taken into the caller's walk -/
theorem ycall {u1 : sx_T} (pc' : Nat) (hG : GG g σ u1) (f : ∀ {p : Program} {e : Env} {s : State} {m : MethodId} {below : List Frame} {meth : Method} {c : Code} {cells slots mc ms : Nat} {Q : State → Prop}, zx_B p s m As meth c cc own nL g → cells + (sx_Z u1 - sx_Z σ) ≤ mc → slots + (sx_S u1 - sx_S σ) ≤ ms → zx p l e { frames := fr, cells := mc, slots := ms, locals := lo } s m As below meth c g nL (cells + (sx_Z u1 - sx_Z σ)) (slots + (sx_S u1 - sx_S σ)) Q u1 pc' lv' st' → zx p l e { frames := fr, cells := mc, slots := ms, locals := lo } s m As below meth c g nL cells slots Q σ pc lv st) (k : ZY l g cc own nm ret nL fr lo dc ds ho As QQ X u u1 pc' lv' st') : ZY l g cc own nm ret nL fr lo dc ds ho As QQ X u σ pc lv st := by
  have a1 := hG.1
  have a2 := k.1.1.1
  have a3 := hG.2.1
  have a4 := k.1.1.2.1
  exact ⟨⟨GG_t hG k.1.1, k.1.2⟩, fun p e s m below meth c B h1 h2 h3 cells slots mc ms hc hs => f B (by omega) (by omega) (k.2 p e s m below meth c B h1 h2 h3 _ _ mc ms (by omega) (by omega))⟩

end YROWS
def CT (l : Launch) (g : gx_T) (y : MethodName) (cc : ByteArray) (maxL : Nat) (ret : Option FieldType) (fr lo : Nat) (As : List Value) (X : Prop) (u σ : sx_T) (Qc : Array Value → State → Outcome → State → Prop) : Prop := (GG g σ u ∧ X) ∧ Met l y (.code y cc maxL ret :: lw_g) { frames := fr, cells := sx_Z u - sx_Z σ, slots := sx_S u - sx_S σ, locals := lo } (va_Pc As (zx_w g σ)) Qc (sx_Z u - sx_Z σ) (sx_S u - sx_S σ) (gx_Q g)
def Qxi (g : gx_T) (r : Int32) (u : sx_T) : Array Value → State → Outcome → State → Prop := (va_Qi (fun r' u' => r' = r ∧ u' = u) (zx_w g) (gx_Q g))
def Qxl (g : gx_T) (r : Int64) (u : sx_T) : Array Value → State → Outcome → State → Prop := (va_Ql (fun r' u' => r' = r ∧ u' = u) (zx_w g) (gx_Q g))
def Qxq (g : gx_T) (r : Option Nat) (u : sx_T) : Array Value → State → Outcome → State → Prop := (va_Qq (fun r' u' => r' = r ∧ u' = u) (zx_w g) (gx_Q g))
def Qxv (g : gx_T) (u : sx_T) : Array Value → State → Outcome → State → Prop := (va_Qv (fun u' => u' = u) (zx_w g) (gx_Q g))
def QM (g : gx_T) (As : Array Value) (Qc : Array Value → State → Outcome → State → Prop) : List Frame → State → Nat → Nat → State → Prop := fun below s mc ms => MQ below Qc As s mc ms (gx_Q g)
section YENDS
variable {l : Launch} {g : gx_T} {cc : ByteArray} {own nm : String} {ret : Option FieldType} {nL fr lo dc ds : Nat} {ho : Bool} {As : Array Value} {QQ : List Frame → State → Nat → Nat → State → Prop} {X : Prop} {u σ σ' : sx_T} {pc : Nat} {lv lv' : List (Nat × Value)} {st st' : List Value}
theorem yr_i {v : Int32} (hT : TS g σ) (hX : X) (hr : ret = some .int) (hd : decode cc pc = .ok (.ireturn, 1)) : ZY l g cc own nm ret nL fr lo 0 0 ho As (QM g As (Qxi g v σ)) X σ σ pc lv [.int v] := ⟨⟨GG_r hT, hX⟩, fun p e s m below meth c B h1 _ _ cells slots mc ms hc hs => z_iret B (h1.trans hr) (by omega) (by omega) hd ⟨rfl, rfl⟩⟩
theorem yr_z {v : Int32} (hT : TS g σ) (hX : X) (hr : ret = some .boolean) (hv : v = 0 ∨ v = 1) (hd : decode cc pc = .ok (.ireturn, 1)) : ZY l g cc own nm ret nL fr lo 0 0 ho As (QM g As (Qxi g v σ)) X σ σ pc lv [.int v] := ⟨⟨GG_r hT, hX⟩, fun p e s m below meth c B h1 _ _ cells slots mc ms hc hs => z_zret B (h1.trans hr) hv (by omega) (by omega) hd ⟨rfl, rfl⟩⟩
theorem yr_l {v : Int64} (hT : TS g σ) (hX : X) (hr : ret = some .long) (hd : decode cc pc = .ok (.lreturn, 1)) : ZY l g cc own nm ret nL fr lo 0 0 ho As (QM g As (Qxl g v σ)) X σ σ pc lv [.long v] := ⟨⟨GG_r hT, hX⟩, fun p e s m below meth c B h1 _ _ cells slots mc ms hc hs => z_lret B (h1.trans hr) (by omega) (by omega) hd ⟨rfl, rfl⟩⟩
theorem yr_q {v : Option Nat} {C : String} (hT : TS g σ) (hX : X) (hr : ret = some (.object C)) (hd : decode cc pc = .ok (.areturn, 1)) : ZY l g cc own nm ret nL fr lo 0 0 ho As (QM g As (Qxq g v σ)) X σ σ pc lv [va_rf v] := ⟨⟨GG_r hT, hX⟩, fun p e s m below meth c B h1 _ _ cells slots mc ms hc hs => z_qret B (h1.trans hr) (by omega) (by omega) hd ⟨rfl, rfl⟩⟩
theorem yr_v (hT : TS g σ) (hX : X) (hr : ret = none) (hd : decode cc pc = .ok (.return_, 1)) : ZY l g cc own nm ret nL fr lo 0 0 ho As (QM g As (Qxv g σ)) X σ σ pc lv [] := ⟨⟨GG_r hT, hX⟩, fun p e s m below meth c B h1 _ _ cells slots mc ms hc hs => z_vret B (h1.trans hr) (by omega) (by omega) hd rfl⟩
theorem yc_met {y : MethodName} {Al : List Value} {Qc : Array Value → State → Outcome → State → Prop} (hy : plainName y.cls = true) (hlen : (lg_sl Al).length ≤ nL) (k : ZY l g cc y.cls y.name ret nL fr lo 0 0 false Al.toArray (QM g Al.toArray Qc) X u σ 0 (lv_args 0 Al) []) : CT l g y cc nL ret fr lo Al X u σ Qc :=
  ⟨k.1, z_met hy hlen (fun p e s m below meth c B hr hin => k.2 p e s m below meth c B hr hin (fun h => by cases h) 0 0 _ _ (by omega) (by omega))⟩
theorem yc_Vi {r : Int32} {ci N index maxL n fr' lo' a : Nat} {C : String} {T : u_T} {ty0 : Nat → FieldType} {y : MethodName} {bytes : ByteArray} {rt : Option FieldType} {Al rest : List Value} {X1 : Prop} {u1 : sx_T} (pc' : Nat) (hp : pc' = pc + 3) (hw : wx_V own index C y bytes maxL rt n) (hC : cx_ok ci C T N ty0) (hd : decode cc pc = .ok (.invokevirtual index, 3)) (hct : CT l g y bytes maxL rt fr' lo' (.ref a :: Al) X1 u1 σ (Qxi g r u1)) (hKa : sx_K σ a = ci + 1) (hn : Al.length = n) (hR : fr' + 1 ≤ fr ∧ 8 + (maxL + 11) + lo' ≤ lo) (hst : st = Al.reverse ++ .ref a :: rest) (hrm : (rest.map fun v => v.category).sum ≤ 8) (k : ZY l g cc own nm ret nL fr lo dc ds ho As QQ X u u1 pc' lv (.int r :: rest)) : ZY l g cc own nm ret nL fr lo dc ds ho As QQ X u σ pc lv st := by
  subst hp
  exact ycall (pc + 3) hct.1.1 (fun B hc hs k => z_cVi B hw hC hd hct.2 hKa hn hR hst hrm ⟨hc, hs⟩ (fun r2 u2 hu => by obtain ⟨rfl, rfl⟩ := hu; exact k)) k
theorem yc_Si {r : Int32} {index maxL n fr' lo' : Nat} {y : MethodName} {bytes : ByteArray} {rt : Option FieldType} {Al rest : List Value} {X1 : Prop} {u1 : sx_T} (pc' : Nat) (hp : pc' = pc + 3) (hw : wx_S own index y bytes maxL rt n) (hd : decode cc pc = .ok (.invokestatic index, 3)) (hct : CT l g y bytes maxL rt fr' lo' Al X1 u1 σ (Qxi g r u1)) (hn : Al.length = n) (hR : fr' + 1 ≤ fr ∧ 8 + (maxL + 11) + lo' ≤ lo) (hst : st = Al.reverse ++ rest) (hrm : (rest.map fun v => v.category).sum ≤ 8) (k : ZY l g cc own nm ret nL fr lo dc ds ho As QQ X u u1 pc' lv (.int r :: rest)) : ZY l g cc own nm ret nL fr lo dc ds ho As QQ X u σ pc lv st := by
  subst hp
  exact ycall (pc + 3) hct.1.1 (fun B hc hs k => z_cSi B hw hd hct.2 hn hR hst hrm ⟨hc, hs⟩ (fun r2 u2 hu => by obtain ⟨rfl, rfl⟩ := hu; exact k)) k
theorem yc_Vl {r : Int64} {ci N index maxL n fr' lo' a : Nat} {C : String} {T : u_T} {ty0 : Nat → FieldType} {y : MethodName} {bytes : ByteArray} {rt : Option FieldType} {Al rest : List Value} {X1 : Prop} {u1 : sx_T} (pc' : Nat) (hp : pc' = pc + 3) (hw : wx_V own index C y bytes maxL rt n) (hC : cx_ok ci C T N ty0) (hd : decode cc pc = .ok (.invokevirtual index, 3)) (hct : CT l g y bytes maxL rt fr' lo' (.ref a :: Al) X1 u1 σ (Qxl g r u1)) (hKa : sx_K σ a = ci + 1) (hn : Al.length = n) (hR : fr' + 1 ≤ fr ∧ 8 + (maxL + 11) + lo' ≤ lo) (hst : st = Al.reverse ++ .ref a :: rest) (hrm : (rest.map fun v => v.category).sum ≤ 8) (k : ZY l g cc own nm ret nL fr lo dc ds ho As QQ X u u1 pc' lv (.long r :: rest)) : ZY l g cc own nm ret nL fr lo dc ds ho As QQ X u σ pc lv st := by
  subst hp
  exact ycall (pc + 3) hct.1.1 (fun B hc hs k => z_cVl B hw hC hd hct.2 hKa hn hR hst hrm ⟨hc, hs⟩ (fun r2 u2 hu => by obtain ⟨rfl, rfl⟩ := hu; exact k)) k
theorem yc_Sl {r : Int64} {index maxL n fr' lo' : Nat} {y : MethodName} {bytes : ByteArray} {rt : Option FieldType} {Al rest : List Value} {X1 : Prop} {u1 : sx_T} (pc' : Nat) (hp : pc' = pc + 3) (hw : wx_S own index y bytes maxL rt n) (hd : decode cc pc = .ok (.invokestatic index, 3)) (hct : CT l g y bytes maxL rt fr' lo' Al X1 u1 σ (Qxl g r u1)) (hn : Al.length = n) (hR : fr' + 1 ≤ fr ∧ 8 + (maxL + 11) + lo' ≤ lo) (hst : st = Al.reverse ++ rest) (hrm : (rest.map fun v => v.category).sum ≤ 8) (k : ZY l g cc own nm ret nL fr lo dc ds ho As QQ X u u1 pc' lv (.long r :: rest)) : ZY l g cc own nm ret nL fr lo dc ds ho As QQ X u σ pc lv st := by
  subst hp
  exact ycall (pc + 3) hct.1.1 (fun B hc hs k => z_cSl B hw hd hct.2 hn hR hst hrm ⟨hc, hs⟩ (fun r2 u2 hu => by obtain ⟨rfl, rfl⟩ := hu; exact k)) k
theorem yc_Vq {r : Option Nat} {ci N index maxL n fr' lo' a : Nat} {C : String} {T : u_T} {ty0 : Nat → FieldType} {y : MethodName} {bytes : ByteArray} {rt : Option FieldType} {Al rest : List Value} {X1 : Prop} {u1 : sx_T} (pc' : Nat) (hp : pc' = pc + 3) (hw : wx_V own index C y bytes maxL rt n) (hC : cx_ok ci C T N ty0) (hd : decode cc pc = .ok (.invokevirtual index, 3)) (hct : CT l g y bytes maxL rt fr' lo' (.ref a :: Al) X1 u1 σ (Qxq g r u1)) (hKa : sx_K σ a = ci + 1) (hn : Al.length = n) (hR : fr' + 1 ≤ fr ∧ 8 + (maxL + 11) + lo' ≤ lo) (hst : st = Al.reverse ++ .ref a :: rest) (hrm : (rest.map fun v => v.category).sum ≤ 8) (k : ZY l g cc own nm ret nL fr lo dc ds ho As QQ X u u1 pc' lv (va_rf r :: rest)) : ZY l g cc own nm ret nL fr lo dc ds ho As QQ X u σ pc lv st := by
  subst hp
  exact ycall (pc + 3) hct.1.1 (fun B hc hs k => z_cVq B hw hC hd hct.2 hKa hn hR hst hrm ⟨hc, hs⟩ (fun r2 u2 hu => by obtain ⟨rfl, rfl⟩ := hu; exact k)) k
theorem yc_Sq {r : Option Nat} {index maxL n fr' lo' : Nat} {y : MethodName} {bytes : ByteArray} {rt : Option FieldType} {Al rest : List Value} {X1 : Prop} {u1 : sx_T} (pc' : Nat) (hp : pc' = pc + 3) (hw : wx_S own index y bytes maxL rt n) (hd : decode cc pc = .ok (.invokestatic index, 3)) (hct : CT l g y bytes maxL rt fr' lo' Al X1 u1 σ (Qxq g r u1)) (hn : Al.length = n) (hR : fr' + 1 ≤ fr ∧ 8 + (maxL + 11) + lo' ≤ lo) (hst : st = Al.reverse ++ rest) (hrm : (rest.map fun v => v.category).sum ≤ 8) (k : ZY l g cc own nm ret nL fr lo dc ds ho As QQ X u u1 pc' lv (va_rf r :: rest)) : ZY l g cc own nm ret nL fr lo dc ds ho As QQ X u σ pc lv st := by
  subst hp
  exact ycall (pc + 3) hct.1.1 (fun B hc hs k => z_cSq B hw hd hct.2 hn hR hst hrm ⟨hc, hs⟩ (fun r2 u2 hu => by obtain ⟨rfl, rfl⟩ := hu; exact k)) k
theorem yc_Vv {ci N index maxL n fr' lo' a : Nat} {C : String} {T : u_T} {ty0 : Nat → FieldType} {y : MethodName} {bytes : ByteArray} {rt : Option FieldType} {Al rest : List Value} {X1 : Prop} {u1 : sx_T} (pc' : Nat) (hp : pc' = pc + 3) (hw : wx_V own index C y bytes maxL rt n) (hC : cx_ok ci C T N ty0) (hd : decode cc pc = .ok (.invokevirtual index, 3)) (hct : CT l g y bytes maxL rt fr' lo' (.ref a :: Al) X1 u1 σ (Qxv g u1)) (hKa : sx_K σ a = ci + 1) (hn : Al.length = n) (hR : fr' + 1 ≤ fr ∧ 8 + (maxL + 11) + lo' ≤ lo) (hst : st = Al.reverse ++ .ref a :: rest) (hrm : (rest.map fun v => v.category).sum ≤ 8) (k : ZY l g cc own nm ret nL fr lo dc ds ho As QQ X u u1 pc' lv (rest)) : ZY l g cc own nm ret nL fr lo dc ds ho As QQ X u σ pc lv st := by
  subst hp
  exact ycall (pc + 3) hct.1.1 (fun B hc hs k => z_cVv B hw hC hd hct.2 hKa hn hR hst hrm ⟨hc, hs⟩ (fun u2 hu => by cases hu; exact k)) k
theorem yc_Sv {index maxL n fr' lo' : Nat} {y : MethodName} {bytes : ByteArray} {rt : Option FieldType} {Al rest : List Value} {X1 : Prop} {u1 : sx_T} (pc' : Nat) (hp : pc' = pc + 3) (hw : wx_S own index y bytes maxL rt n) (hd : decode cc pc = .ok (.invokestatic index, 3)) (hct : CT l g y bytes maxL rt fr' lo' Al X1 u1 σ (Qxv g u1)) (hn : Al.length = n) (hR : fr' + 1 ≤ fr ∧ 8 + (maxL + 11) + lo' ≤ lo) (hst : st = Al.reverse ++ rest) (hrm : (rest.map fun v => v.category).sum ≤ 8) (k : ZY l g cc own nm ret nL fr lo dc ds ho As QQ X u u1 pc' lv (rest)) : ZY l g cc own nm ret nL fr lo dc ds ho As QQ X u σ pc lv st := by
  subst hp
  exact ycall (pc + 3) hct.1.1 (fun B hc hs k => z_cSv B hw hd hct.2 hn hR hst hrm ⟨hc, hs⟩ (fun u2 hu => by cases hu; exact k)) k
theorem yc_I {index maxL n fr' lo' a : Nat} {y : MethodName} {bytes : ByteArray} {Al rest : List Value} {X1 : Prop} {u1 : sx_T} (pc' : Nat) (hp : pc' = pc + 3) (hw : wx_C own index y bytes maxL n) (hd : decode cc pc = .ok (.invokespecial index, 3)) (hct : CT l g y bytes maxL none fr' lo' (.ref a :: Al) X1 u1 σ (Qxv g u1)) (hn : Al.length = n) (hR : fr' + 1 ≤ fr ∧ 8 + (maxL + 11) + lo' ≤ lo) (hst : st = Al.reverse ++ .ref a :: rest) (hrm : (rest.map fun v => v.category).sum ≤ 8) (k : ZY l g cc own nm ret nL fr lo dc ds ho As QQ X u u1 pc' lv rest) : ZY l g cc own nm ret nL fr lo dc ds ho As QQ X u σ pc lv st := by
  subst hp
  exact ycall (pc + 3) hct.1.1 (fun B hc hs k => z_cI B hw hd hct.2 hn hR hst hrm ⟨hc, hs⟩ (fun u2 hu => by cases hu; exact k)) k
end YENDS
theorem z_metF {y : MethodName} {cc : ByteArray} {maxL fr lo mc ms : Nat} {ret : Option FieldType} {l : Launch} {As : List Value} {g : gx_T} {σ : sx_T} {Qc : Array Value → State → Outcome → State → Prop} (hy : plainFor y = true) (hlen : (lg_sl As).length ≤ maxL)
    (body : ∀ (p : Program) (e : Env) (s : State) (m : MethodId) (below : List Frame) (meth : Method) (c : Code), zx_B p s m As.toArray meth c cc y.cls maxL g → meth.sig.returnType = ret → meth.name = y.name → zx p l e { frames := fr, cells := mc, slots := ms, locals := lo } s m As.toArray below meth c g maxL 0 0 (MQ below Qc As.toArray s mc ms (gx_Q g)) σ 0 (lv_args 0 As) []) :
    Met l y (.code y cc maxL ret :: lw_g) { frames := fr, cells := mc, slots := ms, locals := lo } (va_Pc As (zx_w g σ)) Qc mc ms (gx_Q g) := by
  refine va_MetF (cc := cc) (maxL := maxL) (ret := ret) hy rfl ?_
  intro p e s m args below meth c s₁ B hml hv
  obtain ⟨rfl, hk, hh⟩ := hv
  have hts := atoms_spec (ws := .code y cc maxL ret :: lw_g) B.pre
  rw [lg_entry_eq]
  exact body p e s m below meth c ⟨B.exec, B.bytes, hml, findClass_of_methodNamed B.named, fun w hw => hts w (List.mem_cons_of_mem _ hw), B.notSynchronized, hk, hh.2.1⟩ B.returns (name_of_methodNamed B.named B.method).1 s.heap [] _ ⟨hh, va_S.rf⟩ (lv_entry As hlen)
section YMORE
variable {l : Launch} {g : gx_T} {cc : ByteArray} {own nm : String} {ret : Option FieldType} {nL fr lo dc ds : Nat} {ho : Bool} {As : Array Value} {QQ : List Frame → State → Nat → Nat → State → Prop} {X : Prop} {u σ σ' : sx_T} {pc : Nat} {lv lv' : List (Nat × Value)} {st st' : List Value}
/-- a step that wants frames and words -/
theorem ymR (pc' : Nat) {nf nw : Nat} (f : ∀ {p : Program} {e : Env} {R : Room} {s : State} {m : MethodId} {below : List Frame} {meth : Method} {c : Code} {cells slots : Nat} {Q : State → Prop}, zx_B p s m As meth c cc own nL g → nf ≤ R.frames → nw ≤ R.locals → zx p l e R s m As below meth c g nL cells slots Q σ pc' lv' st' → zx p l e R s m As below meth c g nL cells slots Q σ pc lv st) (h1 : nf ≤ fr) (h2 : nw ≤ lo) (k : ZY l g cc own nm ret nL fr lo dc ds ho As QQ X u σ pc' lv' st') : ZY l g cc own nm ret nL fr lo dc ds ho As QQ X u σ pc lv st :=
  ⟨k.1, fun p e s m below meth c B q1 q2 q3 cells slots mc ms hc hs => f B h1 h2 (k.2 p e s m below meth c B q1 q2 q3 cells slots mc ms hc hs)⟩
theorem yc_lv (e : lv = lv') (k : ZY l g cc own nm ret nL fr lo dc ds ho As QQ X u σ pc lv' st) : ZY l g cc own nm ret nL fr lo dc ds ho As QQ X u σ pc lv st := e ▸ k
def QX (g : gx_T) (As : Array Value) (Qc : Array Value → State → Outcome → State → Prop) (E : String) (u : sx_T) : List Frame → State → Nat → Nat → State → Prop := fun below s mc ms => vx_MQ below Qc (vx_X (fun u' : sx_T => ∃ z, sx_Z u ≤ z ∧ u' = wx_Z u z) (fun E' u' t => E' = E ∧ zx_h g u' t.heap) (gx_Q g)) As s mc ms (gx_Q g)
def CX (l : Launch) (g : gx_T) (y : MethodName) (cc : ByteArray) (maxL : Nat) (ret : Option FieldType) (fr lo : Nat) (As : List Value) (E : String) (u σ : sx_T) (Qc : Array Value → State → Outcome → State → Prop) : Prop := GG g σ u ∧ vx_Met l y (.code y cc maxL ret :: lw_g) { frames := fr, cells := sx_Z u - sx_Z σ + 1, slots := sx_S u - sx_S σ + 6, locals := lo } (va_Pc As (zx_w g σ)) Qc (vx_X (fun u' : sx_T => ∃ z, sx_Z u ≤ z ∧ u' = wx_Z u z) (fun E' u' t => E' = E ∧ zx_h g u' t.heap) (gx_Q g)) (sx_Z u - sx_Z σ + 1) (sx_S u - sx_S σ + 6) (gx_Q g)
theorem yc_metX {y : MethodName} {Al : List Value} {Qc : Array Value → State → Outcome → State → Prop} {E : String} (hy : plainName y.cls = true) (hlen : (lg_sl Al).length ≤ nL) (k : ZY l g cc y.cls y.name ret nL fr lo 1 6 true Al.toArray (QX g Al.toArray Qc E u) True u σ 0 (lv_args 0 Al) []) : CX l g y cc nL ret fr lo Al E u σ Qc :=
  ⟨k.1.1, z_metX hy hlen (fun p e s m below meth c B hr hin hout => k.2 p e s m below meth c B hr hin (fun _ => hout) 0 0 _ _ (by omega) (by omega))⟩
theorem yc_metF {y : MethodName} {Al : List Value} {Qc : Array Value → State → Outcome → State → Prop} (hy : plainFor y = true) (hlen : (lg_sl Al).length ≤ nL) (k : ZY l g cc y.cls y.name ret nL fr lo 0 0 false Al.toArray (QM g Al.toArray Qc) X u σ 0 (lv_args 0 Al) []) : CT l g y cc nL ret fr lo Al X u σ Qc :=
  ⟨k.1, z_metF hy hlen (fun p e s m below meth c B hr hin => k.2 p e s m below meth c B hr hin (fun h => by cases h) 0 0 _ _ (by omega) (by omega))⟩
theorem yt_throw {Qc : Array Value → State → Outcome → State → Prop} (hT : TS g σ) (hlt : l.stackTraces = false) {cls text : String} {ik is ic : Nat} (tx : tw own cls text ik is ic) (d0 : decode cc pc = .ok (.new ik, 3)) (d3 : decode cc (pc + 3) = .ok (.dup, 1)) (d4 : decode cc (pc + 4) = .ok (.ldc is, 2)) (d6 : decode cc (pc + 6) = .ok (.invokespecial ic, 3)) (d9 : decode cc (pc + 9) = .ok (.athrow, 1)) (hf : 5 < fr) (hl : (st.map fun v => v.category).sum + 82 ≤ lo) : ZY l g cc own nm ret nL fr lo 1 6 true As (QX g As Qc cls σ) True σ σ pc lv st :=
  ⟨⟨GG_r hT, trivial⟩, fun p e s m below meth c B _ _ h3 cells slots mc ms hc hs => z_throw B hlt (h3 rfl) tx d0 d3 d4 d6 d9 hf hl (by show cells + 1 ≤ mc; omega) (by show slots + 6 ≤ ms; omega) (by omega) (by omega) (fun z hz => ⟨z, hz, rfl⟩)⟩
theorem yt_throwW {Qc : Array Value → State → Outcome → State → Prop} (hT : TS g σ) (hlt : l.stackTraces = false) {cls text : String} {ik is ic : Nat} (tx : tw own cls text ik is ic) (d0 : decode cc pc = .ok (.new ik, 3)) (d3 : decode cc (pc + 3) = .ok (.dup, 1)) (d4 : decode cc (pc + 4) = .ok (.ldc_w is, 3)) (d7 : decode cc (pc + 7) = .ok (.invokespecial ic, 3)) (d10 : decode cc (pc + 10) = .ok (.athrow, 1)) (hf : 5 < fr) (hl : (st.map fun v => v.category).sum + 82 ≤ lo) : ZY l g cc own nm ret nL fr lo 1 6 true As (QX g As Qc cls σ) True σ σ pc lv st :=
  ⟨⟨GG_r hT, trivial⟩, fun p e s m below meth c B _ _ h3 cells slots mc ms hc hs => z_throwW B hlt (h3 rfl) tx d0 d3 d4 d7 d10 hf hl (by show cells + 1 ≤ mc; omega) (by show slots + 6 ≤ ms; omega) (by omega) (by omega) (fun z hz => ⟨z, hz, rfl⟩)⟩
end YMORE
section ZMORE
variable {p : Program} {l : Launch} {e : Env} {R : Room} {s : State} {m : MethodId} {args : Array Value} {below : List Frame} {meth : Method} {c : Code} {g : gx_T} {nL cells slots : Nat} {Q : State → Prop} {σ : sx_T} {pc : Nat} {lv : List (Nat × Value)} {st : List Value} {cc : ByteArray} {own : String}
theorem z_castN (B : zx_B p s m args meth c cc own nL g) {index : Nat} {C : String} (_hw : Cond.classLink own index C ∈ lw_g) (hd : decode cc pc = .ok (.checkcast index, 3)) (kk : zx p l e R s m args below meth c g nL cells slots Q σ (pc + 3) lv (.null :: st)) : zx p l e R s m args below meth c g nL cells slots Q σ pc lv (.null :: st) := fun H locs ls hM hl => lv_castN B.1 B.2.1 hd (kk H locs ls hM hl)
theorem z_cast (B : zx_B p s m args meth c cc own nL g) {ci N index a : Nat} {C : String} {T : u_T} {ty0 : Nat → FieldType} (hC : cx_ok ci C T N ty0) (hw : Cond.classLink own index C ∈ lw_g) (hKa : sx_K σ a = ci + 1) (hd : decode cc pc = .ok (.checkcast index, 3)) (kk : zx p l e R s m args below meth c g nL cells slots Q σ (pc + 3) lv (.ref a :: st)) : zx p l e R s m args below meth c g nL cells slots Q σ pc lv (.ref a :: st) := by
  intro H locs ls hM hl
  obtain ⟨r, h1, cell, q1, q2, q3, -⟩ := zh_o hM.1 hKa hC.2.2.2.2.1
  have hcls := (B.2.2.2.2.2.2.1.1.1 ci _ hC.1).2
  refine va_castS B.1 B.2.1 B.2.2.2.1 (B.2.2.2.2.1 _ hw) hcls ⟨cell, q1, by rw [q3]; rfl, by rw [q2]; exact hcls.1⟩ hd (kk H locs ls hM hl)
theorem z_tabDf (B : zx_B p s m args meth c cc own nL g) {dflt lo hi : Int} {offs : Array Int} {len : Nat} {x : Int32} {tgt : Nat} {vs : List Int32} (hd : decode cc pc = .ok (.tableswitch dflt lo hi offs, len)) (ht : (pc : Int) + dflt = (tgt : Int)) (hsz : hi < lo + offs.size) (hall : (List.range offs.size).all (fun i => offs.getD i 0 == dflt || vs.contains (Int32.ofInt (lo + (i : Int)))) = true) (hne : ∀ v ∈ vs, ¬ x = v) (k : zx p l e R s m args below meth c g nL cells slots Q σ tgt lv st) : zx p l e R s m args below meth c g nL cells slots Q σ pc lv (.int x :: st) := by
  by_cases h1 : x.toInt < lo
  · exact z_tableOut B hd (Or.inl h1) ht k
  by_cases h2 : hi < x.toInt
  · exact z_tableOut B hd (Or.inr h2) ht k
  have hi1 : (x.toInt - lo).toNat < offs.size := by omega
  have h9 := List.all_eq_true.mp hall _ (List.mem_range.mpr hi1)
  rw [Bool.or_eq_true] at h9
  have hx : (lo + (((x.toInt - lo).toNat : Nat) : Int)) = x.toInt := by omega
  rcases h9 with h9 | h9
  · have e1 : offs.getD (x.toInt - lo).toNat 0 = dflt := beq_iff_eq.mp h9
    have e2 : offs[(x.toInt - lo).toNat]? = some dflt := by
      rw [Array.getElem?_eq_getElem hi1]
      rw [Array.getD_eq_getD_getElem?, Array.getElem?_eq_getElem hi1] at e1
      exact congrArg some e1
    exact z_tableIn B hd h1 h2 e2 ht k
  · rw [hx, Int32.ofInt_toInt] at h9
    exact absurd rfl (hne x (by simpa using h9))
end ZMORE
/-! LISTS: the array of a list is an Object[], or the one that all new lists share -/
def rkE (g : gx_T) (σ : sx_T) (v : Option Nat) : Prop := ∀ a, v = some a → sx_K σ a = 17 ∨ a = gx_e g
def lenE (σ : sx_T) (a : Nat) : Nat := if sx_K σ a = 17 then sx_N σ a else 0
def lim {α : Type} (x : Int32) (k : Option α) : Option α := if 0 ≤ x.toInt ∧ x.toInt ≤ 100000 then k else none
theorem lim_e {α : Type} {i : Int32} {x : α} {k : Option α} (h : lim i k = some x) : (0 ≤ i.toInt ∧ i.toInt ≤ 100000) ∧ k = some x := by
  unfold lim at h
  split at h
  · rename_i q
    exact ⟨q, h⟩
  · cases h
theorem rkE_a {g : gx_T} {σ : sx_T} {a : Nat} (h : sx_K σ a = 17 ∨ a = gx_e g) : rkE g σ (some a) := fun b hb => by cases hb; exact h
theorem rkE_T {g : gx_T} {σ : sx_T} {a : Nat} {v : Option Nat} (hT : TS g σ) (hk : sx_K σ a = 1) (e : sx_R σ a 1 = v) : rkE g σ v := fun r hr => hT.2.2.2.1 a r hk (e.trans hr)
theorem kE_G {g : gx_T} {σ u : sx_T} {a : Nat} (hG : GG g σ u) (h : sx_K σ a = 17 ∨ a = gx_e g) : sx_K u a = 17 ∨ a = gx_e g := h.imp (fun h => k_G hG (by decide) h) id
theorem rkE_G {g : gx_T} {σ u : sx_T} {v : Option Nat} (hG : GG g σ u) (h : rkE g σ v) : rkE g u v := fun a ha => kE_G hG (h a ha)
theorem kE_I {g : gx_T} {σ : sx_T} {a k b : Nat} {x : Int32} (h : sx_K σ b = 17 ∨ b = gx_e g) : sx_K (wx_I σ a k x) b = 17 ∨ b = gx_e g := h
theorem qE_I {g : gx_T} {σ : sx_T} {a k : Nat} {x : Int32} {v : Option Nat} (h : rkE g σ v) : rkE g (wx_I σ a k x) v := h
theorem kE_J {g : gx_T} {σ : sx_T} {a k b : Nat} {x : Int64} (h : sx_K σ b = 17 ∨ b = gx_e g) : sx_K (wx_J σ a k x) b = 17 ∨ b = gx_e g := h
theorem qE_J {g : gx_T} {σ : sx_T} {a k : Nat} {x : Int64} {v : Option Nat} (h : rkE g σ v) : rkE g (wx_J σ a k x) v := h
theorem kE_R {g : gx_T} {σ : sx_T} {a k b : Nat} {x : Option Nat} (h : sx_K σ b = 17 ∨ b = gx_e g) : sx_K (wx_R σ a k x) b = 17 ∨ b = gx_e g := h
theorem qE_R {g : gx_T} {σ : sx_T} {a k : Nat} {x : Option Nat} {v : Option Nat} (h : rkE g σ v) : rkE g (wx_R σ a k x) v := h
/-- an array of references, its first n places taken from another -/
def wx_cp (σ : sx_T) (b a n : Nat) : sx_T := (sx_K σ, sx_N σ, sx_I σ, sx_J σ, fun c k => if c = b ∧ k < n then sx_R σ a k else sx_R σ c k, sx_Z σ, sx_S σ)
theorem xF_cpy {cA : Nat → ClassId} {σ : sx_T} {a b n : Nat} (hb : sx_K σ b = 17) (c : Nat) : va_up (sx_F cA σ) b (.inl (cA 17, sx_N σ b, .inr (.inr (.inr (.inr (va_cpy (sx_R σ a) (sx_R σ b) 0 0 n)))))) c = sx_F cA (wx_cp σ b a n) c := by
  by_cases hc : c = b
  · subst hc
    rw [va_up_self, xF_q (σ := wx_cp σ c a n) (kd := 17) hb (Or.inr (Or.inr rfl))]
    congr 3
    apply congrArg
    apply congrArg
    apply congrArg
    apply congrArg
    funext j
    show (if 0 ≤ j ∧ j < 0 + n then sx_R σ a (0 + (j - 0)) else sx_R σ c j) = (if c = c ∧ j < n then sx_R σ a j else sx_R σ c j)
    by_cases hj : j < n
    · rw [if_pos ⟨Nat.zero_le _, by omega⟩, if_pos ⟨rfl, hj⟩]
      congr 1
      omega
    · rw [if_neg (by omega), if_neg (by omega)]
  · rw [va_up_ne _ _ hc]
    refine (xF_same (σ := σ) (τ := wx_cp σ b a n) (a := c) rfl rfl (fun _ => rfl) (fun _ => rfl) (fun j => ?_)).symm
    show (if c = b ∧ j < n then sx_R σ a j else sx_R σ c j) = sx_R σ c j
    rw [if_neg (fun q => hc q.1)]
theorem TS_C {g : gx_T} {σ : sx_T} {a b n : Nat} (hT : TS g σ) (ha : sx_K σ a = 17) (hb : sx_K σ b = 17) : TS g (wx_cp σ b a n) := by
  refine ⟨fun c k r h0 hr => ?_, hT.2.1, hT.2.2.1, fun c r hc hr => ?_, hT.2.2.2.2⟩
  · have hr' : (if c = b ∧ k < n then sx_R σ a k else sx_R σ c k) = some r := hr
    have h0' : ty_r (sx_K σ c) k ≠ 0 := h0
    show sx_K σ r = ty_r (sx_K σ c) k
    by_cases q : c = b ∧ k < n
    · rw [if_pos q] at hr'
      have e : ty_r (sx_K σ c) k = ty_r (sx_K σ a) k := by rw [q.1, hb, ha]
      rw [e] at h0' ⊢
      exact hT.1 a k r h0' hr'
    · rw [if_neg q] at hr'
      exact hT.1 c k r h0' hr'
  · have hr' : (if c = b ∧ 1 < n then sx_R σ a 1 else sx_R σ c 1) = some r := hr
    have hc' : sx_K σ c = 1 := hc
    rw [if_neg (fun q => by rw [q.1, hb] at hc'; cases hc')] at hr'
    exact hT.2.2.2.1 c r hc' hr'
section ZLIST
variable {p : Program} {l : Launch} {e : Env} {R : Room} {s : State} {m : MethodId} {args : Array Value} {below : List Frame} {meth : Method} {c : Code} {g : gx_T} {nL cells slots : Nat} {Q : State → Prop} {σ σ' : sx_T} {pc : Nat} {lv : List (Nat × Value)} {st : List Value} {cc : ByteArray} {own : String}
theorem z_castQ (B : zx_B p s m args meth c cc own nL g) {ci N index : Nat} {v : Option Nat} {C : String} {T : u_T} {ty0 : Nat → FieldType} (hC : cx_ok ci C T N ty0) (hw : Cond.classLink own index C ∈ lw_g) (hv : rk σ v (ci + 1)) (hd : decode cc pc = .ok (.checkcast index, 3)) (kk : zx p l e R s m args below meth c g nL cells slots Q σ (pc + 3) lv (va_rf v :: st)) : zx p l e R s m args below meth c g nL cells slots Q σ pc lv (va_rf v :: st) := by
  cases v with
  | none => exact z_castN B hw hd kk
  | some a => exact z_cast B hC hw (hv a rfl) hd kk
theorem z_qast17 (B : zx_B p s m args meth c cc own nL g) {a j ci v N : Nat} {i : Int32} {C : String} {T : u_T} {ty0 : Nat → FieldType} (hC : cx_ok ci C T N ty0) (hw : Cond.castable C "java/lang/Object" ∈ lw_n) (hKv : sx_K σ v = ci + 1) (hKa : sx_K σ a = 17) (hj : i.toNatClampNeg = j) (hin : vp_in i (sx_N σ a)) (hσ : wx_R σ a j (some v) = σ') (hd : decode cc pc = .ok (.aastore, 1)) (kk : zx p l e R s m args below meth c g nL cells slots Q σ' (pc + 1) lv st) : zx p l e R s m args below meth c g nL cells slots Q σ pc lv (.ref v :: .int i :: .ref a :: st) := by
  intro H locs ls hM hl
  subst hσ
  have ha := zh_q hM.1 hKa (Or.inr (Or.inr rfl))
  have hlt : i.toNatClampNeg < sx_N σ a := Nat.not_le.mp fun q => hin (Or.inr q)
  have h0 : ¬ i < 0 := fun q => hin (Or.inl q)
  obtain ⟨r', hr', cellV, g1, g2, g3, -⟩ := zh_o hM.1 hKv hC.2.2.2.2.1
  have hK9 := B.2.2.2.2.2.2.1.1
  have hcls := (hK9.1 ci _ hC.1).2
  obtain ⟨kA, comp, k1, k2, k3, -⟩ := (hK9.2 5 _ rfl).2
  obtain ⟨c0, t0, f1, f2, f3⟩ := Cond.castable_spec (va_Nw.use (A := args) rfl (B.2.2.2.2.2.2.1.2.1 _ hw))
  cases f2.symm.trans k3
  cases f1.symm.trans hcls.1
  obtain ⟨kE, hkE, -⟩ := Vm.findClass_spec k3
  obtain ⟨kC, hkC, -⟩ := hcls.2
  refine W.aast B.1 B.2.1 ha (fun q h => by cases h) (fun h => by cases h) k1 k2 rfl hkE ⟨h0, by show _ < (arrV _ _ _).slots.size; rw [arrV_size]; exact hlt⟩ g1 (fun q h => by rw [g3] at h; cases h) (by rw [g2]; exact hkC) (by rw [g2]; exact f3) rfl rfl hd fun H1 e z oq => ?_
  refine kk H1 _ ls (zm_put (j := i.toNatClampNeg) hM (by rw [hKa]; omega) (xF_stR (i := j) (x := some v) hKa (Or.inr (Or.inr rfl))) (fun _ => rfl) rfl ?_ z oq) hl
  show H1[a]? = some (vp_cell _ _)
  rw [e]
  rw [vp_cell_q, vp_cell_q, arrV_store]
  congr 2
  funext q
  rw [hj]
  by_cases hq : q = j
  · subst hq
    simp [updV, va_up, va_rf]
  · simp [updV, va_up, hq]
theorem z_alenE (B : zx_B p s m args meth c cc own nL g) (hT : TS g σ) {a : Nat} {v : Int32} (hE : sx_K σ a = 17 ∨ a = gx_e g) (hv : Int32.ofNat (lenE σ a) = v) (hd : decode cc pc = .ok (.arraylength, 1)) (kk : zx p l e R s m args below meth c g nL cells slots Q σ (pc + 1) lv (.int v :: st)) : zx p l e R s m args below meth c g nL cells slots Q σ pc lv (.ref a :: st) := by
  subst hv
  by_cases h17 : sx_K σ a = 17
  · refine z_alen (kd := 17) (ti := 5) B h17 (by decide) rfl ?_ hd kk
    show _ = Int32.ofNat (if sx_K σ a = 17 then sx_N σ a else 0)
    rw [if_pos h17]
  · have he : a = gx_e g := hE.resolve_left h17
    have e0 : lenE σ a = 0 := if_neg h17
    rw [e0] at kk
    subst he
    intro H locs ls hM hl
    obtain ⟨cell, q1, q2, q3, q4⟩ := B.2.2.2.2.2.2.1.2.2.2.2.2.2.2.2.2
    have hc : H[gx_e g]? = some cell := (hM.1.2.2.1 _ hT.2.2.2.2.2).trans q1
    have hAr : s.isArrayOf (arrV (gx_A g 17) 0 (fun _ => .null)) (.object "java/lang/Object") := (B.2.2.2.2.2.2.1.1.2 5 _ rfl).1 0 (fun _ => .null)
    exact W.alen B.1 B.2.1 hc (ty := .object "java/lang/Object") ⟨q3, by rw [q2]; exact hAr.2⟩ (by rw [q4]) rfl rfl hd (kk H locs ls hM hl)
theorem z_qretA (B : zx_B p s m args meth c cc own nL g) {mc ms : Nat} {post : Option Nat → sx_T → Prop} {r : Option Nat} {t : FieldType} (hr : meth.sig.returnType = some (.array t)) (hc : cells ≤ mc) (hs : slots ≤ ms) (hd : decode cc pc = .ok (.areturn, 1)) (hp : post r σ) : zx p l e R s m args below meth c g nL cells slots (MQ below (va_Qq post (zx_w g) (gx_Q g)) args s mc ms (gx_Q g)) σ pc lv [va_rf r] := fun H locs ls hM hl => W.widen hc hs (W.aret (v := va_rf r) B.1 B.2.1 hr (Or.inr ⟨t, rfl⟩) (va_rf_or r) (fun t ht hW => ⟨⟨r, σ, rfl, hp, ⟨zk_warm hW B.2.2.2.2.2.2.1, by rw [ht]; exact hM.1⟩⟩, hM.2.F ht⟩) hM.2.2.2 hd (hlocks := B.2.2.2.2.2.1))
/-- the class of an Object[], asked, and as a constant -/
theorem z_getC (B : zx_B p s m args meth c cc own nL g) {index a : Nat} (hKa : sx_K σ a = 17) (hw : Cond.methodLink own index ⟨"java/lang/Object", "getClass", "()Ljava/lang/Class;"⟩ ∈ lw_g) (hsel : Cond.selects mi_oa ⟨"java/lang/Object", "getClass", "()Ljava/lang/Class;"⟩ ⟨"java/lang/Object", "getClass", "()Ljava/lang/Class;"⟩ ∈ lw_g) (hinst : Cond.instanceMethod ⟨"java/lang/Object", "getClass", "()Ljava/lang/Class;"⟩ ∈ lw_g) (hnat : Cond.native ⟨"java/lang/Object", "getClass", "()Ljava/lang/Class;"⟩ ∈ lw_g) (hf : 1 ≤ R.frames) (hlo : (st.map fun v => v.category).sum + 14 ≤ R.locals) (hd : decode cc pc = .ok (.invokevirtual index, 3)) (kk : zx p l e R s m args below meth c g nL cells slots Q σ (pc + 3) lv (.ref (gx_m g) :: st)) : zx p l e R s m args below meth c g nL cells slots Q σ pc lv (.ref a :: st) := by
  intro H locs ls hM hl
  have hmi := B.2.2.2.2.2.2.1.2.2.2.2.2.2.2.1
  have ha := zh_q hM.1 hKa (Or.inr (Or.inr rfl))
  have hnm : s.vm.findClass mi_oa = some (gx_A g 17) := va_nmO (B.2.2.2.2.2.2.1.1.2 5 _ rfl).2 (by decide)
  exact va_getC B.1 B.2.1 (by rw [B.2.2.1]; exact hl.1.symm) B.2.2.2.1 (B.2.2.2.2.1 _ hw) (va_Dc.use B.2.2.2.2.2.2.1.2.2.2.2.2.2.2.2.1) (B.2.2.2.2.1 _ hsel) (B.2.2.2.2.1 _ hinst) (B.2.2.2.2.1 _ hnat) hmi ⟨_, ha, rfl, hnm⟩ hf hlo hd (kk H locs ls hM hl)
theorem z_ldcM (B : zx_B p s m args meth c cc own nL g) {index : Nat} (hw : Cond.classLink own index mi_oa ∈ lw_g) (hd : decode cc pc = .ok (.ldc index, 2)) (kk : zx p l e R s m args below meth c g nL cells slots Q σ (pc + 2) lv (.ref (gx_m g) :: st)) : zx p l e R s m args below meth c g nL cells slots Q σ pc lv st := fun H locs ls hM hl => va_ldcM B.1 B.2.1 B.2.2.2.1 (B.2.2.2.2.1 _ hw) B.2.2.2.2.2.2.1.2.2.2.2.2.2.2.1 hd (kk H locs ls hM hl)
/-- System.arraycopy of the first places of an Object[] into another -/
theorem z_copyq (B : zx_B p s m args meth c cc own nL g) {index a b : Nat} {n : Int32} (hT : TS g σ) (hKa : sx_K σ a = 17) (hKb : sx_K σ b = 17) (hw : Cond.methodLink own index arraycopyName ∈ lw_g) (hnat : Cond.native arraycopyName ∈ lw_g) (hstat : Cond.static arraycopyName ∈ lw_g) (hini : Cond.initialized "java/lang/System" ∈ lw_g) (hcast : Cond.castable "Loomkeeper$Task" "java/lang/Object" ∈ lw_n) (h3 : ¬ n < 0) (h4 : n.toNatClampNeg ≤ sx_N σ a) (h5 : n.toNatClampNeg ≤ sx_N σ b) (hf : 1 ≤ R.frames) (hlo : (st.map fun v => v.category).sum + (nativeFrameWords "java/lang/System" "arraycopy" 5 + 11) ≤ R.locals) (hd : decode cc pc = .ok (.invokestatic index, 3)) (hσ : wx_cp σ b a n.toNatClampNeg = σ') (kk : zx p l e R s m args below meth c g nL cells slots Q σ' (pc + 3) lv st) : zx p l e R s m args below meth c g nL cells slots Q σ pc lv (.int n :: .int 0 :: .ref b :: .int 0 :: .ref a :: st) := by
  subst hσ
  intro H locs ls hM hl T hT0 X
  have hn : n.toInt = (n.toNatClampNeg : Int) := by
    have h9 := Int32.le_iff_toInt_le.mp (Int32.not_lt.mp h3)
    have h8 : (0 : Int32).toInt = 0 := by decide
    show n.toInt = ((n.toInt.toNat : Nat) : Int)
    omega
  have ha := zh_q hM.1 hKa (Or.inr (Or.inr rfl))
  have hb := zh_q hM.1 hKb (Or.inr (Or.inr rfl))
  have hK9 := B.2.2.2.2.2.2.1.1
  obtain ⟨-, k0, hk0, cm0, hkk0⟩ := (hK9.2 5 _ rfl).1 (sx_N σ a) (fun j => va_rf (sx_R σ a j))
  obtain ⟨-, k1, hk1, cm1, hkk1⟩ := (hK9.2 5 _ rfl).1 (sx_N σ b) (fun j => va_rf (sx_R σ b j))
  obtain ⟨c0, t0, f1, f2, f3⟩ := Cond.castable_spec (va_Nw.use (A := args) rfl (B.2.2.2.2.2.2.1.2.1 _ hcast))
  have hsz : ∀ (q : Nat) (f : Nat → Option Nat) (cA : ClassId) (k : Nat), (vp_cell cA (k, .inr (.inr (.inr (.inr f))))).slots.size = k := fun q f cA k => arrV_size _ _ _
  obtain ⟨vm', X', step⟩ := X.arraycopy B.1 B.2.2.2.1 (B.2.2.2.2.1 _ hw) (B.2.2.2.2.1 _ hnat) (B.2.2.2.2.1 _ hstat) (B.2.2.2.2.1 _ hini) (src := a) (dst := b) (cs := vp_cell (gx_A g 17) (sx_N σ a, .inr (.inr (.inr (.inr (sx_R σ a)))))) (cd := vp_cell (gx_A g 17) (sx_N σ b, .inr (.inr (.inr (.inr (sx_R σ b)))))) (srcPos := 0) (destPos := 0) (n := n) (by rw [hT0]; exact ha) (by rw [hT0]; exact hb) (fun _ h => by cases h) (fun _ h => by cases h) (fun h => by cases h) (fun h => by cases h) hk0 hk1 hkk0 hkk1 rfl (by decide) (by decide) h3
    (by rw [hsz 0, show (0 : Int32).toInt = 0 from by decide]; omega) (by rw [hsz 0, show (0 : Int32).toInt = 0 from by decide]; omega)
    (fun vm1 hal i hi => by
      have e1 : (vp_cell (gx_A g 17) (sx_N σ a, .inr (.inr (.inr (.inr (sx_R σ a)))))).slots.getD ((0 : Int32).toNatClampNeg + i) .null = va_rf (sx_R σ a i) := by
        show (arrV _ _ (fun j => va_rf (sx_R σ a j))).slots.getD _ _ = _
        rw [show (0 : Int32).toNatClampNeg + i = i from by rw [show (0 : Int32).toNatClampNeg = 0 from by decide]; omega, Array.getD_eq_getD_getElem?, arrV_read _ _ (by omega)]
        rfl
      rw [e1]
      cases hy : sx_R σ a i with
      | none => exact ⟨rfl, trivial⟩
      | some y =>
        have hKy : sx_K σ y = 8 + 1 := by
          have h8 : ty_r (sx_K σ a) i = 9 := by rw [hKa]; rfl
          exact (hT.1 a i y (by rw [h8]; decide) hy).trans h8
        obtain ⟨r', hr', cellV, g1, g2, g3, -⟩ := zh_o hM.1 hKy (by decide)
        have hcls := (hK9.1 8 _ rfl).2
        obtain ⟨kA, comp, r1, r2, r3, -⟩ := (hK9.2 5 _ rfl).2
        cases f2.symm.trans r3
        cases f1.symm.trans hcls.1
        cases hk1.symm.trans r1
        cases hkk1.symm.trans r2
        obtain ⟨kC, hkC, -⟩ := hcls.2
        obtain ⟨kE, hkE, -⟩ := Vm.findClass_spec r3
        obtain ⟨kC', hkC', -⟩ := hal.2.2 _ _ hkC
        obtain ⟨kE', hkE', -⟩ := hal.2.2 _ _ hkE
        refine ⟨rfl, cellV, (show T.heap[y]? = some cellV by rw [hT0]; exact g1), (fun q h => by rw [g3] at h; cases h), ⟨kC', by rw [g2]; exact hkC'⟩, ⟨kE', hkE'⟩, ?_⟩
        show vm1.assignable _ _ = true
        rw [hal.assignable, g2]
        exact f3)
    (g := F0 m pc ls (.int n :: .int 0 :: .ref b :: .int 0 :: .ref a :: st)) rfl (by rw [B.2.2.1]; exact hl.1) (rest := st) rfl (by rw [B.2.1]; exact hd) hf (by show 2 * 0 + _ + _ ≤ _; omega)
  have e1 : copied (vp_cell (gx_A g 17) (sx_N σ a, .inr (.inr (.inr (.inr (sx_R σ a)))))) (vp_cell (gx_A g 17) (sx_N σ b, .inr (.inr (.inr (.inr (sx_R σ b)))))) 0 0 n = vp_cell (gx_A g 17) (sx_N σ b, .inr (.inr (.inr (.inr (va_cpy (sx_R σ a) (sx_R σ b) 0 0 n.toNatClampNeg))))) := by
    rw [vp_cell_q, vp_cell_q, vp_cell_q]
    exact va_copied (fun z => va_rf z) (gx_A g 17) (gx_A g 17) (sx_R σ a) (sx_R σ b) (sp := 0) (dp := 0) (by omega)
  rw [e1] at X' step
  generalize hnew : vp_cell (gx_A g 17) (sx_N σ b, .inr (.inr (.inr (.inr (va_cpy (sx_R σ a) (sx_R σ b) 0 0 n.toNatClampNeg))))) = new at X' step
  have hlt : b < H.size := (Array.getElem?_eq_some_iff.mp hb).1
  have hheap : ((T.setVm vm').setCell b new).heap = H.setIfInBounds b new := by rw [← hT0]; rfl
  have oq : ∀ q : Nat, q ≠ b → (H.setIfInBounds b new)[q]? = H[q]? := fun q hq => by simp [Array.getElem?_setIfInBounds, Ne.symm hq]
  have hM1 := zm_put (σ' := wx_cp σ b a n.toNatClampNeg) (H1 := H.setIfInBounds b new) (j := 0) hM (by rw [hKb]; decide) (xF_cpy hKb) (fun _ => rfl) rfl (by show (H.setIfInBounds b new)[b]? = some _; rw [hnew]; simp [Array.getElem?_setIfInBounds, hlt]) (by simp) oq
  have hgb : gx_b g ≤ b := (hT.2.2.1 b (by rw [hKb]; decide)).2
  obtain ⟨t, a1, b1⟩ := kk (H.setIfInBounds b new) _ ls ⟨hM1.1, ⟨hM1.2.1, hM1.2.2.1, fun q hq => by
      rcases List.mem_append.mp hq with h | h
      · exact hM.2.2.2 q h
      · obtain ⟨z, -, hz⟩ := List.mem_map.mp h
        rw [← hz]
        exact hgb⟩⟩ hl _ hheap X'
  exact ⟨t, step t a1, b1⟩
end ZLIST
section YLIST
variable {l : Launch} {g : gx_T} {cc : ByteArray} {own nm : String} {ret : Option FieldType} {nL fr lo dc ds : Nat} {ho : Bool} {As : Array Value} {QQ : List Frame → State → Nat → Nat → State → Prop} {X : Prop} {u σ σ' : sx_T} {pc : Nat} {lv lv' : List (Nat × Value)} {st st' : List Value}
theorem yr_qA {v : Option Nat} {t : FieldType} (hT : TS g σ) (hX : X) (hr : ret = some (.array t)) (hd : decode cc pc = .ok (.areturn, 1)) : ZY l g cc own nm ret nL fr lo 0 0 ho As (QM g As (Qxq g v σ)) X σ σ pc lv [va_rf v] := ⟨⟨GG_r hT, hX⟩, fun p e s m below meth c B h1 _ _ cells slots mc ms hc hs => z_qretA B (h1.trans hr) (by omega) (by omega) hd ⟨rfl, rfl⟩⟩
end YLIST
section ZLIST2
variable {p : Program} {l : Launch} {e : Env} {R : Room} {s : State} {m : MethodId} {args : Array Value} {below : List Frame} {meth : Method} {c : Code} {g : gx_T} {nL cells slots : Nat} {Q : State → Prop} {σ σ' : sx_T} {pc : Nat} {lv : List (Nat × Value)} {st : List Value} {cc : ByteArray} {own : String}
theorem z_qastQ17 (B : zx_B p s m args meth c cc own nL g) {a j ci N : Nat} {v : Option Nat} {i : Int32} {C : String} {T : u_T} {ty0 : Nat → FieldType} (hC : cx_ok ci C T N ty0) (hw : Cond.castable C "java/lang/Object" ∈ lw_n) (hv : rk σ v (ci + 1)) (hKa : sx_K σ a = 17) (hj : i.toNatClampNeg = j) (hin : vp_in i (sx_N σ a)) (hσ : wx_R σ a j v = σ') (hd : decode cc pc = .ok (.aastore, 1)) (kk : zx p l e R s m args below meth c g nL cells slots Q σ' (pc + 1) lv st) : zx p l e R s m args below meth c g nL cells slots Q σ pc lv (va_rf v :: .int i :: .ref a :: st) := by
  cases v with
  | none => exact z_qastN (kd := 17) (ti := 5) B hKa (Or.inr (Or.inr rfl)) rfl hj hin hσ hd kk
  | some b => exact z_qast17 B hC hw (hv b rfl) hKa hj hin hσ hd kk
end ZLIST2
theorem rkE_of {g : gx_T} {σ : sx_T} {v : Option Nat} (h : rk σ v 17) : rkE g σ v := fun a ha => Or.inl (h a ha)
theorem lim_n {x : Int32} (h : 0 ≤ x.toInt ∧ x.toInt ≤ 100000) : ¬ x < 0 := fun q => by
  have h9 := Int32.lt_iff_toInt_lt.mp q
  have h8 : (0 : Int32).toInt = 0 := by decide
  omega
theorem lim_b {x : Int32} (h : 0 ≤ x.toInt ∧ x.toInt ≤ 100000) : ti x * 4 ≤ 536870912 := by
  unfold ti
  omega
