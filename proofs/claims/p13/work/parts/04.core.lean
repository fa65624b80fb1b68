/-! THE STORE: kinds, lengths, ints, longs, references by address and place; how many cells -/
abbrev sx_T : Type := (Nat → Nat) × (Nat → Nat) × (Nat → Nat → Int32) × (Nat → Nat → Int64) × (Nat → Nat → Option Nat) × Nat × Nat
def sx_K (σ : sx_T) : Nat → Nat := σ.1
def sx_N (σ : sx_T) : Nat → Nat := σ.2.1
def sx_I (σ : sx_T) : Nat → Nat → Int32 := σ.2.2.1
def sx_J (σ : sx_T) : Nat → Nat → Int64 := σ.2.2.2.1
def sx_R (σ : sx_T) : Nat → Nat → Option Nat := σ.2.2.2.2.1
def sx_Z (σ : sx_T) : Nat := σ.2.2.2.2.2.1
/-- slots made (a book of our own) -/
def sx_S (σ : sx_T) : Nat := σ.2.2.2.2.2.2
/-- the fields of each class: 0 an int, 1 a long, 2 a reference -/
def sx_s : Nat → List Nat
  | 0 => [0, 2, 0]
  | 1 => [0, 2, 2, 2, 0, 0, 0, 2, 0]
  | 2 => [2, 2, 0]
  | 3 => [2, 0, 0]
  | 4 => [2, 0]
  | 5 => [0, 2, 2, 2]
  | 6 => [2, 2, 2, 2, 0, 0, 0, 0, 0, 0, 0, 1, 0, 0, 0, 0, 0, 1, 0, 0]
  | 7 => [2, 0]
  | 8 => [0, 2, 0, 0, 0, 0, 0]
  | 9 => [2, 2, 2, 2, 2, 2, 2, 0, 0, 0, 0]
  | 10 => [0, 0, 0, 2, 2, 2, 0, 2, 2, 2, 2, 2, 2, 2, 2, 2, 0, 2, 2, 2, 2, 2, 2, 0, 0, 2, 0, 0, 0, 0, 0, 0, 0, 2, 0, 0, 0, 0, 0, 0, 2, 2, 2, 0, 2, 0, 2, 0, 0, 0]
  | _ => []
def sx_sz (kd n : Nat) : Nat := if kd < 12 then (sx_s (kd - 1)).length else n
def sx_u {α : Type} (f : Nat → Nat → α) (a k : Nat) (x : α) : Nat → Nat → α := fun b j => if b = a ∧ j = k then x else f b j
def wx_I (σ : sx_T) (a k : Nat) (x : Int32) : sx_T := (sx_K σ, sx_N σ, sx_u (sx_I σ) a k x, sx_J σ, sx_R σ, sx_Z σ, sx_S σ)
def wx_J (σ : sx_T) (a k : Nat) (x : Int64) : sx_T := (sx_K σ, sx_N σ, sx_I σ, sx_u (sx_J σ) a k x, sx_R σ, sx_Z σ, sx_S σ)
def wx_R (σ : sx_T) (a k : Nat) (x : Option Nat) : sx_T := (sx_K σ, sx_N σ, sx_I σ, sx_J σ, sx_u (sx_R σ) a k x, sx_Z σ, sx_S σ)
/-- a new cell, of a kind, of a length, all zero -/
def wx_N (σ : sx_T) (kd n : Nat) : sx_T := (fun a => if a = sx_Z σ then kd else sx_K σ a, fun a => if a = sx_Z σ then n else sx_N σ a, fun a k => if a = sx_Z σ then 0 else sx_I σ a k, fun a k => if a = sx_Z σ then 0 else sx_J σ a k, fun a k => if a = sx_Z σ then none else sx_R σ a k, sx_Z σ + 1, sx_S σ + sx_sz kd n)
/-- cells that nobody speaks of -/
def wx_Z (σ : sx_T) (z : Nat) : sx_T := (sx_K σ, sx_N σ, sx_I σ, sx_J σ, sx_R σ, z, sx_S σ)
theorem ux_eq {α : Type} {f : Nat → Nat → α} {a k : Nat} {x : α} : sx_u f a k x a k = x := by simp [sx_u]
theorem ux_ne {α : Type} {f : Nat → Nat → α} {a k b j : Nat} {x : α} (h : ¬ (b = a ∧ j = k)) : sx_u f a k x b j = f b j := by simp only [sx_u, if_neg h]
theorem ux_a {α : Type} {f : Nat → Nat → α} {a k b j : Nat} {x : α} (h : b ≠ a) : sx_u f a k x b j = f b j := ux_ne (fun q => h q.1)
theorem ux_k {α : Type} {f : Nat → Nat → α} {a k b j : Nat} {x : α} (h : j ≠ k) : sx_u f a k x b j = f b j := ux_ne (fun q => h q.2)
def sx_v (σ : sx_T) (a j : Nat) : Nat → Value
  | 0 => .int (sx_I σ a j)
  | 1 => .long (sx_J σ a j)
  | _ => va_rf (sx_R σ a j)
def sx_f (σ : sx_T) (a : Nat) : List Nat → Nat → List Value
  | [], _ => []
  | t :: ts, j => sx_v σ a j t :: sx_f σ a ts (j + 1)
theorem sf_len (σ : sx_T) (a : Nat) : ∀ (l : List Nat) (j : Nat), (sx_f σ a l j).length = l.length
  | [], _ => rfl
  | t :: ts, j => by simp [sx_f, sf_len σ a ts (j + 1)]
theorem sf_get (σ : sx_T) (a : Nat) : ∀ (l : List Nat) (j k : Nat), (sx_f σ a l j)[k]? = l[k]?.map (sx_v σ a (j + k))
  | [], _, k => by simp [sx_f]
  | t :: ts, j, 0 => by simp [sx_f]
  | t :: ts, j, k + 1 => by
    simp only [sx_f, List.getElem?_cons_succ]
    rw [sf_get σ a ts (j + 1) k]
    rw [show j + 1 + k = j + (k + 1) by omega]
/-- kinds: 1 and on the classes of vwCl, 12 byte[], 13 int[], 14 long[], 15 Flow[], 16 Program[], 17 Object[] -/
def sx_F (cA : Nat → ClassId) (σ : sx_T) (a : Nat) : va_E :=
  if sx_K σ a < 12 then .inr (sx_K σ a - 1, sx_f σ a (sx_s (sx_K σ a - 1)) 0)
  else .inl (cA (sx_K σ a), sx_N σ a, if sx_K σ a < 14 then .inl (sx_I σ a) else if sx_K σ a = 14 then .inr (.inl (sx_J σ a)) else .inr (.inr (.inr (.inr (sx_R σ a)))))
theorem xF_o {cA : Nat → ClassId} {σ : sx_T} {a ci : Nat} (h : sx_K σ a = ci + 1) (hc : ci < 11) : sx_F cA σ a = .inr (ci, sx_f σ a (sx_s ci) 0) := by
  unfold sx_F
  rw [h, if_pos (by omega)]
  rfl
theorem xF_i {cA : Nat → ClassId} {σ : sx_T} {a kd : Nat} (h : sx_K σ a = kd) (hk : kd = 12 ∨ kd = 13) : sx_F cA σ a = .inl (cA kd, sx_N σ a, .inl (sx_I σ a)) := by
  unfold sx_F
  rw [h, if_neg (by omega), if_pos (by omega)]
theorem xF_l {cA : Nat → ClassId} {σ : sx_T} {a : Nat} (h : sx_K σ a = 14) : sx_F cA σ a = .inl (cA 14, sx_N σ a, .inr (.inl (sx_J σ a))) := by
  unfold sx_F
  rw [h, if_neg (by omega), if_neg (by omega), if_pos rfl]
theorem xF_q {cA : Nat → ClassId} {σ : sx_T} {a kd : Nat} (h : sx_K σ a = kd) (hk : kd = 15 ∨ kd = 16 ∨ kd = 17) : sx_F cA σ a = .inl (cA kd, sx_N σ a, .inr (.inr (.inr (.inr (sx_R σ a))))) := by
  unfold sx_F
  rw [h, if_neg (by omega), if_neg (by omega), if_neg (by omega)]
/-- two stores that say the same of a cell -/
theorem xF_same {cA : Nat → ClassId} {σ τ : sx_T} {a : Nat} (h1 : sx_K τ a = sx_K σ a) (h2 : sx_N τ a = sx_N σ a) (h3 : ∀ j, sx_I τ a j = sx_I σ a j) (h4 : ∀ j, sx_J τ a j = sx_J σ a j) (h5 : ∀ j, sx_R τ a j = sx_R σ a j) : sx_F cA τ a = sx_F cA σ a := by
  have e3 : sx_I τ a = sx_I σ a := funext h3
  have e4 : sx_J τ a = sx_J σ a := funext h4
  have e5 : sx_R τ a = sx_R σ a := funext h5
  have hv : ∀ j, sx_v τ a j = sx_v σ a j := by
    intro j
    funext t
    match t with
    | 0 => simp [sx_v, e3]
    | 1 => simp [sx_v, e4]
    | t + 2 => simp [sx_v, e5]
  have hf : ∀ (l : List Nat) (j : Nat), sx_f τ a l j = sx_f σ a l j := by
    intro l
    induction l with
    | nil => intro j; rfl
    | cons t ts ih => intro j; simp only [sx_f, hv, ih]
  unfold sx_F
  rw [h1, h2, e3, e4, e5, hf]
theorem sf_set {σ τ : sx_T} {a k : Nat} {v : Value} (l : List Nat) (hk : k < l.length) (h : ∀ j t, l[j]? = some t → sx_v τ a j t = if j = k then v else sx_v σ a j t) : (sx_f σ a l 0).set k v = sx_f τ a l 0 := by
  apply List.ext_getElem?
  intro j
  rw [List.getElem?_set, sf_get, sf_get]
  by_cases hj : k = j
  · subst hj
    simp only [if_true, sf_len, hk, Nat.zero_add]
    obtain ⟨t, ht⟩ : ∃ t, l[k]? = some t := ⟨l[k], List.getElem?_eq_getElem hk⟩
    rw [ht]
    simp only [Option.map_some]
    rw [h k t ht, if_pos rfl]
  · rw [if_neg hj]
    cases hl : l[j]? with
    | none => rfl
    | some t =>
      simp only [Option.map_some, Nat.zero_add]
      rw [h j t hl, if_neg (fun q => hj q.symm)]
/-- a field written: the cell, and all cells -/
theorem xF_setI {cA : Nat → ClassId} {σ : sx_T} {a ci k : Nat} {x : Int32} (h : sx_K σ a = ci + 1) (hc : ci < 11) (ht : (sx_s ci)[k]? = some 0) (b : Nat) : va_up (sx_F cA σ) a (.inr (ci, (sx_f σ a (sx_s ci) 0).set k (.int x))) b = sx_F cA (wx_I σ a k x) b := by
  by_cases hb : b = a
  · subst hb
    rw [va_up_self, xF_o (σ := wx_I σ b k x) (ci := ci) h hc]
    congr 2
    refine sf_set _ (List.getElem?_eq_some_iff.mp ht).1 (fun j t hj => ?_)
    by_cases hjk : j = k
    · subst hjk
      have : t = 0 := Option.some.inj (hj.symm.trans ht)
      subst this
      simp [sx_v, wx_I, sx_I, sx_u]
    · rw [if_neg hjk]
      match t with
      | 0 => simp [sx_v, wx_I, sx_I, sx_u, hjk]
      | 1 => rfl
      | t + 2 => rfl
  · rw [va_up_ne _ _ hb]
    exact (xF_same (σ := σ) (τ := (wx_I σ a k x)) (a := b) rfl rfl (fun j => by show sx_u _ _ _ _ _ _ = _; exact ux_a hb) (fun _ => rfl) (fun _ => rfl)).symm
theorem xF_setJ {cA : Nat → ClassId} {σ : sx_T} {a ci k : Nat} {x : Int64} (h : sx_K σ a = ci + 1) (hc : ci < 11) (ht : (sx_s ci)[k]? = some 1) (b : Nat) : va_up (sx_F cA σ) a (.inr (ci, (sx_f σ a (sx_s ci) 0).set k (.long x))) b = sx_F cA (wx_J σ a k x) b := by
  by_cases hb : b = a
  · subst hb
    rw [va_up_self, xF_o (σ := wx_J σ b k x) (ci := ci) h hc]
    congr 2
    refine sf_set _ (List.getElem?_eq_some_iff.mp ht).1 (fun j t hj => ?_)
    by_cases hjk : j = k
    · subst hjk
      have : t = 1 := Option.some.inj (hj.symm.trans ht)
      subst this
      simp [sx_v, wx_J, sx_J, sx_u]
    · rw [if_neg hjk]
      match t with
      | 0 => rfl
      | 1 => simp [sx_v, wx_J, sx_J, sx_u, hjk]
      | t + 2 => rfl
  · rw [va_up_ne _ _ hb]
    exact (xF_same (σ := σ) (τ := (wx_J σ a k x)) (a := b) rfl rfl (fun _ => rfl) (fun j => by show sx_u _ _ _ _ _ _ = _; exact ux_a hb) (fun _ => rfl)).symm
theorem xF_setR {cA : Nat → ClassId} {σ : sx_T} {a ci k : Nat} {x : Option Nat} (h : sx_K σ a = ci + 1) (hc : ci < 11) (ht : (sx_s ci)[k]? = some 2) (b : Nat) : va_up (sx_F cA σ) a (.inr (ci, (sx_f σ a (sx_s ci) 0).set k (va_rf x))) b = sx_F cA (wx_R σ a k x) b := by
  by_cases hb : b = a
  · subst hb
    rw [va_up_self, xF_o (σ := wx_R σ b k x) (ci := ci) h hc]
    congr 2
    refine sf_set _ (List.getElem?_eq_some_iff.mp ht).1 (fun j t hj => ?_)
    by_cases hjk : j = k
    · subst hjk
      have : t = 2 := Option.some.inj (hj.symm.trans ht)
      subst this
      simp [sx_v, wx_R, sx_R, sx_u]
    · rw [if_neg hjk]
      match t with
      | 0 => rfl
      | 1 => rfl
      | t + 2 => simp [sx_v, wx_R, sx_R, sx_u, hjk]
  · rw [va_up_ne _ _ hb]
    exact (xF_same (σ := σ) (τ := (wx_R σ a k x)) (a := b) rfl rfl (fun _ => rfl) (fun _ => rfl) (fun j => by show sx_u _ _ _ _ _ _ = _; exact ux_a hb)).symm
theorem xF_stI {cA : Nat → ClassId} {σ : sx_T} {a kd i : Nat} {x : Int32} (h : sx_K σ a = kd) (hk : kd = 12 ∨ kd = 13) (b : Nat) : va_up (sx_F cA σ) a (.inl (cA kd, sx_N σ a, .inl (upd (sx_I σ a) i x))) b = sx_F cA (wx_I σ a i x) b := by
  by_cases hb : b = a
  · subst hb
    rw [va_up_self, xF_i (σ := wx_I σ b i x) (kd := kd) h hk]
    congr 3
    apply congrArg
    funext j
    by_cases hj : j = i
    · subst hj; simp [upd, wx_I, sx_I, sx_u]
    · simp [upd, wx_I, sx_I, sx_u, hj]
  · rw [va_up_ne _ _ hb]
    exact (xF_same (σ := σ) (τ := (wx_I σ a i x)) (a := b) rfl rfl (fun j => by show sx_u _ _ _ _ _ _ = _; exact ux_a hb) (fun _ => rfl) (fun _ => rfl)).symm
theorem xF_stJ {cA : Nat → ClassId} {σ : sx_T} {a i : Nat} {x : Int64} (h : sx_K σ a = 14) (b : Nat) : va_up (sx_F cA σ) a (.inl (cA 14, sx_N σ a, .inr (.inl (vp_updL (sx_J σ a) i x)))) b = sx_F cA (wx_J σ a i x) b := by
  by_cases hb : b = a
  · subst hb
    rw [va_up_self, xF_l (σ := wx_J σ b i x) h]
    congr 3
    apply congrArg
    apply congrArg
    funext j
    by_cases hj : j = i
    · subst hj; simp [vp_updL, wx_J, sx_J, sx_u]
    · simp [vp_updL, wx_J, sx_J, sx_u, hj]
  · rw [va_up_ne _ _ hb]
    exact (xF_same (σ := σ) (τ := (wx_J σ a i x)) (a := b) rfl rfl (fun _ => rfl) (fun j => by show sx_u _ _ _ _ _ _ = _; exact ux_a hb) (fun _ => rfl)).symm
theorem xF_stR {cA : Nat → ClassId} {σ : sx_T} {a kd i : Nat} {x : Option Nat} (h : sx_K σ a = kd) (hk : kd = 15 ∨ kd = 16 ∨ kd = 17) (b : Nat) : va_up (sx_F cA σ) a (.inl (cA kd, sx_N σ a, .inr (.inr (.inr (.inr (va_up (sx_R σ a) i x)))))) b = sx_F cA (wx_R σ a i x) b := by
  by_cases hb : b = a
  · subst hb
    rw [va_up_self, xF_q (σ := wx_R σ b i x) (kd := kd) h hk]
    congr 3
    apply congrArg
    apply congrArg
    apply congrArg
    apply congrArg
    funext j
    by_cases hj : j = i
    · subst hj; simp [va_up, wx_R, sx_R, sx_u]
    · simp [va_up, wx_R, sx_R, sx_u, hj]
  · rw [va_up_ne _ _ hb]
    exact (xF_same (σ := σ) (τ := (wx_R σ a i x)) (a := b) rfl rfl (fun _ => rfl) (fun _ => rfl) (fun j => by show sx_u _ _ _ _ _ _ = _; exact ux_a hb)).symm
/-- a new object -/
theorem xF_newO {cA : Nat → ClassId} {σ : sx_T} {ci : Nat} (hc : ci < 11) (b : Nat) : va_up (sx_F cA σ) (sx_Z σ) (.inr (ci, sx_f (wx_N σ (ci + 1) 0) (sx_Z σ) (sx_s ci) 0)) b = sx_F cA (wx_N σ (ci + 1) 0) b := by
  by_cases hb : b = sx_Z σ
  · subst hb
    rw [va_up_self, xF_o (σ := wx_N σ (ci + 1) 0) (ci := ci) (by simp [wx_N, sx_K]) hc]
  · rw [va_up_ne _ _ hb]
    exact (xF_same (σ := σ) (τ := (wx_N σ (ci + 1) 0)) (a := b) (by simp [wx_N, sx_K, hb]) (by simp [wx_N, sx_N, hb]) (fun j => by simp [wx_N, sx_I, hb]) (fun j => by simp [wx_N, sx_J, hb]) (fun j => by simp [wx_N, sx_R, hb])).symm
theorem xF_newA {cA : Nat → ClassId} {σ : sx_T} {kd n : Nat} (b : Nat) : va_up (sx_F cA σ) (sx_Z σ) (sx_F cA (wx_N σ kd n) (sx_Z σ)) b = sx_F cA (wx_N σ kd n) b := by
  by_cases hb : b = sx_Z σ
  · subst hb
    rw [va_up_self]
  · rw [va_up_ne _ _ hb]
    exact (xF_same (σ := σ) (τ := (wx_N σ kd n)) (a := b) (by simp [wx_N, sx_K, hb]) (by simp [wx_N, sx_N, hb]) (fun j => by simp [wx_N, sx_I, hb]) (fun j => by simp [wx_N, sx_J, hb]) (fun j => by simp [wx_N, sx_R, hb])).symm
/-! WORDS: those that go over to a callee by themselves, and those that are carried -/
def lw_g : List Cond := lw_tbl.filter goodWord
def lx_n (w : Cond) : Bool := match w with
  | .fieldLinkNest .. => true
  | .methodLinkNest .. => true
  | .arrayOver .. => true
  | w => w.onTables && w.keepsFace
def lw_n : List Cond := lw_tbl.filter (fun w => !goodWord w && lx_n w)
theorem lg_in {w : Cond} (h : w ∈ lw_tbl) (hg : goodWord w = true) : w ∈ lw_g := List.mem_filter.mpr ⟨h, hg⟩
theorem ln_in {w : Cond} (h : w ∈ lw_tbl) (hg : (!goodWord w && lx_n w) = true) : w ∈ lw_n := List.mem_filter.mpr ⟨h, hg⟩
theorem lg_all : lw_g.all goodWord = true := List.all_eq_true.mpr fun w h => (List.mem_filter.mp h).2
theorem nw_warm {w : Cond} {s U : State} (hl : lx_n w = true) (hW : s.WarmedH U.vm) (h : va_Nw w s) : va_Nw w U := by
  unfold lx_n at hl
  split at hl
  · exact va_Nw.warmF hW h
  · exact va_Nw.warmM hW h
  · rename_i ty
    have h1 : (Cond.arrayOver ty).before #[] (s.setVm U.vm) = true := by rw [Cond.arrayOver_setVmC hW.alike]; exact h
    exact h1
  · simp only [Bool.and_eq_true] at hl
    exact va_tabs hl.1 (rfl : (s.setVm U.vm).vm = U.vm) (Cond.before_shiftedFace (State.Shifted.of_warmed hW) _ hl.2 h)
/-! THE WORLD: g = (class numbers and slots, array classes, where the objects begin, the heap at the law's start) -/
abbrev gx_T : Type := va_G × (Nat → ClassId) × Nat × Heap × Nat × Nat
def gx_D (g : gx_T) : va_G := g.1
def gx_A (g : gx_T) : Nat → ClassId := g.2.1
def gx_b (g : gx_T) : Nat := g.2.2.1
def gx_H (g : gx_T) : Heap := g.2.2.2.1
/-- the empty array that all new lists share -/
def gx_e (g : gx_T) : Nat := g.2.2.2.2.1
/-- the class of Object[] as an object -/
def gx_m (g : gx_T) : Nat := g.2.2.2.2.2
def mi_oa : String := "[Ljava/lang/Object;"
/-- it lies in the heap of the start, and is empty -/
def ge_ok (g : gx_T) : Prop := ∃ cell : Cell, (gx_H g)[gx_e g]? = some cell ∧ cell.cls = gx_A g 17 ∧ (∀ k, cell.vm ≠ .statics k) ∧ cell.slots.size = 0
def gx_t (g : gx_T) : List (ClassId × FieldType) := [(gx_A g 12, .byte), (gx_A g 13, .int), (gx_A g 14, .long), (gx_A g 15, .object "Loomkeeper$Flow"), (gx_A g 16, .object "Loomkeeper$Program"), (gx_A g 17, .object "java/lang/Object")]
def gx_Q (g : gx_T) : Nat → Prop := fun q => gx_b g ≤ q
def lx_nc : List (String × String) := [("java/lang/IllegalArgumentException", "java/lang/IndexOutOfBoundsException"), ("java/lang/IllegalStateException", "java/lang/IndexOutOfBoundsException"), ("java/lang/IllegalStateException", "java/lang/IllegalArgumentException")]
def zx_k (g : gx_T) (U : State) : Prop := va_K (gx_D g) vwCl (gx_t g) U ∧ (∀ w ∈ lw_n, va_Nw w U) ∧ vx_Zq Bundle.tN "UNASSIGNED_STACK" Bundle.steD (gx_Q g) U (gx_H g) ∧ vx_Zq Bundle.tN "SUPPRESSED_SENTINEL" Bundle.listD (gx_Q g) U (gx_H g) ∧ va_Z "java/util/ArrayList" "DEFAULTCAPACITY_EMPTY_ELEMENTDATA" "[Ljava/lang/Object;" (.ref (gx_e g)) (gx_Q g) U (gx_H g) ∧ (∀ q ∈ lx_str, ∃ a : Nat, vk_R q.1 q.2.1 q.2.2 a U) ∧ (∀ q ∈ lx_nc, va_Nc q.1 q.2 U) ∧ va_Mi mi_oa (gx_m g) U ∧ va_Dc U ∧ ge_ok g
def zx_h (g : gx_T) (σ : sx_T) (H : Heap) : Prop := H.size = sx_Z σ ∧ gx_b g ≤ H.size ∧ (∀ q : Nat, q < gx_b g → H[q]? = (gx_H g)[q]?) ∧ (gx_H g).size = gx_b g ∧ ∃ L : List Nat, (∀ a, a ∈ L ↔ sx_K σ a ≠ 0) ∧ va_P (gx_D g) vwCl (va_pl L (sx_F (gx_A g) σ)) H ∧ va_D (gx_Q g) (va_pl L (sx_F (gx_A g) σ))
def zx_w (g : gx_T) (σ : sx_T) (U : State) : Prop := zx_k g U ∧ zx_h g σ U.heap
def zx_m (g : gx_T) (s : State) (σ : sx_T) (H : Heap) (locs : List Loc) : Prop := zx_h g σ H ∧ va_S (gx_Q g) s.heap H locs
theorem zk_warm {g : gx_T} {s U : State} (hW : s.WarmedH U.vm) (h : zx_k g s) : zx_k g U := by
  obtain ⟨h1, h2, h3, h4, h5, h6, h7, h8, h9, h10⟩ := h
  refine ⟨va_K.moved hW.alike h1, fun w hw => ?_, vx_Zq.moved hW.alike h3, vx_Zq.moved hW.alike h4, va_Z.moved hW.alike h5, fun q hq => ?_, fun q hq => va_Nc.moved hW.alike (h7 q hq), ?_, va_Dc.moved hW.alike h9, h10⟩
  · have h9 := (List.mem_filter.mp hw).2
    simp only [Bool.and_eq_true] at h9
    exact nw_warm h9.2 hW (h2 w hw)
  · obtain ⟨a, ha⟩ := h6 q hq
    exact ⟨a, vk_R.warm hW ha⟩
  · obtain ⟨c, k, q1, q2, q3⟩ := h8
    obtain ⟨k', hk', he⟩ := hW.alike.2.2 _ _ q2
    exact ⟨c, k', by rw [hW.alike.findClass]; exact q1, hk', by rw [he]; exact q3⟩
/-- a body's standing facts -/
def zx_B (p : Program) (s : State) (m : MethodId) (args : Array Value) (meth : Method) (c : Code) (cc : ByteArray) (own : String) (nL : Nat) (g : gx_T) : Prop := p.tables.exec = Jvm.exec ∧ c.code = cc ∧ c.maxLocals = nL ∧ s.vm.findClass own = some m.cls ∧ (∀ w ∈ lw_g, w.before args s = true) ∧ meth.locks = false ∧ zx_k g s ∧ gx_b g ≤ s.heap.size
def zx (p : Program) (l : Launch) (e : Env) (R : Room) (s : State) (m : MethodId) (args : Array Value) (below : List Frame) (meth : Method) (c : Code) (g : gx_T) (nL cells slots : Nat) (Q : State → Prop) (σ : sx_T) (pc : Nat) (lv : List (Nat × Value)) (st : List Value) : Prop :=
  ∀ (H : Heap) (locs : List Loc) (ls : Array Slot), zx_m g s σ H locs → lv_has ls nL lv → W p l e R s m args below meth c H locs cells slots Q (F0 m pc ls st)
section ZROWS
variable {p : Program} {l : Launch} {e : Env} {R : Room} {s : State} {m : MethodId} {args : Array Value} {below : List Frame} {meth : Method} {c : Code} {g : gx_T} {nL cells slots : Nat} {Q : State → Prop} {σ σ' : sx_T} {pc : Nat} {lv lv' : List (Nat × Value)} {st : List Value} {cc : ByteArray} {own : String}
theorem z_widen {k n : Nat} (h1 : cells ≤ k) (h2 : slots ≤ n) (kk : zx p l e R s m args below meth c g nL k n Q σ pc lv st) : zx p l e R s m args below meth c g nL cells slots Q σ pc lv st := fun H locs ls hM hl => W.widen h1 h2 (kk H locs ls hM hl)
theorem z_sub (lv' : List (Nat × Value)) (ks : List Nat) (hk : lv_pick lv ks = lv') (kk : zx p l e R s m args below meth c g nL cells slots Q σ pc lv' st) : zx p l e R s m args below meth c g nL cells slots Q σ pc lv st := fun H locs ls hM hl => kk H locs ls hM (lv_sub hl ks hk)
theorem z_eqs {σ' : sx_T} (h : σ = σ') (kk : zx p l e R s m args below meth c g nL cells slots Q σ' pc lv st) : zx p l e R s m args below meth c g nL cells slots Q σ pc lv st := h ▸ kk
theorem z_topi {x : Int32} (k : ∀ y : Int32, y = x → zx p l e R s m args below meth c g nL cells slots Q σ pc lv (.int y :: st)) : zx p l e R s m args below meth c g nL cells slots Q σ pc lv (.int x :: st) := k x rfl
theorem z_topl {x : Int64} (k : ∀ y : Int64, y = x → zx p l e R s m args below meth c g nL cells slots Q σ pc lv (.long y :: st)) : zx p l e R s m args below meth c g nL cells slots Q σ pc lv (.long x :: st) := k x rfl
theorem z_seti {x y : Int32} (h : x = y) (k : zx p l e R s m args below meth c g nL cells slots Q σ pc lv (.int y :: st)) : zx p l e R s m args below meth c g nL cells slots Q σ pc lv (.int x :: st) := h ▸ k
theorem z_setl {x y : Int64} (h : x = y) (k : zx p l e R s m args below meth c g nL cells slots Q σ pc lv (.long y :: st)) : zx p l e R s m args below meth c g nL cells slots Q σ pc lv (.long x :: st) := h ▸ k
theorem z_setr {x y : Option Nat} (h : x = y) (k : zx p l e R s m args below meth c g nL cells slots Q σ pc lv (va_rf y :: st)) : zx p l e R s m args below meth c g nL cells slots Q σ pc lv (va_rf x :: st) := h ▸ k
theorem z_iconst (B : zx_B p s m args meth c cc own nL g) {n : Int} {v : Int32} (hd : decode cc pc = .ok (.iconst n, 1)) (hv : Int32.ofInt n = v) (k : zx p l e R s m args below meth c g nL cells slots Q σ (pc + 1) lv (.int v :: st)) : zx p l e R s m args below meth c g nL cells slots Q σ pc lv (st) := fun H locs ls hM hl => lv_iconst B.1 B.2.1 hd hv (k H locs ls hM hl)
theorem z_bipush (B : zx_B p s m args meth c cc own nL g) {n : Int} {v : Int32} (hd : decode cc pc = .ok (.bipush n, 2)) (hv : (Int8.ofInt n).toInt32 = v) (k : zx p l e R s m args below meth c g nL cells slots Q σ (pc + 2) lv (.int v :: st)) : zx p l e R s m args below meth c g nL cells slots Q σ pc lv (st) := fun H locs ls hM hl => lv_bipush B.1 B.2.1 hd hv (k H locs ls hM hl)
theorem z_sipush (B : zx_B p s m args meth c cc own nL g) {n : Int} {v : Int32} (hd : decode cc pc = .ok (.sipush n, 3)) (hv : (Int16.ofInt n).toInt32 = v) (k : zx p l e R s m args below meth c g nL cells slots Q σ (pc + 3) lv (.int v :: st)) : zx p l e R s m args below meth c g nL cells slots Q σ pc lv (st) := fun H locs ls hM hl => lv_sipush B.1 B.2.1 hd hv (k H locs ls hM hl)
theorem z_lconst (B : zx_B p s m args meth c cc own nL g) {n : Fin 2} {v : Int64} (hd : decode cc pc = .ok (.lconst n, 1)) (hv : Int64.ofNat (n : Nat) = v) (k : zx p l e R s m args below meth c g nL cells slots Q σ (pc + 1) lv (.long v :: st)) : zx p l e R s m args below meth c g nL cells slots Q σ pc lv (st) := fun H locs ls hM hl => lv_lconst B.1 B.2.1 hd hv (k H locs ls hM hl)
theorem z_null (B : zx_B p s m args meth c cc own nL g)  (hd : decode cc pc = .ok (.aconst_null, 1))  (k : zx p l e R s m args below meth c g nL cells slots Q σ (pc + 1) lv (.null :: st)) : zx p l e R s m args below meth c g nL cells slots Q σ pc lv (st) := fun H locs ls hM hl => lv_null B.1 B.2.1 hd  (k H locs ls hM hl)
theorem z_iload_n (B : zx_B p s m args meth c cc own nL g) {j : Fin 4} {i : Nat} {x : Int32} (hd : decode cc pc = .ok (.iload_n j, 1)) (hi : (j : Nat) = i) (q : Nat) (hq : lv[q]? = some (i, Value.int x)) (k : zx p l e R s m args below meth c g nL cells slots Q σ (pc + 1) lv (.int x :: st)) : zx p l e R s m args below meth c g nL cells slots Q σ pc lv (st) := fun H locs ls hM hl => lv_iload_n B.1 B.2.1 hd hi (lv_at hl q hq) (k H locs ls hM hl)
theorem z_iload (B : zx_B p s m args meth c cc own nL g) {i : Nat} {x : Int32} (hd : decode cc pc = .ok (.iload i, 2)) (q : Nat) (hq : lv[q]? = some (i, Value.int x)) (k : zx p l e R s m args below meth c g nL cells slots Q σ (pc + 2) lv (.int x :: st)) : zx p l e R s m args below meth c g nL cells slots Q σ pc lv (st) := fun H locs ls hM hl => lv_iload B.1 B.2.1 hd (lv_at hl q hq) (k H locs ls hM hl)
theorem z_lload_n (B : zx_B p s m args meth c cc own nL g) {j : Fin 4} {i : Nat} {x : Int64} (hd : decode cc pc = .ok (.lload_n j, 1)) (hi : (j : Nat) = i) (q : Nat) (hq : lv[q]? = some (i, Value.long x)) (k : zx p l e R s m args below meth c g nL cells slots Q σ (pc + 1) lv (.long x :: st)) : zx p l e R s m args below meth c g nL cells slots Q σ pc lv (st) := fun H locs ls hM hl => lv_lload_n B.1 B.2.1 hd hi (lv_at hl q hq) (k H locs ls hM hl)
theorem z_lload (B : zx_B p s m args meth c cc own nL g) {i : Nat} {x : Int64} (hd : decode cc pc = .ok (.lload i, 2)) (q : Nat) (hq : lv[q]? = some (i, Value.long x)) (k : zx p l e R s m args below meth c g nL cells slots Q σ (pc + 2) lv (.long x :: st)) : zx p l e R s m args below meth c g nL cells slots Q σ pc lv (st) := fun H locs ls hM hl => lv_lload B.1 B.2.1 hd (lv_at hl q hq) (k H locs ls hM hl)
theorem z_aload_n (B : zx_B p s m args meth c cc own nL g) {j : Fin 4} {i : Nat} {x : Nat} (hd : decode cc pc = .ok (.aload_n j, 1)) (hi : (j : Nat) = i) (q : Nat) (hq : lv[q]? = some (i, Value.ref x)) (k : zx p l e R s m args below meth c g nL cells slots Q σ (pc + 1) lv (.ref x :: st)) : zx p l e R s m args below meth c g nL cells slots Q σ pc lv (st) := fun H locs ls hM hl => lv_aload_n B.1 B.2.1 hd hi (lv_at hl q hq) (k H locs ls hM hl)
theorem z_aload (B : zx_B p s m args meth c cc own nL g) {i : Nat} {x : Nat} (hd : decode cc pc = .ok (.aload i, 2)) (q : Nat) (hq : lv[q]? = some (i, Value.ref x)) (k : zx p l e R s m args below meth c g nL cells slots Q σ (pc + 2) lv (.ref x :: st)) : zx p l e R s m args below meth c g nL cells slots Q σ pc lv (st) := fun H locs ls hM hl => lv_aload B.1 B.2.1 hd (lv_at hl q hq) (k H locs ls hM hl)
theorem z_qload_n (B : zx_B p s m args meth c cc own nL g) {j : Fin 4} {i : Nat} {r : Option Nat} (hd : decode cc pc = .ok (.aload_n j, 1)) (hi : (j : Nat) = i) (q : Nat) (hq : lv[q]? = some (i, va_rf r)) (k : zx p l e R s m args below meth c g nL cells slots Q σ (pc + 1) lv (va_rf r :: st)) : zx p l e R s m args below meth c g nL cells slots Q σ pc lv st := by
  cases r with
  | none => exact fun H locs ls hM hl => lv_aload_nN B.1 B.2.1 hd hi (lv_at hl q hq) (k H locs ls hM hl)
  | some x => exact fun H locs ls hM hl => lv_aload_n B.1 B.2.1 hd hi (lv_at hl q hq) (k H locs ls hM hl)
theorem z_qload (B : zx_B p s m args meth c cc own nL g) {i : Nat} {r : Option Nat} (hd : decode cc pc = .ok (.aload i, 2)) (q : Nat) (hq : lv[q]? = some (i, va_rf r)) (k : zx p l e R s m args below meth c g nL cells slots Q σ (pc + 2) lv (va_rf r :: st)) : zx p l e R s m args below meth c g nL cells slots Q σ pc lv st := by
  cases r with
  | none => exact fun H locs ls hM hl => lv_aloadN B.1 B.2.1 hd (lv_at hl q hq) (k H locs ls hM hl)
  | some x => exact fun H locs ls hM hl => lv_aload B.1 B.2.1 hd (lv_at hl q hq) (k H locs ls hM hl)
theorem z_istore_n (B : zx_B p s m args meth c cc own nL g) {j : Fin 4} {i : Nat} {x : Int32} (hd : decode cc pc = .ok (.istore_n j, 1)) (hi : (j : Nat) = i) (hn : i < nL) (hv : (i, Value.int x) :: lv.filter (fun q => !(q.1 == i) && !(q.1 + 1 == i && q.2.category == 2)) = lv') (k : zx p l e R s m args below meth c g nL cells slots Q σ (pc + 1) lv' st) : zx p l e R s m args below meth c g nL cells slots Q σ pc lv (.int x :: st) := fun H locs ls hM hl => lv_istore_n B.1 B.2.1 hd hi hl hn hv (fun ls' hl' => k H locs ls' hM hl')
theorem z_istore (B : zx_B p s m args meth c cc own nL g) {i : Nat} {x : Int32} (hd : decode cc pc = .ok (.istore i, 2)) (hn : i < nL) (hv : (i, Value.int x) :: lv.filter (fun q => !(q.1 == i) && !(q.1 + 1 == i && q.2.category == 2)) = lv') (k : zx p l e R s m args below meth c g nL cells slots Q σ (pc + 2) lv' st) : zx p l e R s m args below meth c g nL cells slots Q σ pc lv (.int x :: st) := fun H locs ls hM hl => lv_istore B.1 B.2.1 hd hl hn hv (fun ls' hl' => k H locs ls' hM hl')
theorem z_lstore_n (B : zx_B p s m args meth c cc own nL g) {j : Fin 4} {i : Nat} {x : Int64} (hd : decode cc pc = .ok (.lstore_n j, 1)) (hi : (j : Nat) = i) (hn : i + 1 < nL) (hv : (i, Value.long x) :: lv.filter (fun q => !(q.1 == i) && (!(q.1 == i + 1) && !(q.1 + 1 == i && q.2.category == 2))) = lv') (k : zx p l e R s m args below meth c g nL cells slots Q σ (pc + 1) lv' st) : zx p l e R s m args below meth c g nL cells slots Q σ pc lv (.long x :: st) := fun H locs ls hM hl => lv_lstore_n B.1 B.2.1 hd hi hl hn hv (fun ls' hl' => k H locs ls' hM hl')
theorem z_lstore (B : zx_B p s m args meth c cc own nL g) {i : Nat} {x : Int64} (hd : decode cc pc = .ok (.lstore i, 2)) (hn : i + 1 < nL) (hv : (i, Value.long x) :: lv.filter (fun q => !(q.1 == i) && (!(q.1 == i + 1) && !(q.1 + 1 == i && q.2.category == 2))) = lv') (k : zx p l e R s m args below meth c g nL cells slots Q σ (pc + 2) lv' st) : zx p l e R s m args below meth c g nL cells slots Q σ pc lv (.long x :: st) := fun H locs ls hM hl => lv_lstore B.1 B.2.1 hd hl hn hv (fun ls' hl' => k H locs ls' hM hl')
theorem z_astore_n (B : zx_B p s m args meth c cc own nL g) {j : Fin 4} {i : Nat} {x : Nat} (hd : decode cc pc = .ok (.astore_n j, 1)) (hi : (j : Nat) = i) (hn : i < nL) (hv : (i, Value.ref x) :: lv.filter (fun q => !(q.1 == i) && !(q.1 + 1 == i && q.2.category == 2)) = lv') (k : zx p l e R s m args below meth c g nL cells slots Q σ (pc + 1) lv' st) : zx p l e R s m args below meth c g nL cells slots Q σ pc lv (.ref x :: st) := fun H locs ls hM hl => lv_astore_n B.1 B.2.1 hd hi hl hn hv (fun ls' hl' => k H locs ls' hM hl')
theorem z_astore (B : zx_B p s m args meth c cc own nL g) {i : Nat} {x : Nat} (hd : decode cc pc = .ok (.astore i, 2)) (hn : i < nL) (hv : (i, Value.ref x) :: lv.filter (fun q => !(q.1 == i) && !(q.1 + 1 == i && q.2.category == 2)) = lv') (k : zx p l e R s m args below meth c g nL cells slots Q σ (pc + 2) lv' st) : zx p l e R s m args below meth c g nL cells slots Q σ pc lv (.ref x :: st) := fun H locs ls hM hl => lv_astore B.1 B.2.1 hd hl hn hv (fun ls' hl' => k H locs ls' hM hl')
theorem z_qstore_n (B : zx_B p s m args meth c cc own nL g) {j : Fin 4} {i : Nat} {r : Option Nat} (hd : decode cc pc = .ok (.astore_n j, 1)) (hi : (j : Nat) = i) (hn : i < nL) (hv : (i, va_rf r) :: lv.filter (fun q => !(q.1 == i) && !(q.1 + 1 == i && q.2.category == 2)) = lv') (k : zx p l e R s m args below meth c g nL cells slots Q σ (pc + 1) lv' st) : zx p l e R s m args below meth c g nL cells slots Q σ pc lv (va_rf r :: st) := by
  cases r with
  | none => exact fun H locs ls hM hl => lv_astore_nN B.1 B.2.1 hd hi hl hn hv (fun ls' hl' => k H locs ls' hM hl')
  | some x => exact fun H locs ls hM hl => lv_astore_n B.1 B.2.1 hd hi hl hn hv (fun ls' hl' => k H locs ls' hM hl')
theorem z_qstore (B : zx_B p s m args meth c cc own nL g) {i : Nat} {r : Option Nat} (hd : decode cc pc = .ok (.astore i, 2)) (hn : i < nL) (hv : (i, va_rf r) :: lv.filter (fun q => !(q.1 == i) && !(q.1 + 1 == i && q.2.category == 2)) = lv') (k : zx p l e R s m args below meth c g nL cells slots Q σ (pc + 2) lv' st) : zx p l e R s m args below meth c g nL cells slots Q σ pc lv (va_rf r :: st) := by
  cases r with
  | none => exact fun H locs ls hM hl => lv_astoreN B.1 B.2.1 hd hl hn hv (fun ls' hl' => k H locs ls' hM hl')
  | some x => exact fun H locs ls hM hl => lv_astore B.1 B.2.1 hd hl hn hv (fun ls' hl' => k H locs ls' hM hl')
theorem z_iinc (B : zx_B p s m args meth c cc own nL g) {i : Nat} {n : Int} {x v : Int32} (hd : decode cc pc = .ok (.iinc i n, 3)) (q : Nat) (hq : lv[q]? = some (i, Value.int x)) (hx : x + Int32.ofInt n = v) (hn : i < nL) (hv : (i, Value.int v) :: lv.filter (fun q => !(q.1 == i) && !(q.1 + 1 == i && q.2.category == 2)) = lv') (k : zx p l e R s m args below meth c g nL cells slots Q σ (pc + 3) lv' st) : zx p l e R s m args below meth c g nL cells slots Q σ pc lv st := fun H locs ls hM hl => lv_iinc B.1 B.2.1 hd hl hq hx hn hv (fun ls' hl' => k H locs ls' hM hl')
theorem z_iadd (B : zx_B p s m args meth c cc own nL g) {x y : Int32} (hd : decode cc pc = .ok (.iadd, 1))  (k : zx p l e R s m args below meth c g nL cells slots Q σ (pc + 1) lv (.int (x + y) :: st)) : zx p l e R s m args below meth c g nL cells slots Q σ pc lv (.int y :: .int x :: st) := fun H locs ls hM hl => lv_iadd B.1 B.2.1 hd  (k H locs ls hM hl)
theorem z_isub (B : zx_B p s m args meth c cc own nL g) {x y : Int32} (hd : decode cc pc = .ok (.isub, 1))  (k : zx p l e R s m args below meth c g nL cells slots Q σ (pc + 1) lv (.int (x - y) :: st)) : zx p l e R s m args below meth c g nL cells slots Q σ pc lv (.int y :: .int x :: st) := fun H locs ls hM hl => lv_isub B.1 B.2.1 hd  (k H locs ls hM hl)
theorem z_imul (B : zx_B p s m args meth c cc own nL g) {x y : Int32} (hd : decode cc pc = .ok (.imul, 1))  (k : zx p l e R s m args below meth c g nL cells slots Q σ (pc + 1) lv (.int (x * y) :: st)) : zx p l e R s m args below meth c g nL cells slots Q σ pc lv (.int y :: .int x :: st) := fun H locs ls hM hl => lv_imul B.1 B.2.1 hd  (k H locs ls hM hl)
theorem z_iand (B : zx_B p s m args meth c cc own nL g) {x y : Int32} (hd : decode cc pc = .ok (.iand, 1))  (k : zx p l e R s m args below meth c g nL cells slots Q σ (pc + 1) lv (.int (x &&& y) :: st)) : zx p l e R s m args below meth c g nL cells slots Q σ pc lv (.int y :: .int x :: st) := fun H locs ls hM hl => lv_iand B.1 B.2.1 hd  (k H locs ls hM hl)
theorem z_ishl (B : zx_B p s m args meth c cc own nL g) {x y : Int32} (hd : decode cc pc = .ok (.ishl, 1))  (k : zx p l e R s m args below meth c g nL cells slots Q σ (pc + 1) lv (.int (x <<< (y &&& 31)) :: st)) : zx p l e R s m args below meth c g nL cells slots Q σ pc lv (.int y :: .int x :: st) := fun H locs ls hM hl => lv_ishl B.1 B.2.1 hd  (k H locs ls hM hl)
theorem z_ishr (B : zx_B p s m args meth c cc own nL g) {x y : Int32} (hd : decode cc pc = .ok (.ishr, 1))  (k : zx p l e R s m args below meth c g nL cells slots Q σ (pc + 1) lv (.int (x >>> (y &&& 31)) :: st)) : zx p l e R s m args below meth c g nL cells slots Q σ pc lv (.int y :: .int x :: st) := fun H locs ls hM hl => lv_ishr B.1 B.2.1 hd  (k H locs ls hM hl)
theorem z_idiv (B : zx_B p s m args meth c cc own nL g) {x y : Int32} (hd : decode cc pc = .ok (.idiv, 1)) (h0 : ¬ y = 0) (k : zx p l e R s m args below meth c g nL cells slots Q σ (pc + 1) lv (.int (x / y) :: st)) : zx p l e R s m args below meth c g nL cells slots Q σ pc lv (.int y :: .int x :: st) := fun H locs ls hM hl => lv_idiv B.1 B.2.1 hd h0 (k H locs ls hM hl)
theorem z_irem (B : zx_B p s m args meth c cc own nL g) {x y : Int32} (hd : decode cc pc = .ok (.irem, 1)) (h0 : ¬ y = 0) (k : zx p l e R s m args below meth c g nL cells slots Q σ (pc + 1) lv (.int (x - x / y * y) :: st)) : zx p l e R s m args below meth c g nL cells slots Q σ pc lv (.int y :: .int x :: st) := fun H locs ls hM hl => lv_irem B.1 B.2.1 hd h0 (k H locs ls hM hl)
theorem z_ladd (B : zx_B p s m args meth c cc own nL g) {x y : Int64} (hd : decode cc pc = .ok (.ladd, 1))  (k : zx p l e R s m args below meth c g nL cells slots Q σ (pc + 1) lv (.long (x + y) :: st)) : zx p l e R s m args below meth c g nL cells slots Q σ pc lv (.long y :: .long x :: st) := fun H locs ls hM hl => lv_ladd B.1 B.2.1 hd  (k H locs ls hM hl)
theorem z_lsub (B : zx_B p s m args meth c cc own nL g) {x y : Int64} (hd : decode cc pc = .ok (.lsub, 1))  (k : zx p l e R s m args below meth c g nL cells slots Q σ (pc + 1) lv (.long (x - y) :: st)) : zx p l e R s m args below meth c g nL cells slots Q σ pc lv (.long y :: .long x :: st) := fun H locs ls hM hl => lv_lsub B.1 B.2.1 hd  (k H locs ls hM hl)
theorem z_lmul (B : zx_B p s m args meth c cc own nL g) {x y : Int64} (hd : decode cc pc = .ok (.lmul, 1))  (k : zx p l e R s m args below meth c g nL cells slots Q σ (pc + 1) lv (.long (x * y) :: st)) : zx p l e R s m args below meth c g nL cells slots Q σ pc lv (.long y :: .long x :: st) := fun H locs ls hM hl => lv_lmul B.1 B.2.1 hd  (k H locs ls hM hl)
theorem z_lxor (B : zx_B p s m args meth c cc own nL g) {x y : Int64} (hd : decode cc pc = .ok (.lxor, 1))  (k : zx p l e R s m args below meth c g nL cells slots Q σ (pc + 1) lv (.long (x ^^^ y) :: st)) : zx p l e R s m args below meth c g nL cells slots Q σ pc lv (.long y :: .long x :: st) := fun H locs ls hM hl => lv_lxor B.1 B.2.1 hd  (k H locs ls hM hl)
theorem z_ldiv (B : zx_B p s m args meth c cc own nL g) {x y : Int64} (hd : decode cc pc = .ok (.ldiv, 1)) (h0 : ¬ y = 0) (k : zx p l e R s m args below meth c g nL cells slots Q σ (pc + 1) lv (.long (x / y) :: st)) : zx p l e R s m args below meth c g nL cells slots Q σ pc lv (.long y :: .long x :: st) := fun H locs ls hM hl => lv_ldiv B.1 B.2.1 hd h0 (k H locs ls hM hl)
theorem z_lrem (B : zx_B p s m args meth c cc own nL g) {x y : Int64} (hd : decode cc pc = .ok (.lrem, 1)) (h0 : ¬ y = 0) (k : zx p l e R s m args below meth c g nL cells slots Q σ (pc + 1) lv (.long (x - x / y * y) :: st)) : zx p l e R s m args below meth c g nL cells slots Q σ pc lv (.long y :: .long x :: st) := fun H locs ls hM hl => lv_lrem B.1 B.2.1 hd h0 (k H locs ls hM hl)
theorem z_i2l (B : zx_B p s m args meth c cc own nL g) {x : Int32} {v : Int64} (hd : decode cc pc = .ok (.i2l, 1)) (hv : x.toInt64 = v) (k : zx p l e R s m args below meth c g nL cells slots Q σ (pc + 1) lv (.long v :: st)) : zx p l e R s m args below meth c g nL cells slots Q σ pc lv (.int x :: st) := fun H locs ls hM hl => lv_i2l B.1 B.2.1 hd hv (k H locs ls hM hl)
theorem z_l2i (B : zx_B p s m args meth c cc own nL g) {x : Int64} {v : Int32} (hd : decode cc pc = .ok (.l2i, 1)) (hv : x.toInt32 = v) (k : zx p l e R s m args below meth c g nL cells slots Q σ (pc + 1) lv (.int v :: st)) : zx p l e R s m args below meth c g nL cells slots Q σ pc lv (.long x :: st) := fun H locs ls hM hl => lv_l2i B.1 B.2.1 hd hv (k H locs ls hM hl)
theorem z_i2b (B : zx_B p s m args meth c cc own nL g) {x : Int32} {v : Int32} (hd : decode cc pc = .ok (.i2b, 1)) (hv : x.toInt8.toInt32 = v) (k : zx p l e R s m args below meth c g nL cells slots Q σ (pc + 1) lv (.int v :: st)) : zx p l e R s m args below meth c g nL cells slots Q σ pc lv (.int x :: st) := fun H locs ls hM hl => lv_i2b B.1 B.2.1 hd hv (k H locs ls hM hl)
theorem z_dup (B : zx_B p s m args meth c cc own nL g) {v : Value} (hd : decode cc pc = .ok (.dup, 1)) (h1 : v.category = 1) (k : zx p l e R s m args below meth c g nL cells slots Q σ (pc + 1) lv (v :: v :: st)) : zx p l e R s m args below meth c g nL cells slots Q σ pc lv (v :: st) := fun H locs ls hM hl => lv_dup B.1 B.2.1 hd h1 (k H locs ls hM hl)
theorem z_pop (B : zx_B p s m args meth c cc own nL g) {v : Value} (hd : decode cc pc = .ok (.pop, 1)) (h1 : v.category = 1) (k : zx p l e R s m args below meth c g nL cells slots Q σ (pc + 1) lv (st)) : zx p l e R s m args below meth c g nL cells slots Q σ pc lv (v :: st) := fun H locs ls hM hl => lv_pop B.1 B.2.1 hd h1 (k H locs ls hM hl)
theorem z_dup_x1 (B : zx_B p s m args meth c cc own nL g) {v w : Value} (hd : decode cc pc = .ok (.dup_x1, 1)) (h1 : v.category = 1) (h2 : w.category = 1) (k : zx p l e R s m args below meth c g nL cells slots Q σ (pc + 1) lv (v :: w :: v :: st)) : zx p l e R s m args below meth c g nL cells slots Q σ pc lv (v :: w :: st) := fun H locs ls hM hl => lv_dup_x1 B.1 B.2.1 hd h1 h2 (k H locs ls hM hl)
theorem z_dup2 (B : zx_B p s m args meth c cc own nL g) {v w : Value} (hd : decode cc pc = .ok (.dup2, 1)) (h1 : v.category = 1) (h2 : w.category = 1) (k : zx p l e R s m args below meth c g nL cells slots Q σ (pc + 1) lv (v :: w :: v :: w :: st)) : zx p l e R s m args below meth c g nL cells slots Q σ pc lv (v :: w :: st) := fun H locs ls hM hl => lv_dup2_11 B.1 B.2.1 hd h1 h2 (k H locs ls hM hl)
theorem z_lcmp (B : zx_B p s m args meth c cc own nL g) {x y : Int64} {v : Int32} (hd : decode cc pc = .ok (.lcmp, 1)) (hv : lg_cmp x y = v) (k : zx p l e R s m args below meth c g nL cells slots Q σ (pc + 1) lv (.int v :: st)) : zx p l e R s m args below meth c g nL cells slots Q σ pc lv (.long y :: .long x :: st) := fun H locs ls hM hl => W.lcmp B.1 B.2.1 hd (by rw [hv]; exact k H locs ls hM hl)
theorem z_ldc (B : zx_B p s m args meth c cc own nL g) {index : Nat} {v : Int32} (hd : decode cc pc = .ok (.ldc index, 2)) (hw : Cond.constant own index v ∈ lw_g) (k : zx p l e R s m args below meth c g nL cells slots Q σ (pc + 2) lv (.int v :: st)) : zx p l e R s m args below meth c g nL cells slots Q σ pc lv st := fun H locs ls hM hl => lv_ldc B.1 B.2.1 B.2.2.2.1 (B.2.2.2.2.1 _ hw) hd (k H locs ls hM hl)
theorem z_ldcw (B : zx_B p s m args meth c cc own nL g) {index : Nat} {v : Int32} (hd : decode cc pc = .ok (.ldc_w index, 3)) (hw : Cond.constant own index v ∈ lw_g) (k : zx p l e R s m args below meth c g nL cells slots Q σ (pc + 3) lv (.int v :: st)) : zx p l e R s m args below meth c g nL cells slots Q σ pc lv st := fun H locs ls hM hl => lv_ldcw B.1 B.2.1 B.2.2.2.1 (B.2.2.2.2.1 _ hw) hd (k H locs ls hM hl)
theorem z_ldc2 (B : zx_B p s m args meth c cc own nL g) {index : Nat} {v : Int64} (hd : decode cc pc = .ok (.ldc2_w index, 3)) (hw : Cond.constantLong own index v ∈ lw_g) (k : zx p l e R s m args below meth c g nL cells slots Q σ (pc + 3) lv (.long v :: st)) : zx p l e R s m args below meth c g nL cells slots Q σ pc lv st := fun H locs ls hM hl => lv_ldc2 B.1 B.2.1 B.2.2.2.1 (B.2.2.2.2.1 _ hw) hd (k H locs ls hM hl)
theorem z_goto (B : zx_B p s m args meth c cc own nL g) {off : Int} {tgt : Nat} (hd : decode cc pc = .ok (.goto off, 3)) (ht : (pc : Int) + off = (tgt : Int)) (k : zx p l e R s m args below meth c g nL cells slots Q σ tgt lv st) : zx p l e R s m args below meth c g nL cells slots Q σ pc lv st := fun H locs ls hM hl => lv_goto B.1 B.2.1 hd ht (k H locs ls hM hl)
theorem z_if_eq (B : zx_B p s m args meth c cc own nL g) {x : Int32} {off : Int} {tgt : Nat} (hd : decode cc pc = .ok (.ifCond .eq off, 3)) (ht : (pc : Int) + off = (tgt : Int)) (kt : x = 0 → zx p l e R s m args below meth c g nL cells slots Q σ tgt lv st) (kf : ¬ x = 0 → zx p l e R s m args below meth c g nL cells slots Q σ (pc + 3) lv st) : zx p l e R s m args below meth c g nL cells slots Q σ pc lv (.int x :: st) := fun H locs ls hM hl => lv_if_eq B.1 B.2.1 hd ht (fun h => kt h H locs ls hM hl) (fun h => kf h H locs ls hM hl)
theorem z_icmp_eq (B : zx_B p s m args meth c cc own nL g) {x y : Int32} {off : Int} {tgt : Nat} (hd : decode cc pc = .ok (.if_icmp .eq off, 3)) (ht : (pc : Int) + off = (tgt : Int)) (kt : x = y → zx p l e R s m args below meth c g nL cells slots Q σ tgt lv st) (kf : ¬ x = y → zx p l e R s m args below meth c g nL cells slots Q σ (pc + 3) lv st) : zx p l e R s m args below meth c g nL cells slots Q σ pc lv (.int y :: .int x :: st) := fun H locs ls hM hl => lv_icmp_eq B.1 B.2.1 hd ht (fun h => kt h H locs ls hM hl) (fun h => kf h H locs ls hM hl)
theorem z_if_ne (B : zx_B p s m args meth c cc own nL g) {x : Int32} {off : Int} {tgt : Nat} (hd : decode cc pc = .ok (.ifCond .ne off, 3)) (ht : (pc : Int) + off = (tgt : Int)) (kt : ¬ x = 0 → zx p l e R s m args below meth c g nL cells slots Q σ tgt lv st) (kf : x = 0 → zx p l e R s m args below meth c g nL cells slots Q σ (pc + 3) lv st) : zx p l e R s m args below meth c g nL cells slots Q σ pc lv (.int x :: st) := fun H locs ls hM hl => lv_if_ne B.1 B.2.1 hd ht (fun h => kt h H locs ls hM hl) (fun h => kf h H locs ls hM hl)
theorem z_icmp_ne (B : zx_B p s m args meth c cc own nL g) {x y : Int32} {off : Int} {tgt : Nat} (hd : decode cc pc = .ok (.if_icmp .ne off, 3)) (ht : (pc : Int) + off = (tgt : Int)) (kt : ¬ x = y → zx p l e R s m args below meth c g nL cells slots Q σ tgt lv st) (kf : x = y → zx p l e R s m args below meth c g nL cells slots Q σ (pc + 3) lv st) : zx p l e R s m args below meth c g nL cells slots Q σ pc lv (.int y :: .int x :: st) := fun H locs ls hM hl => lv_icmp_ne B.1 B.2.1 hd ht (fun h => kt h H locs ls hM hl) (fun h => kf h H locs ls hM hl)
theorem z_if_lt (B : zx_B p s m args meth c cc own nL g) {x : Int32} {off : Int} {tgt : Nat} (hd : decode cc pc = .ok (.ifCond .lt off, 3)) (ht : (pc : Int) + off = (tgt : Int)) (kt : x < 0 → zx p l e R s m args below meth c g nL cells slots Q σ tgt lv st) (kf : ¬ x < 0 → zx p l e R s m args below meth c g nL cells slots Q σ (pc + 3) lv st) : zx p l e R s m args below meth c g nL cells slots Q σ pc lv (.int x :: st) := fun H locs ls hM hl => lv_if_lt B.1 B.2.1 hd ht (fun h => kt h H locs ls hM hl) (fun h => kf h H locs ls hM hl)
theorem z_icmp_lt (B : zx_B p s m args meth c cc own nL g) {x y : Int32} {off : Int} {tgt : Nat} (hd : decode cc pc = .ok (.if_icmp .lt off, 3)) (ht : (pc : Int) + off = (tgt : Int)) (kt : x < y → zx p l e R s m args below meth c g nL cells slots Q σ tgt lv st) (kf : ¬ x < y → zx p l e R s m args below meth c g nL cells slots Q σ (pc + 3) lv st) : zx p l e R s m args below meth c g nL cells slots Q σ pc lv (.int y :: .int x :: st) := fun H locs ls hM hl => lv_icmp_lt B.1 B.2.1 hd ht (fun h => kt h H locs ls hM hl) (fun h => kf h H locs ls hM hl)
theorem z_if_ge (B : zx_B p s m args meth c cc own nL g) {x : Int32} {off : Int} {tgt : Nat} (hd : decode cc pc = .ok (.ifCond .ge off, 3)) (ht : (pc : Int) + off = (tgt : Int)) (kt : 0 ≤ x → zx p l e R s m args below meth c g nL cells slots Q σ tgt lv st) (kf : ¬ 0 ≤ x → zx p l e R s m args below meth c g nL cells slots Q σ (pc + 3) lv st) : zx p l e R s m args below meth c g nL cells slots Q σ pc lv (.int x :: st) := fun H locs ls hM hl => lv_if_ge B.1 B.2.1 hd ht (fun h => kt h H locs ls hM hl) (fun h => kf h H locs ls hM hl)
theorem z_icmp_ge (B : zx_B p s m args meth c cc own nL g) {x y : Int32} {off : Int} {tgt : Nat} (hd : decode cc pc = .ok (.if_icmp .ge off, 3)) (ht : (pc : Int) + off = (tgt : Int)) (kt : y ≤ x → zx p l e R s m args below meth c g nL cells slots Q σ tgt lv st) (kf : ¬ y ≤ x → zx p l e R s m args below meth c g nL cells slots Q σ (pc + 3) lv st) : zx p l e R s m args below meth c g nL cells slots Q σ pc lv (.int y :: .int x :: st) := fun H locs ls hM hl => lv_icmp_ge B.1 B.2.1 hd ht (fun h => kt h H locs ls hM hl) (fun h => kf h H locs ls hM hl)
theorem z_if_gt (B : zx_B p s m args meth c cc own nL g) {x : Int32} {off : Int} {tgt : Nat} (hd : decode cc pc = .ok (.ifCond .gt off, 3)) (ht : (pc : Int) + off = (tgt : Int)) (kt : 0 < x → zx p l e R s m args below meth c g nL cells slots Q σ tgt lv st) (kf : ¬ 0 < x → zx p l e R s m args below meth c g nL cells slots Q σ (pc + 3) lv st) : zx p l e R s m args below meth c g nL cells slots Q σ pc lv (.int x :: st) := fun H locs ls hM hl => lv_if_gt B.1 B.2.1 hd ht (fun h => kt h H locs ls hM hl) (fun h => kf h H locs ls hM hl)
theorem z_icmp_gt (B : zx_B p s m args meth c cc own nL g) {x y : Int32} {off : Int} {tgt : Nat} (hd : decode cc pc = .ok (.if_icmp .gt off, 3)) (ht : (pc : Int) + off = (tgt : Int)) (kt : y < x → zx p l e R s m args below meth c g nL cells slots Q σ tgt lv st) (kf : ¬ y < x → zx p l e R s m args below meth c g nL cells slots Q σ (pc + 3) lv st) : zx p l e R s m args below meth c g nL cells slots Q σ pc lv (.int y :: .int x :: st) := fun H locs ls hM hl => lv_icmp_gt B.1 B.2.1 hd ht (fun h => kt h H locs ls hM hl) (fun h => kf h H locs ls hM hl)
theorem z_if_le (B : zx_B p s m args meth c cc own nL g) {x : Int32} {off : Int} {tgt : Nat} (hd : decode cc pc = .ok (.ifCond .le off, 3)) (ht : (pc : Int) + off = (tgt : Int)) (kt : x ≤ 0 → zx p l e R s m args below meth c g nL cells slots Q σ tgt lv st) (kf : ¬ x ≤ 0 → zx p l e R s m args below meth c g nL cells slots Q σ (pc + 3) lv st) : zx p l e R s m args below meth c g nL cells slots Q σ pc lv (.int x :: st) := fun H locs ls hM hl => lv_if_le B.1 B.2.1 hd ht (fun h => kt h H locs ls hM hl) (fun h => kf h H locs ls hM hl)
theorem z_icmp_le (B : zx_B p s m args meth c cc own nL g) {x y : Int32} {off : Int} {tgt : Nat} (hd : decode cc pc = .ok (.if_icmp .le off, 3)) (ht : (pc : Int) + off = (tgt : Int)) (kt : x ≤ y → zx p l e R s m args below meth c g nL cells slots Q σ tgt lv st) (kf : ¬ x ≤ y → zx p l e R s m args below meth c g nL cells slots Q σ (pc + 3) lv st) : zx p l e R s m args below meth c g nL cells slots Q σ pc lv (.int y :: .int x :: st) := fun H locs ls hM hl => lv_icmp_le B.1 B.2.1 hd ht (fun h => kt h H locs ls hM hl) (fun h => kf h H locs ls hM hl)
theorem z_acmp_eq (B : zx_B p s m args meth c cc own nL g) {rx ry : Option Nat} {off : Int} {tgt : Nat} (hd : decode cc pc = .ok (.if_acmp .eq off, 3)) (ht : (pc : Int) + off = (tgt : Int)) (kt : rx = ry → zx p l e R s m args below meth c g nL cells slots Q σ tgt lv st) (kf : ¬ rx = ry → zx p l e R s m args below meth c g nL cells slots Q σ (pc + 3) lv st) : zx p l e R s m args below meth c g nL cells slots Q σ pc lv (va_rf ry :: va_rf rx :: st) := fun H locs ls hM hl => lv_acmp_eq B.1 B.2.1 hd ht (fun h => kt h H locs ls hM hl) (fun h => kf h H locs ls hM hl)
theorem z_acmp_ne (B : zx_B p s m args meth c cc own nL g) {rx ry : Option Nat} {off : Int} {tgt : Nat} (hd : decode cc pc = .ok (.if_acmp .ne off, 3)) (ht : (pc : Int) + off = (tgt : Int)) (kt : ¬ rx = ry → zx p l e R s m args below meth c g nL cells slots Q σ tgt lv st) (kf : rx = ry → zx p l e R s m args below meth c g nL cells slots Q σ (pc + 3) lv st) : zx p l e R s m args below meth c g nL cells slots Q σ pc lv (va_rf ry :: va_rf rx :: st) := fun H locs ls hM hl => lv_acmp_ne B.1 B.2.1 hd ht (fun h => kt h H locs ls hM hl) (fun h => kf h H locs ls hM hl)
theorem z_ifnull (B : zx_B p s m args meth c cc own nL g) {r : Option Nat} {off : Int} {tgt : Nat} (hd : decode cc pc = .ok (.ifnull off, 3)) (ht : (pc : Int) + off = (tgt : Int)) (kt : r = none → zx p l e R s m args below meth c g nL cells slots Q σ tgt lv st) (kf : ∀ a, r = some a → zx p l e R s m args below meth c g nL cells slots Q σ (pc + 3) lv st) : zx p l e R s m args below meth c g nL cells slots Q σ pc lv (va_rf r :: st) := by
  cases r with
  | none => exact fun H locs ls hM hl => lv_ifnullN B.1 B.2.1 hd ht (kt rfl H locs ls hM hl)
  | some x => exact fun H locs ls hM hl => lv_ifnull B.1 B.2.1 hd (kf x rfl H locs ls hM hl)
theorem z_ifnonnull (B : zx_B p s m args meth c cc own nL g) {r : Option Nat} {off : Int} {tgt : Nat} (hd : decode cc pc = .ok (.ifnonnull off, 3)) (ht : (pc : Int) + off = (tgt : Int)) (kt : ∀ a, r = some a → zx p l e R s m args below meth c g nL cells slots Q σ tgt lv st) (kf : r = none → zx p l e R s m args below meth c g nL cells slots Q σ (pc + 3) lv st) : zx p l e R s m args below meth c g nL cells slots Q σ pc lv (va_rf r :: st) := by
  cases r with
  | none => exact fun H locs ls hM hl => lv_ifnonnullN B.1 B.2.1 hd (kf rfl H locs ls hM hl)
  | some x => exact fun H locs ls hM hl => lv_ifnonnull B.1 B.2.1 hd ht (kt x rfl H locs ls hM hl)
theorem z_tableIn (B : zx_B p s m args meth c cc own nL g) {dflt lo hi : Int} {offs : Array Int} {len : Nat} {x : Int32} {off : Int} {tgt : Nat} (hd : decode cc pc = .ok (.tableswitch dflt lo hi offs, len)) (h1 : ¬ x.toInt < lo) (h2 : ¬ hi < x.toInt) (ho : offs[(x.toInt - lo).toNat]? = some off) (ht : (pc : Int) + off = (tgt : Int)) (k : zx p l e R s m args below meth c g nL cells slots Q σ tgt lv st) : zx p l e R s m args below meth c g nL cells slots Q σ pc lv (.int x :: st) := fun H locs ls hM hl => lv_tableIn B.1 B.2.1 hd h1 h2 ho ht (k H locs ls hM hl)
theorem z_tableOut (B : zx_B p s m args meth c cc own nL g) {dflt lo hi : Int} {offs : Array Int} {len : Nat} {x : Int32} {tgt : Nat} (hd : decode cc pc = .ok (.tableswitch dflt lo hi offs, len)) (h : x.toInt < lo ∨ hi < x.toInt) (ht : (pc : Int) + dflt = (tgt : Int)) (k : zx p l e R s m args below meth c g nL cells slots Q σ tgt lv st) : zx p l e R s m args below meth c g nL cells slots Q σ pc lv (.int x :: st) := fun H locs ls hM hl => lv_tableOut B.1 B.2.1 hd h ht (k H locs ls hM hl)
/-- the cell at a, out of the world -/
theorem zh_at {g : gx_T} {σ : sx_T} {H : Heap} {a : Nat} (h : zx_h g σ H) (hK : sx_K σ a ≠ 0) : ∃ (L : List Nat) (k : Nat), (∀ a, a ∈ L ↔ sx_K σ a ≠ 0) ∧ va_P (gx_D g) vwCl (va_pl L (sx_F (gx_A g) σ)) H ∧ va_D (gx_Q g) (va_pl L (sx_F (gx_A g) σ)) ∧ (va_pl L (sx_F (gx_A g) σ))[k]? = some (a, sx_F (gx_A g) σ a) ∧ a ∈ L := by
  obtain ⟨-, -, -, -, L, hL, hP, hD⟩ := h
  obtain ⟨k, hk⟩ := va_pl_get (X := []) (f := sx_F (gx_A g) σ) ((hL a).mpr hK)
  exact ⟨L, k, hL, hP, hD, hk, (hL a).mpr hK⟩

/-- a world with one cell changed -/
theorem zm_put {g : gx_T} {s : State} {σ σ' : sx_T} {H H1 : Heap} {locs : List Loc} {a j : Nat} {e1 : va_E} (hM : zx_m g s σ H locs) (hK : sx_K σ a ≠ 0) (hF : ∀ b, va_up (sx_F (gx_A g) σ) a e1 b = sx_F (gx_A g) σ' b) (hKK : ∀ b, sx_K σ' b = sx_K σ b) (hz : sx_Z σ' = sx_Z σ)
    (he : va_at (gx_D g) vwCl (a, e1) H1) (hs : H1.size = H.size) (oq : ∀ q : Nat, q ≠ a → H1[q]? = H[q]?) : zx_m g s σ' H1 (locs ++ [⟨a, j⟩]) := by
  obtain ⟨⟨h1, h2, h3, h4, L, hL, hP, hD⟩, hS⟩ := hM
  obtain ⟨k, hk⟩ := va_pl_get (X := []) (f := sx_F (gx_A g) σ) ((hL a).mpr hK)
  rw [List.nil_append] at hk
  have ha : gx_b g ≤ a := hD.2 k _ hk
  have hset := va_pl_set (X := []) hD ((hL a).mpr hK) hk (e := e1)
  rw [List.nil_append, List.nil_append, va_pl_congr hF] at hset
  have hP1 := hP.set hD hk he oq
  have hD1 := hD.set (e := e1) hk
  rw [hset] at hP1 hD1
  exact ⟨⟨hs.trans (h1.trans hz.symm), by rw [hs]; exact h2, fun q hq => (oq q (by omega)).trans (h3 q hq), h4, L, fun b => by rw [hL b, hKK b], hP1, hD1⟩, hS.put hs oq ha⟩
/-- a world with a cell more -/
theorem zm_new {g : gx_T} {s : State} {σ : sx_T} {H H1 : Heap} {locs : List Loc} {kd n : Nat} {e1 : va_E} (hM : zx_m g s σ H locs) (hb : gx_b g ≤ s.heap.size) (hkd : kd ≠ 0) (hF : ∀ b, va_up (sx_F (gx_A g) σ) (sx_Z σ) e1 b = sx_F (gx_A g) (wx_N σ kd n) b)
    (he : va_at (gx_D g) vwCl (sx_Z σ, e1) H1) (hs : H1.size = sx_Z σ + 1) (oq : ∀ q : Nat, q < sx_Z σ → H1[q]? = H[q]?) : zx_m g s (wx_N σ kd n) H1 locs := by
  obtain ⟨⟨h1, h2, h3, h4, L, hL, hP, hD⟩, hS⟩ := hM
  have hfr : sx_Z σ ∉ L := by
    have := va_pl_fresh (X := []) hP (a := sx_Z σ) (by omega)
    exact this
  have hk : ∀ (k : Nat) (x : Nat × va_E), (va_pl L (sx_F (gx_A g) σ))[k]? = some x → H1[x.1]? = H[x.1]? := fun k x hx => oq x.1 (by have := (hP k x hx).lt; omega)
  have hP1 : va_P (gx_D g) vwCl (va_pl L (sx_F (gx_A g) σ) ++ [(sx_Z σ, e1)]) H1 := (hP.kept hk).app (fun k x hx => by
    have hz : k < 1 := (List.getElem?_eq_some_iff.mp hx).1
    rw [show k = 0 by omega] at hx
    cases hx
    exact he)
  have hD1 : va_D (gx_Q g) (va_pl L (sx_F (gx_A g) σ) ++ [(sx_Z σ, e1)]) := hD.push hP h1.symm (show gx_b g ≤ sx_Z σ by omega)
  rw [va_pl_push hfr, va_pl_congr hF] at hP1 hD1
  refine ⟨⟨hs, by rw [hs]; omega, fun q hq => (oq q (by omega)).trans (h3 q hq), h4, L ++ [sx_Z σ], fun b => ?_, hP1, hD1⟩, ⟨Nat.le_trans hS.1 (by omega), fun x q1 q2 => (oq x (by have := hS.1; omega)).trans (hS.2.1 x q1 q2), hS.2.2⟩⟩
  show b ∈ L ++ [sx_Z σ] ↔ (if b = sx_Z σ then kd else sx_K σ b) ≠ 0
  rw [List.mem_append, List.mem_singleton, hL b]
  by_cases hbz : b = sx_Z σ
  · rw [if_pos hbz]
    exact ⟨fun _ => hkd, fun _ => Or.inr hbz⟩
  · rw [if_neg hbz]
    exact ⟨fun h => h.elim id (fun e => absurd e hbz), Or.inl⟩
def cx_ok (ci : Nat) (C : String) (T : u_T) (N : Nat) (ty0 : Nat → FieldType) : Prop := vwCl[ci]? = some (C, T, N) ∧ (∀ w ∈ u_ws C T N, w ∈ lw_g) ∧ (∀ k, k < N → parseFieldDescriptor (T k).2.2.1 = some (ty0 k)) ∧ (∀ a, a < N → ∀ b, b < N → a ≠ b → (T a).2.1 ≠ (T b).2.1) ∧ ci < 11 ∧ N = (sx_s ci).length ∧ Cond.instantiable C N ∈ lw_g ∧ Cond.initialized C ∈ lw_g
theorem zh_o {g : gx_T} {σ : sx_T} {H : Heap} {a ci : Nat} (h : zx_h g σ H) (hK : sx_K σ a = ci + 1) (hc : ci < 11) : va_at (gx_D g) vwCl (a, .inr (ci, sx_f σ a (sx_s ci) 0)) H := by
  obtain ⟨L, k, -, hP, -, hk, -⟩ := zh_at h (by rw [hK]; omega)
  have := hP k _ hk
  rw [xF_o hK hc] at this
  exact this
theorem zh_i {g : gx_T} {σ : sx_T} {H : Heap} {a kd : Nat} (h : zx_h g σ H) (hK : sx_K σ a = kd) (hc : kd = 12 ∨ kd = 13) : va_at (gx_D g) vwCl (a, .inl (gx_A g kd, sx_N σ a, .inl (sx_I σ a))) H := by
  obtain ⟨L, k, -, hP, -, hk, -⟩ := zh_at h (by rw [hK]; omega)
  have := hP k _ hk
  rw [xF_i hK hc] at this
  exact this
theorem zh_l {g : gx_T} {σ : sx_T} {H : Heap} {a : Nat} (h : zx_h g σ H) (hK : sx_K σ a = 14) : va_at (gx_D g) vwCl (a, .inl (gx_A g 14, sx_N σ a, .inr (.inl (sx_J σ a)))) H := by
  obtain ⟨L, k, -, hP, -, hk, -⟩ := zh_at h (by rw [hK]; omega)
  have := hP k _ hk
  rw [xF_l hK] at this
  exact this
theorem zh_q {g : gx_T} {σ : sx_T} {H : Heap} {a kd : Nat} (h : zx_h g σ H) (hK : sx_K σ a = kd) (hc : kd = 15 ∨ kd = 16 ∨ kd = 17) : va_at (gx_D g) vwCl (a, .inl (gx_A g kd, sx_N σ a, .inr (.inr (.inr (.inr (sx_R σ a)))))) H := by
  obtain ⟨L, k, -, hP, -, hk, -⟩ := zh_at h (by rw [hK]; omega)
  have := hP k _ hk
  rw [xF_q hK hc] at this
  exact this
theorem zp_1 {D : va_G} {cl : List vw_C} {H : Heap} {q : Nat × va_E} (h : va_at D cl q H) : va_P D cl [q] H := fun k x hx => by
  have hz : k < 1 := (List.getElem?_eq_some_iff.mp hx).1
  rw [show k = 0 by omega] at hx
  cases hx
  exact h
theorem z_get (B : zx_B p s m args meth c cc own nL g) {ci N k index a : Nat} {C ref  : String} {T : u_T} {ty0 : Nat → FieldType} {v : Value} (hC : cx_ok ci C T N ty0) (hKa : sx_K σ a = ci + 1) (hk : k < N) (hw : Cond.fieldLink own index ref (T k).2.1 (T k).2.2.1 ∈ lw_g) (hsame : ∀ x, s.fieldFound? (T k).1 (T k).2.1 (T k).2.2.1 = some x → s.fieldFound? ref (T k).2.1 (T k).2.2.1 = some x) (hv : (sx_f σ a (sx_s ci) 0)[k]? = some v) (hd : decode cc pc = .ok (.getfield index, 3)) (kk : zx p l e R s m args below meth c g nL cells slots Q σ (pc + 3) lv (v :: st)) : zx p l e R s m args below meth c g nL cells slots Q σ pc lv (.ref a :: st) := fun H locs ls hM hl => va_get (ws := [(a, .inr (ci, sx_f σ a (sx_s ci) 0))]) B.1 B.2.1 B.2.2.2.2.1 hC.2.1 B.2.2.2.1 B.2.2.2.2.2.2.1.1 (zp_1 (zh_o hM.1 hKa hC.2.2.2.2.1)) 0 rfl hC.1 k hk (B.2.2.2.2.1 _ hw) hsame hv hd (kk H locs ls hM hl)
theorem z_getN (B : zx_B p s m args meth c cc own nL g) {ci N k index a : Nat} {C ref host : String} {T : u_T} {ty0 : Nat → FieldType} {v : Value} (hC : cx_ok ci C T N ty0) (hKa : sx_K σ a = ci + 1) (hk : k < N) (hw : Cond.fieldLinkNest own index ref (T k).2.1 (T k).2.2.1 host ∈ lw_n) (hsame : ∀ x, s.fieldFound? (T k).1 (T k).2.1 (T k).2.2.1 = some x → s.fieldFound? ref (T k).2.1 (T k).2.2.1 = some x) (hv : (sx_f σ a (sx_s ci) 0)[k]? = some v) (hd : decode cc pc = .ok (.getfield index, 3)) (kk : zx p l e R s m args below meth c g nL cells slots Q σ (pc + 3) lv (v :: st)) : zx p l e R s m args below meth c g nL cells slots Q σ pc lv (.ref a :: st) := fun H locs ls hM hl => va_getN (ws := [(a, .inr (ci, sx_f σ a (sx_s ci) 0))]) B.1 B.2.1 B.2.2.2.2.1 hC.2.1 B.2.2.2.1 B.2.2.2.2.2.2.1.1 (zp_1 (zh_o hM.1 hKa hC.2.2.2.2.1)) 0 rfl hC.1 k hk (va_Nw.use rfl (B.2.2.2.2.2.2.1.2.1 _ hw)) hsame hv hd (kk H locs ls hM hl)
theorem z_put (B : zx_B p s m args meth c cc own nL g) {ci N k index a : Nat} {C ref  : String} {T : u_T} {ty0 : Nat → FieldType} {ty : FieldType} {v : Value} (hC : cx_ok ci C T N ty0) (hKa : sx_K σ a = ci + 1) (hk : k < N) (hw : Cond.fieldLink own index ref (T k).2.1 (T k).2.2.1 ∈ lw_g) (hsame : ∀ x, s.fieldFound? (T k).1 (T k).2.1 (T k).2.2.1 = some x → s.fieldFound? ref (T k).2.1 (T k).2.2.1 = some x) (hfin : (T k).2.2.2 = false) (hdd : parseFieldDescriptor (T k).2.2.1 = some ty) (hn : narrow ty v = v) (hfit : fits ty v = true) (hF : ∀ b, va_up (sx_F (gx_A g) σ) a (.inr (ci, (sx_f σ a (sx_s ci) 0).set k v)) b = sx_F (gx_A g) σ' b) (hKK : ∀ b, sx_K σ' b = sx_K σ b) (hz : sx_Z σ' = sx_Z σ) (hd : decode cc pc = .ok (.putfield index, 3)) (kk : zx p l e R s m args below meth c g nL cells slots Q σ' (pc + 3) lv st) : zx p l e R s m args below meth c g nL cells slots Q σ pc lv (v :: .ref a :: st) := by
  intro H locs ls hM hl
  obtain ⟨hx, hb, -, hown, hts, -, hkk, -⟩ := B
  have hKc := hkk.1
  have hc := hC.1
  have hin := hC.2.1
  have hap := va_apart (own := own) hts hin ty0 hC.2.2.1 hC.2.2.2.1 hKc hc
  obtain ⟨r, h1, cell, q1, q2, q3, q4⟩ := zh_o hM.1 hKa hC.2.2.2.2.1
  have hr : r = (C, T, N) := Option.some.inj (h1.symm.trans hc)
  subst hr
  obtain ⟨hS, hfc, kC, hkC, hkind⟩ := hKc.1 ci _ hc
  obtain ⟨cf, kf, fi, f, hi, hsl⟩ := hS k hk
  have hlay := hts _ (hin _ (u_in_lay hk))
  unfold u_lay at hlay
  rw [if_neg (by rw [hfin]; decide)] at hlay
  have hst := (u_facts hfc hkC (u_lays hts hin hk) hi).1
  have h6 := u_store hfc hkC hkind hlay hi hdd hn hfit
  refine W.putK hx hb (f := f) ⟨hown, hts _ hw, ⟨_, _, _, hsame _ hi⟩, hst⟩ (by rw [q2]; exact h6) q1 q3 (by rw [hsl]; exact k2_hasslot (q4 k hk)) rfl rfl hd fun H' e1 e2 e3 => ?_
  rw [hsl] at e1
  refine kk H' _ ls (zm_put (j := f.slot) hM (by rw [hKa]; omega) hF hKK hz ⟨_, hc, t_OB.to (V := updV (vp_V (sx_f σ a (sx_s ci) 0)) k v) ⟨_, e1, q2, q3, t_set q4 hap hk v⟩ (fun j _ => vp_updV_set (by rw [sf_len, ← hC.2.2.2.2.2.1]; exact hk) v j)⟩ e2 e3) hl
theorem z_putF (B : zx_B p s m args meth c cc own nL g) {ci N k index a : Nat} {C ref  : String} {T : u_T} {ty0 : Nat → FieldType} {ty : FieldType} {v : Value} (hC : cx_ok ci C T N ty0) (hKa : sx_K σ a = ci + 1) (hk : k < N) (hw : Cond.fieldLink own index ref (T k).2.1 (T k).2.2.1 ∈ lw_g) (hsame : ∀ x, s.fieldFound? (T k).1 (T k).2.1 (T k).2.2.1 = some x → s.fieldFound? ref (T k).2.1 (T k).2.2.1 = some x) (hfin : (T k).2.2.2 = true) (hin2 : meth.name = "<init>") (hdecl : (T k).1 = own) (hdd : parseFieldDescriptor (T k).2.2.1 = some ty) (hn : narrow ty v = v) (hfit : fits ty v = true) (hF : ∀ b, va_up (sx_F (gx_A g) σ) a (.inr (ci, (sx_f σ a (sx_s ci) 0).set k v)) b = sx_F (gx_A g) σ' b) (hKK : ∀ b, sx_K σ' b = sx_K σ b) (hz : sx_Z σ' = sx_Z σ) (hd : decode cc pc = .ok (.putfield index, 3)) (kk : zx p l e R s m args below meth c g nL cells slots Q σ' (pc + 3) lv st) : zx p l e R s m args below meth c g nL cells slots Q σ pc lv (v :: .ref a :: st) := by
  intro H locs ls hM hl
  obtain ⟨hx, hb, -, hown, hts, -, hkk, -⟩ := B
  have hKc := hkk.1
  have hc := hC.1
  have hin := hC.2.1
  have hap := va_apart (own := own) hts hin ty0 hC.2.2.1 hC.2.2.2.1 hKc hc
  obtain ⟨r, h1, cell, q1, q2, q3, q4⟩ := zh_o hM.1 hKa hC.2.2.2.2.1
  have hr : r = (C, T, N) := Option.some.inj (h1.symm.trans hc)
  subst hr
  obtain ⟨hS, hfc, kC, hkC, hkind⟩ := hKc.1 ci _ hc
  obtain ⟨cf, kf, fi, f, hi, hsl⟩ := hS k hk
  have hlay := hts _ (hin _ (u_in_lay hk))
  unfold u_lay at hlay
  rw [if_pos hfin] at hlay
  have hst := (u_facts hfc hkC (u_lays hts hin hk) hi).1
  have hcf : m.cls = cf := by
    obtain ⟨_, _, c', _, _, _, -, -, hf', -, -, -, hown2, -⟩ := Cond.laysFinal_spec hlay
    have e1 : c' = cf := by have := hi.symm.trans hf'; simp at this; exact this.1.symm
    rw [hdecl] at hown2
    rw [← e1]; exact Option.some.inj (hown.symm.trans hown2)
  have h6 := u_fits hfc hkC hkind (Or.inr hlay) hi hdd hn hfit
  refine W.putFinK hx hb hown (hts _ hw) (hsame _ hi) hst hcf hin2 (by rw [q2]; exact h6) q1 q3 (by rw [hsl]; exact k2_hasslot (q4 k hk)) rfl rfl hd fun H' e1 e2 e3 => ?_
  rw [hsl] at e1
  refine kk H' _ ls (zm_put (j := f.slot) hM (by rw [hKa]; omega) hF hKK hz ⟨_, hc, t_OB.to (V := updV (vp_V (sx_f σ a (sx_s ci) 0)) k v) ⟨_, e1, q2, q3, t_set q4 hap hk v⟩ (fun j _ => vp_updV_set (by rw [sf_len, ← hC.2.2.2.2.2.1]; exact hk) v j)⟩ e2 e3) hl
theorem z_putN (B : zx_B p s m args meth c cc own nL g) {ci N k index a : Nat} {C ref host : String} {T : u_T} {ty0 : Nat → FieldType} {ty : FieldType} {v : Value} (hC : cx_ok ci C T N ty0) (hKa : sx_K σ a = ci + 1) (hk : k < N) (hw : Cond.fieldLinkNest own index ref (T k).2.1 (T k).2.2.1 host ∈ lw_n) (hsame : ∀ x, s.fieldFound? (T k).1 (T k).2.1 (T k).2.2.1 = some x → s.fieldFound? ref (T k).2.1 (T k).2.2.1 = some x) (hfin : (T k).2.2.2 = false) (hdd : parseFieldDescriptor (T k).2.2.1 = some ty) (hn : narrow ty v = v) (hfit : fits ty v = true) (hF : ∀ b, va_up (sx_F (gx_A g) σ) a (.inr (ci, (sx_f σ a (sx_s ci) 0).set k v)) b = sx_F (gx_A g) σ' b) (hKK : ∀ b, sx_K σ' b = sx_K σ b) (hz : sx_Z σ' = sx_Z σ) (hd : decode cc pc = .ok (.putfield index, 3)) (kk : zx p l e R s m args below meth c g nL cells slots Q σ' (pc + 3) lv st) : zx p l e R s m args below meth c g nL cells slots Q σ pc lv (v :: .ref a :: st) := by
  intro H locs ls hM hl
  obtain ⟨hx, hb, -, hown, hts, -, hkk, -⟩ := B
  have hKc := hkk.1
  have hc := hC.1
  have hin := hC.2.1
  have hap := va_apart (own := own) hts hin ty0 hC.2.2.1 hC.2.2.2.1 hKc hc
  obtain ⟨r, h1, cell, q1, q2, q3, q4⟩ := zh_o hM.1 hKa hC.2.2.2.2.1
  have hr : r = (C, T, N) := Option.some.inj (h1.symm.trans hc)
  subst hr
  obtain ⟨hS, hfc, kC, hkC, hkind⟩ := hKc.1 ci _ hc
  obtain ⟨cf, kf, fi, f, hi, hsl⟩ := hS k hk
  have hlay := hts _ (hin _ (u_in_lay hk))
  unfold u_lay at hlay
  rw [if_neg (by rw [hfin]; decide)] at hlay
  have hst := (u_facts hfc hkC (u_lays hts hin hk) hi).1
  have h6 := u_store hfc hkC hkind hlay hi hdd hn hfit
  refine va_WputK hx hb (f := f) hown (va_Nw.use rfl (hkk.2.1 _ hw)) (hsame _ hi) hst (by rw [q2]; exact h6) q1 q3 (by rw [hsl]; exact k2_hasslot (q4 k hk)) rfl rfl hd fun H' e1 e2 e3 => ?_
  rw [hsl] at e1
  refine kk H' _ ls (zm_put (j := f.slot) hM (by rw [hKa]; omega) hF hKK hz ⟨_, hc, t_OB.to (V := updV (vp_V (sx_f σ a (sx_s ci) 0)) k v) ⟨_, e1, q2, q3, t_set q4 hap hk v⟩ (fun j _ => vp_updV_set (by rw [sf_len, ← hC.2.2.2.2.2.1]; exact hk) v j)⟩ e2 e3) hl
theorem z_iald (B : zx_B p s m args meth c cc own nL g) {a j : Nat} {i : Int32} {x : Int32} (hKa : sx_K σ a = 13) (hj : i.toNatClampNeg = j) (hin : vp_in i (sx_N σ a)) (hx : sx_I σ a j = x) (hd : decode cc pc = .ok (.iaload, 1)) (kk : zx p l e R s m args below meth c g nL cells slots Q σ (pc + 1) lv (.int x :: st)) : zx p l e R s m args below meth c g nL cells slots Q σ pc lv (.int i :: .ref a :: st) := fun H locs ls hM hl => va_iald (ws := [(a, .inl (gx_A g 13, sx_N σ a, .inl (sx_I σ a)))]) B.1 B.2.1 B.2.2.2.2.2.2.1.1 (zp_1 (zh_i hM.1 hKa (Or.inr rfl))) 0 1 rfl rfl hin hd (by rw [hj, hx]; exact kk H locs ls hM hl)
theorem z_bald (B : zx_B p s m args meth c cc own nL g) {a j : Nat} {i : Int32} {x : Int32} (hKa : sx_K σ a = 12) (hj : i.toNatClampNeg = j) (hin : vp_in i (sx_N σ a)) (hx : sx_I σ a j = x) (hd : decode cc pc = .ok (.baload, 1)) (kk : zx p l e R s m args below meth c g nL cells slots Q σ (pc + 1) lv (.int x :: st)) : zx p l e R s m args below meth c g nL cells slots Q σ pc lv (.int i :: .ref a :: st) := fun H locs ls hM hl => va_bald (ws := [(a, .inl (gx_A g 12, sx_N σ a, .inl (sx_I σ a)))]) B.1 B.2.1 B.2.2.2.2.2.2.1.1 (zp_1 (zh_i hM.1 hKa (Or.inl rfl))) 0 0 rfl rfl hin hd (by rw [hj, hx]; exact kk H locs ls hM hl)
theorem z_lald (B : zx_B p s m args meth c cc own nL g) {a j : Nat} {i : Int32} {x : Int64} (hKa : sx_K σ a = 14) (hj : i.toNatClampNeg = j) (hin : vp_in i (sx_N σ a)) (hx : sx_J σ a j = x) (hd : decode cc pc = .ok (.laload, 1)) (kk : zx p l e R s m args below meth c g nL cells slots Q σ (pc + 1) lv (.long x :: st)) : zx p l e R s m args below meth c g nL cells slots Q σ pc lv (.int i :: .ref a :: st) := fun H locs ls hM hl => va_lald (ws := [(a, .inl (gx_A g 14, sx_N σ a, .inr (.inl (sx_J σ a))))]) B.1 B.2.1 B.2.2.2.2.2.2.1.1 (zp_1 (zh_l hM.1 hKa)) 0 2 rfl rfl hin hd (by rw [hj, hx]; exact kk H locs ls hM hl)
theorem z_qald (B : zx_B p s m args meth c cc own nL g) {a j kd ti : Nat} {i : Int32} {r : Option Nat} {C : String} (hKa : sx_K σ a = kd) (hkd : kd = 15 ∨ kd = 16 ∨ kd = 17) (ht : (gx_t g)[ti]? = some (gx_A g kd, .object C)) (hj : i.toNatClampNeg = j) (hin : vp_in i (sx_N σ a)) (hx : sx_R σ a j = r) (hd : decode cc pc = .ok (.aaload, 1)) (kk : zx p l e R s m args below meth c g nL cells slots Q σ (pc + 1) lv (va_rf r :: st)) : zx p l e R s m args below meth c g nL cells slots Q σ pc lv (.int i :: .ref a :: st) := fun H locs ls hM hl => va_aldq (ws := [(a, .inl (gx_A g kd, sx_N σ a, .inr (.inr (.inr (.inr (sx_R σ a))))))]) B.1 B.2.1 B.2.2.2.2.2.2.1.1 (zp_1 (zh_q hM.1 hKa hkd)) 0 ti rfl ht hin hd (by rw [hj, hx]; exact kk H locs ls hM hl)
theorem z_alen (B : zx_B p s m args meth c cc own nL g) {a kd ti : Nat} {v : Int32} {ty : FieldType} (hKa : sx_K σ a = kd) (hkd : 12 ≤ kd) (ht : (gx_t g)[ti]? = some (gx_A g kd, ty)) (hv : Int32.ofNat (sx_N σ a) = v) (hd : decode cc pc = .ok (.arraylength, 1)) (kk : zx p l e R s m args below meth c g nL cells slots Q σ (pc + 1) lv (.int v :: st)) : zx p l e R s m args below meth c g nL cells slots Q σ pc lv (.ref a :: st) := fun H locs ls hM hl => by
  obtain ⟨L, k, -, hP, -, hk, -⟩ := zh_at hM.1 (by rw [hKa]; omega)
  have h9 := hP k _ hk
  unfold sx_F at h9
  rw [hKa, if_neg (by omega)] at h9
  exact va_alen B.1 B.2.1 B.2.2.2.2.2.2.1.1 (zp_1 h9) 0 ti rfl ht hv hd (kk H locs ls hM hl)
theorem z_iast (B : zx_B p s m args meth c cc own nL g) {a j : Nat} {i x : Int32} (hKa : sx_K σ a = 13) (hj : i.toNatClampNeg = j) (hin : vp_in i (sx_N σ a)) (hσ : wx_I σ a j x = σ') (hd : decode cc pc = .ok (.iastore, 1)) (kk : zx p l e R s m args below meth c g nL cells slots Q σ' (pc + 1) lv st) : zx p l e R s m args below meth c g nL cells slots Q σ pc lv (.int x :: .int i :: .ref a :: st) := by
  intro H locs ls hM hl
  subst hσ
  have ha := zh_i hM.1 hKa (Or.inr rfl)
  refine W.iast B.1 B.2.1 ha ((B.2.2.2.2.2.2.1.1.2 1 _ rfl).1 _ (fun j => .int (sx_I σ a j))) (fun q => by cases q) (by show ¬ (i < 0 ∨ (arrV _ _ _).slots.size ≤ _); rw [arrV_size]; exact hin) rfl rfl hd fun H1 e z oq => ?_
  refine kk H1 _ ls (zm_put (j := i.toNatClampNeg) hM (by rw [hKa]; decide) (xF_stI (i := j) (x := x) hKa (Or.inr rfl)) (fun _ => rfl) rfl ?_ z oq) hl
  show H1[a]? = some (vp_cell _ _)
  rw [e]
  rw [vp_cell_i, vp_cell_i, arrV_store]
  congr 2
  funext q
  rw [hj]
  by_cases hq : q = j
  · subst hq
    simp [updV, upd]
  · simp [updV, upd, hq]
theorem z_bast (B : zx_B p s m args meth c cc own nL g) {a j : Nat} {i x : Int32} (hKa : sx_K σ a = 12) (hj : i.toNatClampNeg = j) (hin : vp_in i (sx_N σ a)) (hσ : wx_I σ a j x.toInt8.toInt32 = σ') (hd : decode cc pc = .ok (.bastore, 1)) (kk : zx p l e R s m args below meth c g nL cells slots Q σ' (pc + 1) lv st) : zx p l e R s m args below meth c g nL cells slots Q σ pc lv (.int x :: .int i :: .ref a :: st) := by
  intro H locs ls hM hl
  subst hσ
  have ha := zh_i hM.1 hKa (Or.inl rfl)
  refine W.bast B.1 B.2.1 ha ((B.2.2.2.2.2.2.1.1.2 0 _ rfl).1 _ (fun j => .int (sx_I σ a j))) (fun q => by cases q) (by show ¬ (i < 0 ∨ (arrV _ _ _).slots.size ≤ _); rw [arrV_size]; exact hin) rfl rfl hd fun H1 e z oq => ?_
  refine kk H1 _ ls (zm_put (j := i.toNatClampNeg) hM (by rw [hKa]; decide) (xF_stI (i := j) (x := x.toInt8.toInt32) hKa (Or.inl rfl)) (fun _ => rfl) rfl ?_ z oq) hl
  show H1[a]? = some (vp_cell _ _)
  rw [e]
  rw [vp_cell_i, vp_cell_i, arrV_store]
  congr 2
  funext q
  rw [hj]
  by_cases hq : q = j
  · subst hq
    simp [updV, upd, vp_nar]
    try rfl
  · simp [updV, upd, hq]
theorem z_last (B : zx_B p s m args meth c cc own nL g) {a j : Nat} {i : Int32} {x : Int64} (hKa : sx_K σ a = 14) (hj : i.toNatClampNeg = j) (hin : vp_in i (sx_N σ a)) (hσ : wx_J σ a j x = σ') (hd : decode cc pc = .ok (.lastore, 1)) (kk : zx p l e R s m args below meth c g nL cells slots Q σ' (pc + 1) lv st) : zx p l e R s m args below meth c g nL cells slots Q σ pc lv (.long x :: .int i :: .ref a :: st) := by
  intro H locs ls hM hl
  subst hσ
  have ha := zh_l hM.1 hKa
  refine W.last B.1 B.2.1 ha ((B.2.2.2.2.2.2.1.1.2 2 _ rfl).1 _ (fun j => .long (sx_J σ a j))) (fun q => by cases q) (by show ¬ (i < 0 ∨ (arrV _ _ _).slots.size ≤ _); rw [arrV_size]; exact hin) rfl rfl hd fun H1 e z oq => ?_
  refine kk H1 _ ls (zm_put (j := i.toNatClampNeg) hM (by rw [hKa]; decide) (xF_stJ (i := j) (x := x) hKa) (fun _ => rfl) rfl ?_ z oq) hl
  show H1[a]? = some (vp_cell _ _)
  rw [e]
  rw [vp_cell_l, vp_cell_l, arrV_store]
  congr 2
  funext q
  rw [hj]
  by_cases hq : q = j
  · subst hq
    simp [updV, vp_updL]
  · simp [updV, vp_updL, hq]
theorem z_qastN (B : zx_B p s m args meth c cc own nL g) {a j kd ti : Nat} {i : Int32} {C : String} (hKa : sx_K σ a = kd) (hkd : kd = 15 ∨ kd = 16 ∨ kd = 17) (ht : (gx_t g)[ti]? = some (gx_A g kd, .object C)) (hj : i.toNatClampNeg = j) (hin : vp_in i (sx_N σ a)) (hσ : wx_R σ a j none = σ') (hd : decode cc pc = .ok (.aastore, 1)) (kk : zx p l e R s m args below meth c g nL cells slots Q σ' (pc + 1) lv st) : zx p l e R s m args below meth c g nL cells slots Q σ pc lv (.null :: .int i :: .ref a :: st) := by
  intro H locs ls hM hl
  subst hσ
  have ha := zh_q hM.1 hKa hkd
  refine va_WaastN (C := C) B.1 B.2.1 ha ((B.2.2.2.2.2.2.1.1.2 ti _ ht).1 _ (fun j => va_rf (sx_R σ a j))) (fun h => by cases h) (by show ¬ (i < 0 ∨ (arrV _ _ _).slots.size ≤ _); rw [arrV_size]; exact hin) rfl rfl hd fun H1 e z oq => ?_
  refine kk H1 _ ls (zm_put (j := i.toNatClampNeg) hM (by rw [hKa]; omega) (xF_stR (i := j) (x := none) hKa hkd) (fun _ => rfl) rfl ?_ z oq) hl
  show H1[a]? = some (vp_cell _ _)
  rw [e]
  rw [vp_cell_q, vp_cell_q, arrV_store]
  congr 2
  funext q
  rw [hj]
  by_cases hq : q = j
  · subst hq
    simp [updV, va_up, va_rf]
  · simp [updV, va_up, hq]
theorem z_qast (B : zx_B p s m args meth c cc own nL g) {a j kd ti ci v N : Nat} {i : Int32} {C : String} {T : u_T} {ty0 : Nat → FieldType} (hC : cx_ok ci C T N ty0) (hKv : sx_K σ v = ci + 1) (hKa : sx_K σ a = kd) (hkd : kd = 15 ∨ kd = 16 ∨ kd = 17) (ht : (gx_t g)[ti]? = some (gx_A g kd, .object C)) (hj : i.toNatClampNeg = j) (hin : vp_in i (sx_N σ a)) (hσ : wx_R σ a j (some v) = σ') (hd : decode cc pc = .ok (.aastore, 1)) (kk : zx p l e R s m args below meth c g nL cells slots Q σ' (pc + 1) lv st) : zx p l e R s m args below meth c g nL cells slots Q σ pc lv (.ref v :: .int i :: .ref a :: st) := by
  intro H locs ls hM hl
  subst hσ
  have ha := zh_q hM.1 hKa hkd
  have hlt : i.toNatClampNeg < sx_N σ a := Nat.not_le.mp fun q => hin (Or.inr q)
  have h0 : ¬ i < 0 := fun q => hin (Or.inl q)
  obtain ⟨r', hr', cellV, g1, g2, g3, -⟩ := zh_o hM.1 hKv hC.2.2.2.2.1
  have hK9 := B.2.2.2.2.2.2.1.1
  have hcls := (hK9.1 ci _ hC.1).2
  obtain ⟨kA, comp, k1, k2, k3, -⟩ := (hK9.2 ti _ ht).2
  have hcomp : comp = (gx_D g).1 ci := Option.some.inj (k3.symm.trans hcls.1)
  subst hcomp
  obtain ⟨kC, hkC, -⟩ := hcls.2
  refine W.aast B.1 B.2.1 ha (fun q h => by cases h) (fun h => by cases h) k1 k2 rfl hkC ⟨h0, by show _ < (arrV _ _ _).slots.size; rw [arrV_size]; exact hlt⟩ g1 (fun q h => by rw [g3] at h; cases h) (by rw [g2]; exact hkC) (by rw [g2]; exact va_assign hcls) rfl rfl hd fun H1 e z oq => ?_
  refine kk H1 _ ls (zm_put (j := i.toNatClampNeg) hM (by rw [hKa]; omega) (xF_stR (i := j) (x := some v) hKa hkd) (fun _ => rfl) rfl ?_ z oq) hl
  show H1[a]? = some (vp_cell _ _)
  rw [e]
  rw [vp_cell_q, vp_cell_q, arrV_store]
  congr 2
  funext q
  rw [hj]
  by_cases hq : q = j
  · subst hq
    simp [updV, va_up, va_rf]
  · simp [updV, va_up, hq]
/-- new cells -/
theorem z_new (B : zx_B p s m args meth c cc own nL g) {ci N index : Nat} {C : String} {T : u_T} {ty0 : Nat → FieldType} (hC : cx_ok ci C T N ty0) (hw : Cond.classLink own index C ∈ lw_g) (hfs : ∀ j, j < N → defaultValue (ty0 j) = vp_V (sx_f (wx_N σ (ci + 1) 0) (sx_Z σ) (sx_s ci) 0) j) (hcells : cells + 1 ≤ R.cells) (hslots : slots + N ≤ R.slots) (hd : decode cc pc = .ok (.new index, 3)) (kk : zx p l e R s m args below meth c g nL (cells + 1) (slots + N) Q (wx_N σ (ci + 1) 0) (pc + 3) lv (.ref (sx_Z σ) :: st)) : zx p l e R s m args below meth c g nL cells slots Q σ pc lv st := by
  intro H locs ls hM hl
  obtain ⟨hx, hb, -, hown, hts, -, hkk, hbs⟩ := B
  have hKn := hkk.1.1 ci _ hC.1
  refine W.newcK hx hb hown (hts _ hw) (hts _ hC.2.2.2.2.2.2.1) (hts _ hC.2.2.2.2.2.2.2) rfl hd hcells hslots hKn.2.1 hM.1.1 fun H1 kC hkC e1 z1 o1 => ?_
  exact kk H1 locs ls (zm_new hM hbs (by omega) (xF_newO hC.2.2.2.2.1) ⟨_, hC.1, (u_born ty0 hts hC.2.1 hKn hkC e1 hC.2.2.1).to hfs⟩ z1 o1) hl
theorem z_newa (B : zx_B p s m args meth c cc own nL g) {kd ti n : Nat} {atype : ArrayType} {ty : FieldType} {v : Int32} (hty : newarray.typeOf atype = ty) (hw : Cond.arrayClass ty ∈ lw_g) (ht : (gx_t g)[ti]? = some (gx_A g kd, ty)) (hkd : 12 ≤ kd) (hra : ∀ cA, s.vm.findClass ("[" ++ ty.toString) = some cA → gx_A g kd = cA) (hcell : sx_F (gx_A g) (wx_N σ kd n) (sx_Z σ) = .inl (gx_A g kd, n, (sx_F (gx_A g) (wx_N σ kd n) (sx_Z σ)).elim (fun q => q.2.2) (fun _ => .inl (fun _ => 0)))) (hdef : ∀ cA : ClassId, vp_cell cA (n, (sx_F (gx_A g) (wx_N σ kd n) (sx_Z σ)).elim (fun q => q.2.2) (fun _ => .inl (fun _ => 0))) = arrV cA n (fun _ => defaultValue ty)) (hn : ¬ v < 0) (hN : v.toNatClampNeg = n) (hbytes : n * componentBytes ty ≤ 536870912) (hcells : cells + 1 ≤ R.cells) (hslots : slots + n ≤ R.slots) (hd : decode cc pc = .ok (.newarray atype, 2)) (kk : zx p l e R s m args below meth c g nL (cells + 1) (slots + n) Q (wx_N σ kd n) (pc + 2) lv (.ref (sx_Z σ) :: st)) : zx p l e R s m args below meth c g nL cells slots Q σ pc lv (.int v :: st) := by
  intro H locs ls hM hl
  obtain ⟨hx, hb, -, hown, hts, -, hkk, hbs⟩ := B
  subst hty
  refine va_newaK hx hb (hts _ hw) rfl hd rfl hn hN hbytes hcells hslots hM.1.1 fun H1 cA e1 z1 o1 hAr hNm => ?_
  have hA : gx_A g kd = cA := hra cA hNm
  refine kk H1 locs ls (zm_new hM hbs (by omega) (xF_newA (kd := kd) (n := n)) ?_ z1 o1) hl
  rw [hcell]
  show H1[sx_Z σ]? = some (vp_cell _ _)
  rw [hdef, hA]
  exact e1
theorem z_newq (B : zx_B p s m args meth c cc own nL g) {kd ti n index : Nat} {C : String} {v : Int32} (hw : Cond.classLink own index C ∈ lw_g) (ho : Cond.arrayOver (.object C) ∈ lw_n) (ht : (gx_t g)[ti]? = some (gx_A g kd, .object C)) (hkd : kd = 15 ∨ kd = 16 ∨ kd = 17) (hn : ¬ v < 0) (hN : v.toNatClampNeg = n) (hbytes : n * 4 ≤ 536870912) (hcells : cells + 1 ≤ R.cells) (hslots : slots + n ≤ R.slots) (hd : decode cc pc = .ok (.anewarray index, 3)) (kk : zx p l e R s m args below meth c g nL (cells + 1) (slots + n) Q (wx_N σ kd n) (pc + 3) lv (.ref (sx_Z σ) :: st)) : zx p l e R s m args below meth c g nL cells slots Q σ pc lv (.int v :: st) := by
  intro H locs ls hM hl
  obtain ⟨hx, hb, -, hown, hts, -, hkk, hbs⟩ := B
  subst hN
  refine W.anew hx hb hown (hts _ hw) (va_AO.use (va_AO.of (hkk.2.1 _ ho))) rfl hd rfl hn hbytes hcells hslots fun cA kA comp f1 f2 f3 f4 => ?_
  have hA : gx_A g kd = cA := by
    obtain ⟨_, _, -, -, -, h9⟩ := (hkk.1.2 ti _ ht).2
    exact Option.some.inj (h9.symm.trans f1)
  have hH := hM.1.1
  rw [show (H.size : Nat) = sx_Z σ from hH]
  generalize hH1 : H.push ({ cls := cA, slots := Array.replicate v.toNatClampNeg .null, vm := .none } : Cell) = H1
  have z1 : H1.size = sx_Z σ + 1 := by rw [← hH1, Array.size_push, hH]
  have e1 : H1[sx_Z σ]? = some (arrV cA v.toNatClampNeg (fun _ => .null)) := by rw [← hH1, ← hH, Array.getElem?_push_size, ← arrV_new]
  have o1 : ∀ q : Nat, q < sx_Z σ → H1[q]? = H[q]? := fun q hq => by rw [← hH1, Array.getElem?_push, if_neg (by omega)]
  refine kk H1 locs ls (zm_new hM hbs (by omega) (xF_newA (kd := kd) (n := v.toNatClampNeg)) ?_ z1 o1) hl
  rw [xF_q (kd := kd) (by simp [wx_N, sx_K]) hkd]
  show H1[sx_Z σ]? = some (vp_cell _ _)
  rw [vp_cell_q, hA]
  rw [e1]
  simp [wx_N, sx_N, sx_R, va_rf]
theorem z_iret (B : zx_B p s m args meth c cc own nL g) {mc ms : Nat} {post : Int32 → sx_T → Prop} {v : Int32} (hr : meth.sig.returnType = some .int) (hc : cells ≤ mc) (hs : slots ≤ ms) (hd : decode cc pc = .ok (.ireturn, 1)) (hp : post v σ) : zx p l e R s m args below meth c g nL cells slots (MQ below (va_Qi post (zx_w g) (gx_Q g)) args s mc ms (gx_Q g)) σ pc lv [.int v] := fun H locs ls hM hl => W.widen hc hs (W.iret (v := v) B.1 B.2.1 hr (fun t ht hW => ⟨⟨v, σ, rfl, hp, ⟨zk_warm hW B.2.2.2.2.2.2.1, by rw [ht]; exact hM.1⟩⟩, hM.2.F ht⟩) hM.2.2.2 hd (hlocks := B.2.2.2.2.2.1))
theorem z_lret (B : zx_B p s m args meth c cc own nL g) {mc ms : Nat} {post : Int64 → sx_T → Prop} {v : Int64} (hr : meth.sig.returnType = some .long) (hc : cells ≤ mc) (hs : slots ≤ ms) (hd : decode cc pc = .ok (.lreturn, 1)) (hp : post v σ) : zx p l e R s m args below meth c g nL cells slots (MQ below (va_Ql post (zx_w g) (gx_Q g)) args s mc ms (gx_Q g)) σ pc lv [.long v] := fun H locs ls hM hl => W.widen hc hs (W.lret (v := v) B.1 B.2.1 hr (fun t ht hW => ⟨⟨v, σ, rfl, hp, ⟨zk_warm hW B.2.2.2.2.2.2.1, by rw [ht]; exact hM.1⟩⟩, hM.2.F ht⟩) hM.2.2.2 hd (hlocks := B.2.2.2.2.2.1))
theorem z_zret (B : zx_B p s m args meth c cc own nL g) {mc ms : Nat} {post : Int32 → sx_T → Prop} {v : Int32} (hr : meth.sig.returnType = some .boolean) (hv : v = 0 ∨ v = 1) (hc : cells ≤ mc) (hs : slots ≤ ms) (hd : decode cc pc = .ok (.ireturn, 1)) (hp : post v σ) : zx p l e R s m args below meth c g nL cells slots (MQ below (va_Qi post (zx_w g) (gx_Q g)) args s mc ms (gx_Q g)) σ pc lv [.int v] := fun H locs ls hM hl => W.widen hc hs (W.zret (v := v) B.1 B.2.1 hr (by rcases hv with rfl | rfl <;> rfl) (fun t ht hW => ⟨⟨v, σ, rfl, hp, ⟨zk_warm hW B.2.2.2.2.2.2.1, by rw [ht]; exact hM.1⟩⟩, hM.2.F ht⟩) hM.2.2.2 hd (hlocks := B.2.2.2.2.2.1))
theorem z_vret (B : zx_B p s m args meth c cc own nL g) {mc ms : Nat} {post : sx_T → Prop} (hr : meth.sig.returnType = none) (hc : cells ≤ mc) (hs : slots ≤ ms) (hd : decode cc pc = .ok (.return_, 1)) (hp : post σ) : zx p l e R s m args below meth c g nL cells slots (MQ below (va_Qv post (zx_w g) (gx_Q g)) args s mc ms (gx_Q g)) σ pc lv [] := fun H locs ls hM hl => W.widen hc hs (W.vret B.1 B.2.1 hr (fun t ht hW => ⟨⟨σ, rfl, hp, ⟨zk_warm hW B.2.2.2.2.2.2.1, by rw [ht]; exact hM.1⟩⟩, hM.2.F ht⟩) hM.2.2.2 hd (hlocks := B.2.2.2.2.2.1))
theorem z_qret (B : zx_B p s m args meth c cc own nL g) {mc ms : Nat} {post : Option Nat → sx_T → Prop} {r : Option Nat} {C : String} (hr : meth.sig.returnType = some (.object C)) (hc : cells ≤ mc) (hs : slots ≤ ms) (hd : decode cc pc = .ok (.areturn, 1)) (hp : post r σ) : zx p l e R s m args below meth c g nL cells slots (MQ below (va_Qq post (zx_w g) (gx_Q g)) args s mc ms (gx_Q g)) σ pc lv [va_rf r] := fun H locs ls hM hl => W.widen hc hs (W.aret (v := va_rf r) B.1 B.2.1 hr (Or.inl ⟨C, rfl⟩) (va_rf_or r) (fun t ht hW => ⟨⟨r, σ, rfl, hp, ⟨zk_warm hW B.2.2.2.2.2.2.1, by rw [ht]; exact hM.1⟩⟩, hM.2.F ht⟩) hM.2.2.2 hd (hlocks := B.2.2.2.2.2.1))
theorem z_met {y : MethodName} {cc : ByteArray} {maxL fr lo mc ms : Nat} {ret : Option FieldType} {l : Launch} {As : List Value} {g : gx_T} {σ : sx_T} {Qc : Array Value → State → Outcome → State → Prop} (hy : plainName y.cls = true) (hlen : (lg_sl As).length ≤ maxL)
    (body : ∀ (p : Program) (e : Env) (s : State) (m : MethodId) (below : List Frame) (meth : Method) (c : Code), zx_B p s m As.toArray meth c cc y.cls maxL g → meth.sig.returnType = ret → meth.name = y.name → zx p l e { frames := fr, cells := mc, slots := ms, locals := lo } s m As.toArray below meth c g maxL 0 0 (MQ below Qc As.toArray s mc ms (gx_Q g)) σ 0 (lv_args 0 As) []) :
    Met l y (.code y cc maxL ret :: lw_g) { frames := fr, cells := mc, slots := ms, locals := lo } (va_Pc As (zx_w g σ)) Qc mc ms (gx_Q g) := by
  refine Met.ofW (cc := cc) (maxL := maxL) (ret := ret) hy rfl ?_
  intro p e s m args below meth c s₁ B hml hv
  obtain ⟨rfl, hk, hh⟩ := hv
  have hts := atoms_spec (ws := .code y cc maxL ret :: lw_g) B.pre
  rw [lg_entry_eq]
  exact body p e s m below meth c ⟨B.exec, B.bytes, hml, findClass_of_methodNamed B.named, fun w hw => hts w (List.mem_cons_of_mem _ hw), B.notSynchronized, hk, hh.2.1⟩ B.returns (name_of_methodNamed B.named B.method).1 s.heap [] _ ⟨hh, va_S.rf⟩ (lv_entry As hlen)
theorem gi_of {ws : List Cond} (h : ∀ w ∈ ws, w ∈ lw_g) : GoodIn lw_g ws := fun w hw => ⟨h w hw, good_of_word (List.mem_filter.mp (h w hw)).2⟩
theorem zw_blind {g : gx_T} {σ : sx_T} {As : List Value} : FrameBlind (va_Pc As (zx_w g σ)) := fun a U j mk q => ⟨q.1, zk_warm (s := U) (U := U.calling j mk a) (State.WarmedH.refl U) q.2.1, q.2.2⟩
/-- the words of a call -/
def wx_V (own : String) (index : Nat) (C : String) (y : MethodName) (bytes : ByteArray) (maxL : Nat) (ret : Option FieldType) (n : Nat) : Prop := (Cond.methodLink own index y ∈ lw_g ∧ Cond.instanceMethod y ∈ lw_g ∧ Cond.selects C y y ∈ lw_g ∧ Cond.initialized C ∈ lw_g ∧ Cond.code y bytes maxL ret ∈ lw_g) ∧ (y.cls = C ∧ y.cls ≠ "java/lang/invoke/MethodHandle" ∧ y.cls ≠ "java/lang/invoke/VarHandle" ∧ (parseMethodDescriptor y.desc).map (fun d => d.parameters.length) = some n)
def wx_S (own : String) (index : Nat) (y : MethodName) (bytes : ByteArray) (maxL : Nat) (ret : Option FieldType) (n : Nat) : Prop := (Cond.methodLink own index y ∈ lw_g ∧ Cond.static y ∈ lw_g ∧ Cond.initialized y.cls ∈ lw_g ∧ Cond.code y bytes maxL ret ∈ lw_g) ∧ (y.cls ≠ "java/lang/invoke/MethodHandle" ∧ y.cls ≠ "java/lang/invoke/VarHandle" ∧ (parseMethodDescriptor y.desc).map (fun d => d.parameters.length) = some n)
def wx_C (own : String) (index : Nat) (y : MethodName) (bytes : ByteArray) (maxL : Nat) (n : Nat) : Prop := (Cond.methodLink own index y ∈ lw_g ∧ Cond.instanceMethod y ∈ lw_g ∧ Cond.initialized y.cls ∈ lw_g ∧ Cond.code y bytes maxL none ∈ lw_g) ∧ (y.cls ≠ "java/lang/invoke/MethodHandle" ∧ y.cls ≠ "java/lang/invoke/VarHandle" ∧ (parseMethodDescriptor y.desc).map (fun d => d.parameters.length) = some n) ∧ y.name = "<init>"
def wx_D (own : String) (index : Nat) (y : MethodName) (host : String) (bytes : ByteArray) (maxL : Nat) (n : Nat) : Prop := (Cond.methodLinkNest own index y host ∈ lw_n ∧ Cond.instanceMethod y ∈ lw_g ∧ Cond.initialized y.cls ∈ lw_g ∧ Cond.code y bytes maxL none ∈ lw_g) ∧ (y.cls ≠ "java/lang/invoke/MethodHandle" ∧ y.cls ≠ "java/lang/invoke/VarHandle" ∧ (parseMethodDescriptor y.desc).map (fun d => d.parameters.length) = some n) ∧ y.name = "<init>"
theorem gv_in {own C : String} {index maxL n : Nat} {y : MethodName} {bytes : ByteArray} {ret : Option FieldType} (h : wx_V own index C y bytes maxL ret n) : GoodIn lw_g (wsV own index C y (.code y bytes maxL ret :: lw_g)) := gi_of (by
  intro w hw
  obtain ⟨⟨h1, h2, h3, h4, h5⟩, -⟩ := h
  simp only [wsV, List.cons_append, List.nil_append, List.mem_cons] at hw
  rcases hw with rfl | rfl | rfl | rfl | rfl | hw
  · exact h1
  · exact h2
  · exact h3
  · exact h4
  · exact h5
  · exact hw)
theorem gc_in {y : MethodName} {bytes : ByteArray} {maxL : Nat} {ret : Option FieldType} (h : Cond.code y bytes maxL ret ∈ lw_g) : GoodIn lw_g (.code y bytes maxL ret :: lw_g) := gi_of (fun w hw => (List.mem_cons.mp hw).elim (fun e => by rw [e]; exact h) id)
theorem zp_v {g : gx_T} {s : State} {σ : sx_T} {H : Heap} {locs : List Loc} {a ci N : Nat} {C : String} {T : u_T} {ty0 : Nat → FieldType} {As : List Value} (hk : zx_k g s) (hM : zx_m g s σ H locs) (hC : cx_ok ci C T N ty0) (hKa : sx_K σ a = ci + 1) : PreV s H C a (va_Pc (.ref a :: As) (zx_w g σ)) As :=
  ⟨zw_blind, va_recv hk.1 (zp_1 (zh_o hM.1 hKa hC.2.2.2.2.1)) (q0 := 0) hC.1 rfl, fun U hU hW => ⟨rfl, zk_warm hW hk, by rw [hU]; exact hM.1⟩⟩
theorem zp_s {g : gx_T} {s : State} {σ : sx_T} {H : Heap} {locs : List Loc} {As : List Value} (hk : zx_k g s) (hM : zx_m g s σ H locs) : PreS s H (va_Pc As (zx_w g σ)) As := ⟨zw_blind, fun U hU hW => ⟨rfl, zk_warm hW hk, by rw [hU]; exact hM.1⟩⟩
theorem z_cVi (B : zx_B p s m args meth c cc own nL g) {ci N index maxL n fr lo mc ms a : Nat} {C : String} {T : u_T} {ty0 : Nat → FieldType} {y : MethodName} {bytes : ByteArray} {ret : Option FieldType} {As rest : List Value} {post : Int32 → sx_T → Prop} (hw : wx_V own index C y bytes maxL ret n) (hC : cx_ok ci C T N ty0) (hd : decode cc pc = .ok (.invokevirtual index, 3)) (hmet : Met l y (.code y bytes maxL ret :: lw_g) { frames := fr, cells := mc, slots := ms, locals := lo } (va_Pc (.ref a :: As) (zx_w g σ)) (va_Qi post (zx_w g) (gx_Q g)) mc ms (gx_Q g)) (hKa : sx_K σ a = ci + 1) (hn : As.length = n) (hR : fr + 1 ≤ R.frames ∧ 8 + (maxL + 11) + lo ≤ R.locals) (hst : st = As.reverse ++ .ref a :: rest) (hrm : (rest.map fun v => v.category).sum ≤ 8) (hf : cells + mc ≤ R.cells ∧ slots + ms ≤ R.slots) (kk : ∀ (r : Int32) (u : sx_T), post r u → zx p l e R s m args below meth c g nL (cells + mc) (slots + ms) Q u (pc + 3) lv (.int r :: rest)) : zx p l e R s m args below meth c g nL cells slots Q σ pc lv st := by
  subst hst
  intro H locs ls hM hl
  exact va_calli (va_runV (rest := rest) (As := As) ⟨B.1, B.2.1, B.2.2.1, B.2.2.2.1, B.2.2.2.2.1⟩ hmet (cwV n B.2.2.2.2.1 (gv_in hw) rfl rfl rfl hw.2 hR) (zp_v B.2.2.2.2.2.2.1 hM hC hKa) rfl hn hl.1 rfl (lv_room hrm) hd hf) hM.2 (fun q _ h => h) (fun q h => h) (fun r u t H1 locs1 ht hvm hp hB hz hk hS => kk r u hp H1 locs1 ls ⟨ht ▸ hB.2, hS⟩ hl)
theorem z_cSi (B : zx_B p s m args meth c cc own nL g) {index maxL n fr lo mc ms : Nat} {y : MethodName} {bytes : ByteArray} {ret : Option FieldType} {As rest : List Value} {post : Int32 → sx_T → Prop} (hw : wx_S own index y bytes maxL ret n) (hd : decode cc pc = .ok (.invokestatic index, 3)) (hmet : Met l y (.code y bytes maxL ret :: lw_g) { frames := fr, cells := mc, slots := ms, locals := lo } (va_Pc As (zx_w g σ)) (va_Qi post (zx_w g) (gx_Q g)) mc ms (gx_Q g)) (hn : As.length = n) (hR : fr + 1 ≤ R.frames ∧ 8 + (maxL + 11) + lo ≤ R.locals) (hst : st = As.reverse ++ rest) (hrm : (rest.map fun v => v.category).sum ≤ 8) (hf : cells + mc ≤ R.cells ∧ slots + ms ≤ R.slots) (kk : ∀ (r : Int32) (u : sx_T), post r u → zx p l e R s m args below meth c g nL (cells + mc) (slots + ms) Q u (pc + 3) lv (.int r :: rest)) : zx p l e R s m args below meth c g nL cells slots Q σ pc lv st := by
  subst hst
  intro H locs ls hM hl
  exact va_calli (va_runS (rest := rest) (As := As) ⟨B.1, B.2.1, B.2.2.1, B.2.2.2.1, B.2.2.2.2.1⟩ hmet ⟨callB_of n B.2.2.2.2.1 (gc_in hw.1.2.2.2) rfl rfl rfl (B.2.2.2.2.1 _ hw.1.2.2.1) (B.2.2.2.2.1 _ hw.1.1) hw.2 hR, B.2.2.2.2.1 _ hw.1.2.1⟩ (zp_s B.2.2.2.2.2.2.1 hM) rfl hn hl.1 rfl (lv_room hrm) hd hf) hM.2 (fun q _ h => h) (fun q h => h) (fun r u t H1 locs1 ht hvm hp hB hz hk hS => kk r u hp H1 locs1 ls ⟨ht ▸ hB.2, hS⟩ hl)
theorem z_cVl (B : zx_B p s m args meth c cc own nL g) {ci N index maxL n fr lo mc ms a : Nat} {C : String} {T : u_T} {ty0 : Nat → FieldType} {y : MethodName} {bytes : ByteArray} {ret : Option FieldType} {As rest : List Value} {post : Int64 → sx_T → Prop} (hw : wx_V own index C y bytes maxL ret n) (hC : cx_ok ci C T N ty0) (hd : decode cc pc = .ok (.invokevirtual index, 3)) (hmet : Met l y (.code y bytes maxL ret :: lw_g) { frames := fr, cells := mc, slots := ms, locals := lo } (va_Pc (.ref a :: As) (zx_w g σ)) (va_Ql post (zx_w g) (gx_Q g)) mc ms (gx_Q g)) (hKa : sx_K σ a = ci + 1) (hn : As.length = n) (hR : fr + 1 ≤ R.frames ∧ 8 + (maxL + 11) + lo ≤ R.locals) (hst : st = As.reverse ++ .ref a :: rest) (hrm : (rest.map fun v => v.category).sum ≤ 8) (hf : cells + mc ≤ R.cells ∧ slots + ms ≤ R.slots) (kk : ∀ (r : Int64) (u : sx_T), post r u → zx p l e R s m args below meth c g nL (cells + mc) (slots + ms) Q u (pc + 3) lv (.long r :: rest)) : zx p l e R s m args below meth c g nL cells slots Q σ pc lv st := by
  subst hst
  intro H locs ls hM hl
  exact va_calll (va_runV (rest := rest) (As := As) ⟨B.1, B.2.1, B.2.2.1, B.2.2.2.1, B.2.2.2.2.1⟩ hmet (cwV n B.2.2.2.2.1 (gv_in hw) rfl rfl rfl hw.2 hR) (zp_v B.2.2.2.2.2.2.1 hM hC hKa) rfl hn hl.1 rfl (lv_room hrm) hd hf) hM.2 (fun q _ h => h) (fun q h => h) (fun r u t H1 locs1 ht hvm hp hB hz hk hS => kk r u hp H1 locs1 ls ⟨ht ▸ hB.2, hS⟩ hl)
theorem z_cSl (B : zx_B p s m args meth c cc own nL g) {index maxL n fr lo mc ms : Nat} {y : MethodName} {bytes : ByteArray} {ret : Option FieldType} {As rest : List Value} {post : Int64 → sx_T → Prop} (hw : wx_S own index y bytes maxL ret n) (hd : decode cc pc = .ok (.invokestatic index, 3)) (hmet : Met l y (.code y bytes maxL ret :: lw_g) { frames := fr, cells := mc, slots := ms, locals := lo } (va_Pc As (zx_w g σ)) (va_Ql post (zx_w g) (gx_Q g)) mc ms (gx_Q g)) (hn : As.length = n) (hR : fr + 1 ≤ R.frames ∧ 8 + (maxL + 11) + lo ≤ R.locals) (hst : st = As.reverse ++ rest) (hrm : (rest.map fun v => v.category).sum ≤ 8) (hf : cells + mc ≤ R.cells ∧ slots + ms ≤ R.slots) (kk : ∀ (r : Int64) (u : sx_T), post r u → zx p l e R s m args below meth c g nL (cells + mc) (slots + ms) Q u (pc + 3) lv (.long r :: rest)) : zx p l e R s m args below meth c g nL cells slots Q σ pc lv st := by
  subst hst
  intro H locs ls hM hl
  exact va_calll (va_runS (rest := rest) (As := As) ⟨B.1, B.2.1, B.2.2.1, B.2.2.2.1, B.2.2.2.2.1⟩ hmet ⟨callB_of n B.2.2.2.2.1 (gc_in hw.1.2.2.2) rfl rfl rfl (B.2.2.2.2.1 _ hw.1.2.2.1) (B.2.2.2.2.1 _ hw.1.1) hw.2 hR, B.2.2.2.2.1 _ hw.1.2.1⟩ (zp_s B.2.2.2.2.2.2.1 hM) rfl hn hl.1 rfl (lv_room hrm) hd hf) hM.2 (fun q _ h => h) (fun q h => h) (fun r u t H1 locs1 ht hvm hp hB hz hk hS => kk r u hp H1 locs1 ls ⟨ht ▸ hB.2, hS⟩ hl)
theorem z_cVq (B : zx_B p s m args meth c cc own nL g) {ci N index maxL n fr lo mc ms a : Nat} {C : String} {T : u_T} {ty0 : Nat → FieldType} {y : MethodName} {bytes : ByteArray} {ret : Option FieldType} {As rest : List Value} {post : Option Nat → sx_T → Prop} (hw : wx_V own index C y bytes maxL ret n) (hC : cx_ok ci C T N ty0) (hd : decode cc pc = .ok (.invokevirtual index, 3)) (hmet : Met l y (.code y bytes maxL ret :: lw_g) { frames := fr, cells := mc, slots := ms, locals := lo } (va_Pc (.ref a :: As) (zx_w g σ)) (va_Qq post (zx_w g) (gx_Q g)) mc ms (gx_Q g)) (hKa : sx_K σ a = ci + 1) (hn : As.length = n) (hR : fr + 1 ≤ R.frames ∧ 8 + (maxL + 11) + lo ≤ R.locals) (hst : st = As.reverse ++ .ref a :: rest) (hrm : (rest.map fun v => v.category).sum ≤ 8) (hf : cells + mc ≤ R.cells ∧ slots + ms ≤ R.slots) (kk : ∀ (r : Option Nat) (u : sx_T), post r u → zx p l e R s m args below meth c g nL (cells + mc) (slots + ms) Q u (pc + 3) lv (va_rf r :: rest)) : zx p l e R s m args below meth c g nL cells slots Q σ pc lv st := by
  subst hst
  intro H locs ls hM hl
  exact va_callq (va_runV (rest := rest) (As := As) ⟨B.1, B.2.1, B.2.2.1, B.2.2.2.1, B.2.2.2.2.1⟩ hmet (cwV n B.2.2.2.2.1 (gv_in hw) rfl rfl rfl hw.2 hR) (zp_v B.2.2.2.2.2.2.1 hM hC hKa) rfl hn hl.1 rfl (lv_room hrm) hd hf) hM.2 (fun q _ h => h) (fun q h => h) (fun r u t H1 locs1 ht hvm hp hB hz hk hS => kk r u hp H1 locs1 ls ⟨ht ▸ hB.2, hS⟩ hl)
theorem z_cSq (B : zx_B p s m args meth c cc own nL g) {index maxL n fr lo mc ms : Nat} {y : MethodName} {bytes : ByteArray} {ret : Option FieldType} {As rest : List Value} {post : Option Nat → sx_T → Prop} (hw : wx_S own index y bytes maxL ret n) (hd : decode cc pc = .ok (.invokestatic index, 3)) (hmet : Met l y (.code y bytes maxL ret :: lw_g) { frames := fr, cells := mc, slots := ms, locals := lo } (va_Pc As (zx_w g σ)) (va_Qq post (zx_w g) (gx_Q g)) mc ms (gx_Q g)) (hn : As.length = n) (hR : fr + 1 ≤ R.frames ∧ 8 + (maxL + 11) + lo ≤ R.locals) (hst : st = As.reverse ++ rest) (hrm : (rest.map fun v => v.category).sum ≤ 8) (hf : cells + mc ≤ R.cells ∧ slots + ms ≤ R.slots) (kk : ∀ (r : Option Nat) (u : sx_T), post r u → zx p l e R s m args below meth c g nL (cells + mc) (slots + ms) Q u (pc + 3) lv (va_rf r :: rest)) : zx p l e R s m args below meth c g nL cells slots Q σ pc lv st := by
  subst hst
  intro H locs ls hM hl
  exact va_callq (va_runS (rest := rest) (As := As) ⟨B.1, B.2.1, B.2.2.1, B.2.2.2.1, B.2.2.2.2.1⟩ hmet ⟨callB_of n B.2.2.2.2.1 (gc_in hw.1.2.2.2) rfl rfl rfl (B.2.2.2.2.1 _ hw.1.2.2.1) (B.2.2.2.2.1 _ hw.1.1) hw.2 hR, B.2.2.2.2.1 _ hw.1.2.1⟩ (zp_s B.2.2.2.2.2.2.1 hM) rfl hn hl.1 rfl (lv_room hrm) hd hf) hM.2 (fun q _ h => h) (fun q h => h) (fun r u t H1 locs1 ht hvm hp hB hz hk hS => kk r u hp H1 locs1 ls ⟨ht ▸ hB.2, hS⟩ hl)
theorem z_cVv (B : zx_B p s m args meth c cc own nL g) {ci N index maxL n fr lo mc ms a : Nat} {C : String} {T : u_T} {ty0 : Nat → FieldType} {y : MethodName} {bytes : ByteArray} {ret : Option FieldType} {As rest : List Value} {post : sx_T → Prop} (hw : wx_V own index C y bytes maxL ret n) (hC : cx_ok ci C T N ty0) (hd : decode cc pc = .ok (.invokevirtual index, 3)) (hmet : Met l y (.code y bytes maxL ret :: lw_g) { frames := fr, cells := mc, slots := ms, locals := lo } (va_Pc (.ref a :: As) (zx_w g σ)) (va_Qv post (zx_w g) (gx_Q g)) mc ms (gx_Q g)) (hKa : sx_K σ a = ci + 1) (hn : As.length = n) (hR : fr + 1 ≤ R.frames ∧ 8 + (maxL + 11) + lo ≤ R.locals) (hst : st = As.reverse ++ .ref a :: rest) (hrm : (rest.map fun v => v.category).sum ≤ 8) (hf : cells + mc ≤ R.cells ∧ slots + ms ≤ R.slots) (kk : ∀ (u : sx_T), post u → zx p l e R s m args below meth c g nL (cells + mc) (slots + ms) Q u (pc + 3) lv (rest)) : zx p l e R s m args below meth c g nL cells slots Q σ pc lv st := by
  subst hst
  intro H locs ls hM hl
  exact va_callv (va_runV (rest := rest) (As := As) ⟨B.1, B.2.1, B.2.2.1, B.2.2.2.1, B.2.2.2.2.1⟩ hmet (cwV n B.2.2.2.2.1 (gv_in hw) rfl rfl rfl hw.2 hR) (zp_v B.2.2.2.2.2.2.1 hM hC hKa) rfl hn hl.1 rfl (lv_room hrm) hd hf) hM.2 (fun q _ h => h) (fun q h => h) (fun u t H1 locs1 ht hvm hp hB hz hk hS => kk u hp H1 locs1 ls ⟨ht ▸ hB.2, hS⟩ hl)
theorem z_cSv (B : zx_B p s m args meth c cc own nL g) {index maxL n fr lo mc ms : Nat} {y : MethodName} {bytes : ByteArray} {ret : Option FieldType} {As rest : List Value} {post : sx_T → Prop} (hw : wx_S own index y bytes maxL ret n) (hd : decode cc pc = .ok (.invokestatic index, 3)) (hmet : Met l y (.code y bytes maxL ret :: lw_g) { frames := fr, cells := mc, slots := ms, locals := lo } (va_Pc As (zx_w g σ)) (va_Qv post (zx_w g) (gx_Q g)) mc ms (gx_Q g)) (hn : As.length = n) (hR : fr + 1 ≤ R.frames ∧ 8 + (maxL + 11) + lo ≤ R.locals) (hst : st = As.reverse ++ rest) (hrm : (rest.map fun v => v.category).sum ≤ 8) (hf : cells + mc ≤ R.cells ∧ slots + ms ≤ R.slots) (kk : ∀ (u : sx_T), post u → zx p l e R s m args below meth c g nL (cells + mc) (slots + ms) Q u (pc + 3) lv (rest)) : zx p l e R s m args below meth c g nL cells slots Q σ pc lv st := by
  subst hst
  intro H locs ls hM hl
  exact va_callv (va_runS (rest := rest) (As := As) ⟨B.1, B.2.1, B.2.2.1, B.2.2.2.1, B.2.2.2.2.1⟩ hmet ⟨callB_of n B.2.2.2.2.1 (gc_in hw.1.2.2.2) rfl rfl rfl (B.2.2.2.2.1 _ hw.1.2.2.1) (B.2.2.2.2.1 _ hw.1.1) hw.2 hR, B.2.2.2.2.1 _ hw.1.2.1⟩ (zp_s B.2.2.2.2.2.2.1 hM) rfl hn hl.1 rfl (lv_room hrm) hd hf) hM.2 (fun q _ h => h) (fun q h => h) (fun u t H1 locs1 ht hvm hp hB hz hk hS => kk u hp H1 locs1 ls ⟨ht ▸ hB.2, hS⟩ hl)
theorem z_cI (B : zx_B p s m args meth c cc own nL g) {index maxL n fr lo mc ms a : Nat} {y : MethodName} {bytes : ByteArray} {As rest : List Value} {post : sx_T → Prop} (hw : wx_C own index y bytes maxL n) (hd : decode cc pc = .ok (.invokespecial index, 3)) (hmet : Met l y (.code y bytes maxL none :: lw_g) { frames := fr, cells := mc, slots := ms, locals := lo } (va_Pc (.ref a :: As) (zx_w g σ)) (va_Qv post (zx_w g) (gx_Q g)) mc ms (gx_Q g)) (hn : As.length = n) (hR : fr + 1 ≤ R.frames ∧ 8 + (maxL + 11) + lo ≤ R.locals) (hst : st = As.reverse ++ .ref a :: rest) (hrm : (rest.map fun v => v.category).sum ≤ 8) (hf : cells + mc ≤ R.cells ∧ slots + ms ≤ R.slots) (kk : ∀ (u : sx_T), post u → zx p l e R s m args below meth c g nL (cells + mc) (slots + ms) Q u (pc + 3) lv rest) : zx p l e R s m args below meth c g nL cells slots Q σ pc lv st := by
  subst hst
  intro H locs ls hM hl
  exact va_callv (va_runI (rest := rest) (As := As) ⟨B.1, B.2.1, B.2.2.1, B.2.2.2.1, B.2.2.2.2.1⟩ hmet ⟨callB_of n B.2.2.2.2.1 (gc_in hw.1.2.2.2) rfl rfl rfl (B.2.2.2.2.1 _ hw.1.2.2.1) (B.2.2.2.2.1 _ hw.1.1) hw.2.1 hR, hw.2.2, B.2.2.2.2.1 _ hw.1.2.1⟩ (zp_s (As := .ref a :: As) B.2.2.2.2.2.2.1 hM) rfl hn hl.1 rfl (lv_room hrm) hd hf) hM.2 (fun q _ h => h) (fun q h => h) (fun u t H1 locs1 ht hvm hp hB hz hk hS => kk u hp H1 locs1 ls ⟨ht ▸ hB.2, hS⟩ hl)
theorem z_cD (B : zx_B p s m args meth c cc own nL g) {index maxL n fr lo mc ms a : Nat} {host : String} {y : MethodName} {bytes : ByteArray} {As rest : List Value} {post : sx_T → Prop} (hw : wx_D own index y host bytes maxL n) (hd : decode cc pc = .ok (.invokespecial index, 3)) (hmet : Met l y (.code y bytes maxL none :: lw_g) { frames := fr, cells := mc, slots := ms, locals := lo } (va_Pc (.ref a :: As) (zx_w g σ)) (va_Qv post (zx_w g) (gx_Q g)) mc ms (gx_Q g)) (hn : As.length = n) (hR : fr + 1 ≤ R.frames ∧ 8 + (maxL + 11) + lo ≤ R.locals) (hst : st = As.reverse ++ .ref a :: rest) (hrm : (rest.map fun v => v.category).sum ≤ 8) (hf : cells + mc ≤ R.cells ∧ slots + ms ≤ R.slots) (kk : ∀ (u : sx_T), post u → zx p l e R s m args below meth c g nL (cells + mc) (slots + ms) Q u (pc + 3) lv rest) : zx p l e R s m args below meth c g nL cells slots Q σ pc lv st := by
  subst hst
  intro H locs ls hM hl
  exact va_callv (va_runIN (rest := rest) (As := As) ⟨B.1, B.2.1, B.2.2.1, B.2.2.2.1, B.2.2.2.2.1⟩ hmet ⟨va_cnB n B.2.2.2.2.1 (gc_in hw.1.2.2.2) rfl rfl rfl (B.2.2.2.2.2.2.1.2.1 _ hw.1.1) (B.2.2.2.2.1 _ hw.1.2.2.1) hw.2.1 hR, hw.2.2, B.2.2.2.2.1 _ hw.1.2.1⟩ (zp_s (As := .ref a :: As) B.2.2.2.2.2.2.1 hM) rfl hn hl.1 rfl (lv_room hrm) hd hf) hM.2 (fun q _ h => h) (fun q h => h) (fun u t H1 locs1 ht hvm hp hB hz hk hS => kk u hp H1 locs1 ls ⟨ht ▸ hB.2, hS⟩ hl)
theorem z_oinit (B : zx_B p s m args meth c cc own nL g) {idx a : Nat} (hw : Cond.methodLink own idx objectInit ∈ lw_g ∧ Cond.instanceMethod objectInit ∈ lw_g ∧ Cond.code objectInit ⟨#[0xb1]⟩ 1 none ∈ lw_g) (hd : decode cc pc = .ok (.invokespecial idx, 3)) (hfr : 1 ≤ R.frames) (hlo : (st.map fun v => v.category).sum + 12 ≤ R.locals) (kk : zx p l e R s m args below meth c g nL cells slots Q σ (pc + 3) lv st) : zx p l e R s m args below meth c g nL cells slots Q σ pc lv (.ref a :: st) := fun H locs ls hM hl => W.objInit B.1 B.2.1 B.2.2.2.1 (B.2.2.2.2.1 _ hw.1) (B.2.2.2.2.1 _ hw.2.1) (B.2.2.2.2.1 _ hw.2.2) rfl (by rw [B.2.2.1]; exact hl.1) rfl hd hfr (by show 2 * 0 + _ + 12 ≤ _; omega) (kk H locs ls hM hl)
end ZROWS
/-- the kind of what a reference field holds (0: none, or anything) -/
def ty_f : Nat → Nat → Nat
  | 2, 1 => 3
  | 2, 2 => 7
  | 2, 3 => 6
  | 2, 7 => 9
  | 3, 0 => 12
  | 3, 1 => 14
  | 4, 0 => 15
  | 5, 0 => 13
  | 6, 1 => 13
  | 6, 2 => 13
  | 6, 3 => 13
  | 7, 0 => 5
  | 7, 1 => 8
  | 7, 2 => 6
  | 7, 3 => 3
  | 8, 0 => 13
  | 9, 1 => 2
  | 10, 0 => 16
  | 10, 1 => 13
  | 10, 2 => 15
  | 10, 3 => 1
  | 10, 4 => 4
  | 10, 5 => 4
  | 10, 6 => 7
  | 11, 3 => 13
  | 11, 4 => 13
  | 11, 5 => 13
  | 11, 7 => 13
  | 11, 8 => 13
  | 11, 9 => 13
  | 11, 10 => 13
  | 11, 11 => 13
  | 11, 12 => 13
  | 11, 13 => 13
  | 11, 14 => 13
  | 11, 15 => 14
  | 11, 17 => 13
  | 11, 18 => 13
  | 11, 19 => 13
  | 11, 20 => 13
  | 11, 21 => 13
  | 11, 22 => 13
  | 11, 25 => 13
  | 11, 33 => 13
  | 11, 40 => 13
  | 11, 41 => 13
  | 11, 42 => 13
  | 11, 44 => 13
  | 11, 46 => 13
  | _, _ => 0
def ty_r (kd k : Nat) : Nat := if kd = 15 then 2 else if kd = 16 then 6 else if kd = 17 then 9 else ty_f kd k
/-- boolean fields -/
def bz : Nat → Nat → Bool
  | 7, 12 => true
  | 7, 13 => true
  | 7, 15 => true
  | 7, 19 => true
  | 11, 26 => true
  | 11, 34 => true
  | 11, 35 => true
  | 11, 47 => true
  | _, _ => false
