/-! a store with some places written, by offsets from b -/
def lk {α : Type} (b : Nat) : List (Nat × Nat × α) → (Nat → Nat → α) → Nat → Nat → α
  | [], f => f
  | (o, j, x) :: t, f => fun a k => if a = b + o ∧ k = j then x else lk b t f a k
def l0 {α : Type} : List (Nat × Nat × α) → α → Nat → Nat → α
  | [], d, _, _ => d
  | (o', j, x) :: t, d, o, k => bif (Nat.beq o o' && Nat.beq k j) then x else l0 t d o k
theorem lk_at {α : Type} (b : Nat) (f : Nat → Nat → α) (o k : Nat) : ∀ l : List (Nat × Nat × α), lk b l f (b + o) k = l0 l (f (b + o) k) o k
  | [] => rfl
  | (o', j, x) :: t => by
    show (if b + o = b + o' ∧ k = j then x else lk b t f (b + o) k) = bif (Nat.beq o o' && Nat.beq k j) then x else l0 t (f (b + o) k) o k
    rw [lk_at b f o k t]
    by_cases h : o = o' ∧ k = j
    · obtain ⟨rfl, rfl⟩ := h
      simp
    · rw [if_neg (fun q => h ⟨by omega, q.2⟩)]
      have : (Nat.beq o o' && Nat.beq k j) = false := by
        rw [Bool.and_eq_false_iff]
        by_cases h1 : o = o'
        · exact Or.inr (by cases hb : Nat.beq k j with
            | false => rfl
            | true => exact absurd ⟨h1, Nat.eq_of_beq_eq_true hb⟩ h)
        · exact Or.inl (by cases hb : Nat.beq o o' with
            | false => rfl
            | true => exact absurd (Nat.eq_of_beq_eq_true hb) h1)
      rw [this]
      rfl
theorem lk_app {α : Type} (b : Nat) (f : Nat → Nat → α) : ∀ l L : List (Nat × Nat × α), lk b l (lk b L f) = lk b (l ++ L) f
  | [], _ => rfl
  | (o, j, x) :: t, L => by
    show (fun a k => if a = b + o ∧ k = j then x else lk b t (lk b L f) a k) = (fun a k => if a = b + o ∧ k = j then x else lk b (t ++ L) f a k)
    rw [lk_app b f t L]
def ap (b : Nat) (σ : sx_T) (li : List (Nat × Nat × Int32)) (lj : List (Nat × Nat × Int64)) (lr : List (Nat × Nat × Option Nat)) : sx_T := (sx_K σ, sx_N σ, lk b li (sx_I σ), lk b lj (sx_J σ), lk b lr (sx_R σ), sx_Z σ, sx_S σ)
theorem ap_ap {b : Nat} {σ : sx_T} {li LI : List (Nat × Nat × Int32)} {lj LJ : List (Nat × Nat × Int64)} {lr LR : List (Nat × Nat × Option Nat)} : ap b (ap b σ LI LJ LR) li lj lr = ap b σ (li ++ LI) (lj ++ LJ) (lr ++ LR) := by
  show (_, _, lk b li (lk b LI (sx_I σ)), lk b lj (lk b LJ (sx_J σ)), lk b lr (lk b LR (sx_R σ)), _) = (_, _, lk b (li ++ LI) (sx_I σ), lk b (lj ++ LJ) (sx_J σ), lk b (lr ++ LR) (sx_R σ), _)
  rw [lk_app, lk_app, lk_app]
  rfl
theorem rI_at (o k : Nat) {b : Nat} {σ : sx_T} {li : List (Nat × Nat × Int32)} {lj : List (Nat × Nat × Int64)} {lr : List (Nat × Nat × Option Nat)} {v : Int32} (h : l0 li (sx_I σ (b + o) k) o k = v) : sx_I (ap b σ li lj lr) (b + o) k = v := (lk_at b (sx_I σ) o k li).trans h
theorem rJ_at (o k : Nat) {b : Nat} {σ : sx_T} {li : List (Nat × Nat × Int32)} {lj : List (Nat × Nat × Int64)} {lr : List (Nat × Nat × Option Nat)} {v : Int64} (h : l0 lj (sx_J σ (b + o) k) o k = v) : sx_J (ap b σ li lj lr) (b + o) k = v := (lk_at b (sx_J σ) o k lj).trans h
theorem rR_at (o k : Nat) {b : Nat} {σ : sx_T} {li : List (Nat × Nat × Int32)} {lj : List (Nat × Nat × Int64)} {lr : List (Nat × Nat × Option Nat)} {v : Option Nat} (h : l0 lr (sx_R σ (b + o) k) o k = v) : sx_R (ap b σ li lj lr) (b + o) k = v := (lk_at b (sx_R σ) o k lr).trans h
/-! where things lie behind both constructors -/
def lay_K (o : Nat) : Nat :=
  bif Nat.ble o 8 then [10, 16, 13, 15, 1, 4, 15, 4, 15].getD o 0
  else bif Nat.ble o 36 then [6, 13, 13, 13].getD ((o - 9) % 4) 0
  else bif Nat.ble o 396 then [3, 12, 14, 2, 7, 5, 13, 8, 13].getD ((o - 37) % 9) 0
  else bif Nat.ble o 404 then [7, 3, 12, 14, 5, 13, 8, 13].getD (o - 397) 0
  else bif Nat.beq o 405 then 11 else bif Nat.beq o 417 then 14 else bif Nat.beq o 431 then 14 else 13
def lay_N (o : Nat) : Nat :=
  bif Nat.ble o 8 then [0, 6, 6, 40, 0, 0, 128, 0, 128].getD o 0
  else bif Nat.ble o 36 then [0, 20, 20, 20].getD ((o - 9) % 4) 0
  else bif Nat.ble o 396 then [0, 140, 140, 0, 0, 0, 20, 0, 90].getD ((o - 37) % 9) 0
  else bif Nat.ble o 404 then [0, 0, 140, 140, 0, 20, 0, 90].getD (o - 397) 0
  else [0, 120, 120, 120, 41, 41, 41, 41, 41, 41, 41, 6560, 6560, 2100, 2100, 2100, 2100, 2100, 2100, 6, 20, 160, 160, 50, 400, 400, 1].getD (o - 405) 0
def lay (b : Nat) (σ : sx_T) : Prop := ∀ o, o < 432 → sx_K σ (b + o) = lay_K o ∧ sx_N σ (b + o) = lay_N o
theorem in_of {σ : sx_T} {a n : Nat} {i : Int32} (hN : sx_N σ a = n) (h : vp_in i n) : vp_in i (sx_N σ a) := by rw [hN]; exact h
/-! numbers between bounds -/
theorem iv_lt {x c : Int32} {hi : Int} (h : x.toInt ≤ hi) (h2 : hi < c.toInt) : x < c := Int32.lt_iff_toInt_lt.mpr (by omega)
theorem iv_nlt {x c : Int32} {lo : Int} (h : lo ≤ x.toInt) (h2 : c.toInt ≤ lo) : ¬ x < c := fun q => by have := Int32.lt_iff_toInt_lt.mp q; omega
theorem iv_gt {x c : Int32} {lo : Int} (h : lo ≤ x.toInt) (h2 : c.toInt < lo) : c < x := Int32.lt_iff_toInt_lt.mpr (by omega)
theorem iv_ngt {x c : Int32} {hi : Int} (h : x.toInt ≤ hi) (h2 : hi ≤ c.toInt) : ¬ c < x := fun q => by have := Int32.lt_iff_toInt_lt.mp q; omega
theorem iv_le {x c : Int32} {hi : Int} (h : x.toInt ≤ hi) (h2 : hi ≤ c.toInt) : x ≤ c := Int32.le_iff_toInt_le.mpr (by omega)
theorem iv_nle {x c : Int32} {lo : Int} (h : lo ≤ x.toInt) (h2 : c.toInt < lo) : ¬ x ≤ c := fun q => by have := Int32.le_iff_toInt_le.mp q; omega
theorem iv_ge {x c : Int32} {lo : Int} (h : lo ≤ x.toInt) (h2 : c.toInt ≤ lo) : c ≤ x := Int32.le_iff_toInt_le.mpr (by omega)
theorem iv_nge {x c : Int32} {hi : Int} (h : x.toInt ≤ hi) (h2 : hi < c.toInt) : ¬ c ≤ x := fun q => by have := Int32.le_iff_toInt_le.mp q; omega
theorem iv_nel {x c : Int32} {hi : Int} (h : x.toInt ≤ hi) (h2 : hi < c.toInt) : ¬ x = c := fun q => by rw [q] at h; omega
theorem iv_neg {x c : Int32} {lo : Int} (h : lo ≤ x.toInt) (h2 : c.toInt < lo) : ¬ x = c := fun q => by rw [q] at h; omega
theorem iv_in {x : Int32} {n : Nat} {lo hi : Int} (h : lo ≤ x.toInt) (h2 : x.toInt ≤ hi) (h3 : 0 ≤ lo) (h4 : hi < n) : vp_in x n := vp_in_iff.mpr ⟨by omega, by omega⟩
theorem iv_inadd {x c : Int32} {n : Nat} {lo hi : Int} (h : lo ≤ x.toInt) (h2 : x.toInt ≤ hi) (h3 : 0 ≤ c.toInt + lo) (h4 : c.toInt + hi < n ∧ (n : Int) < 2147483648) : vp_in (c + x) n := by
  have e : (c + x).toInt = c.toInt + x.toInt := by
    rw [Int32.toInt_add]
    have := Int32.toInt_lt c
    have := Int32.le_toInt c
    rw [Int.bmod_eq_of_le] <;> omega
  exact vp_in_iff.mpr ⟨by rw [e]; omega, by rw [e]; omega⟩
theorem iv_i2l {x : Int32} {lo hi : Int} (h : lo ≤ x.toInt) (h2 : x.toInt ≤ hi) : lo ≤ x.toInt64.toInt ∧ x.toInt64.toInt ≤ hi := by
  rw [Int32.toInt_toInt64]
  exact ⟨h, h2⟩
theorem iv_l2i {x : Int64} {lo hi : Int} (h : lo ≤ x.toInt) (h2 : x.toInt ≤ hi) (h3 : -2147483648 ≤ lo) (h4 : hi < 2147483648) : lo ≤ x.toInt32.toInt ∧ x.toInt32.toInt ≤ hi := by
  have e : x.toInt32.toInt = x.toInt := by
    rw [Int64.toInt_toInt32]
    rw [Int.bmod_eq_of_le] <;> omega
  rw [e]
  exact ⟨h, h2⟩
theorem iv_lmul {c x : Int64} {n : Nat} {lo hi : Int} (hc : c.toInt = n) (h0 : 0 < n) (h : lo ≤ x.toInt) (h2 : x.toInt ≤ hi) (h3 : -1000000000 ≤ lo ∧ n ≤ 100) (h4 : hi ≤ 1000000000) : n * lo ≤ (c * x).toInt ∧ (c * x).toInt ≤ n * hi := by
  have b1 : (n : Int) * lo ≤ n * x.toInt := Int.mul_le_mul_of_nonneg_left h (by omega)
  have b2 : (n : Int) * x.toInt ≤ n * hi := Int.mul_le_mul_of_nonneg_left h2 (by omega)
  have b3 : -100000000000 ≤ (n : Int) * x.toInt := by
    have : (n : Int) * (-1000000000) ≤ n * x.toInt := Int.mul_le_mul_of_nonneg_left (by omega) (by omega)
    omega
  have b4 : (n : Int) * x.toInt ≤ 100000000000 := by
    have : (n : Int) * x.toInt ≤ n * 1000000000 := Int.mul_le_mul_of_nonneg_left (by omega) (by omega)
    omega
  have e : (c * x).toInt = n * x.toInt := by
    rw [Int64.toInt_mul, hc]
    rw [Int.bmod_eq_of_le] <;> omega
  rw [e]
  exact ⟨b1, b2⟩
theorem iv_ladd {x c : Int64} {n : Int} {lo hi : Int} (hc : c.toInt = n) (h : lo ≤ x.toInt) (h2 : x.toInt ≤ hi) (h3 : -1000000000000 ≤ lo + n ∧ -1000000 ≤ n) (h4 : hi + n ≤ 1000000000000 ∧ n ≤ 1000000) : lo + n ≤ (x + c).toInt ∧ (x + c).toInt ≤ hi + n := by
  have e : (x + c).toInt = x.toInt + n := by
    rw [Int64.toInt_add, hc]
    rw [Int.bmod_eq_of_le] <;> omega
  rw [e]
  omega
theorem lgc_self {x : Int64} : lg_cmp x x = 0 := by simp [lg_cmp]
theorem lgc_lt {x c : Int64} {hi : Int} (h : x.toInt ≤ hi) (h2 : hi < c.toInt) : lg_cmp x c = -1 := by
  have h1 : ¬ x > c := fun q => by have := Int64.lt_iff_toInt_lt.mp q; omega
  have h3 : ¬ x = c := fun q => by rw [q] at h; omega
  simp [lg_cmp, h1, h3]
theorem lgc_gt {x c : Int64} {lo : Int} (h : lo ≤ x.toInt) (h2 : c.toInt < lo) : lg_cmp x c = 1 := by
  have h1 : x > c := Int64.lt_iff_toInt_lt.mpr (by omega)
  simp [lg_cmp, h1]
/-! throwing -/
def tw (own cls text : String) (ik is ic : Nat) : Prop := Bundle.fit cls = true ∧ Cond.classLink own ik cls ∈ lw_g ∧ Cond.initialized cls ∈ lw_g ∧ (own, is, text) ∈ lx_str ∧ (∀ w ∈ vx_atS own ic cls ["java/lang/RuntimeException", "java/lang/Exception"], w ∈ lw_g ∨ w ∈ lw_n) ∧ (∀ w ∈ Cond.classLink own ik cls :: Cond.initialized cls :: vx_atS own ic cls ["java/lang/RuntimeException", "java/lang/Exception"], vx_ot w = true)
theorem zh_grow {g : gx_T} {σ : sx_T} {H H1 : Heap} (h : zx_h g σ H) (h1 : H.size ≤ H1.size) (h2 : ∀ q : Nat, q < H.size → H1[q]? = H[q]?) : zx_h g (wx_Z σ H1.size) H1 := by
  obtain ⟨q1, q2, q3, q4, L, hL, hP, hD⟩ := h
  refine ⟨rfl, by omega, fun q hq => (h2 q (by omega)).trans (q3 q hq), q4, L, hL, ?_, ?_⟩
  · have e : va_pl L (sx_F (gx_A g) (wx_Z σ H1.size)) = va_pl L (sx_F (gx_A g) σ) := va_pl_congr (fun a => xF_same rfl rfl (fun _ => rfl) (fun _ => rfl) (fun _ => rfl))
    rw [e]
    exact hP.kept (fun k x hx => h2 x.1 (hP k x hx).lt)
  · have e : va_pl L (sx_F (gx_A g) (wx_Z σ H1.size)) = va_pl L (sx_F (gx_A g) σ) := va_pl_congr (fun a => xF_same rfl rfl (fun _ => rfl) (fun _ => rfl) (fun _ => rfl))
    rw [e]
    exact hD
section ZTHROW
variable {p : Program} {l : Launch} {e : Env} {R : Room} {s : State} {m : MethodId} {args : Array Value} {below : List Frame} {meth : Method} {c : Code} {g : gx_T} {nL cells slots : Nat} {σ : sx_T} {pc : Nat} {lv : List (Nat × Value)} {st : List Value} {cc : ByteArray} {own : String}
theorem z_throw (B : zx_B p s m args meth c cc own nL g) (hlt : l.stackTraces = false) (hout : ∀ x ∈ c.exceptionTable.toList, False) {cls text : String} {ik is ic mc ms : Nat} {Qc : Array Value → State → Outcome → State → Prop} {px : sx_T → Prop} (tx : tw own cls text ik is ic) (d0 : decode cc pc = .ok (.new ik, 3)) (d3 : decode cc (pc + 3) = .ok (.dup, 1)) (d4 : decode cc (pc + 4) = .ok (.ldc is, 2)) (d6 : decode cc (pc + 6) = .ok (.invokespecial ic, 3)) (d9 : decode cc (pc + 9) = .ok (.athrow, 1))
    (hRf : 5 < R.frames) (hRl : (st.map fun v => v.category).sum + 82 ≤ R.locals) (hRc : cells + 1 ≤ R.cells) (hRs : slots + 6 ≤ R.slots) (hc : cells + 1 ≤ mc) (hs : slots + 6 ≤ ms) (hp : ∀ z, sx_Z σ ≤ z → px (wx_Z σ z)) :
    zx p l e R s m args below meth c g nL cells slots (vx_MQ below Qc (vx_X px (fun E u t => E = cls ∧ zx_h g u t.heap) (gx_Q g)) args s mc ms (gx_Q g)) σ pc lv st := by
  intro H locs ls hM hl
  obtain ⟨hx, hb, hml, hown, hts, hlk, hkk, hbs⟩ := B
  obtain ⟨t1, t2, t3, t4, t5, t6⟩ := tx
  have hkept : ∀ a : Nat, a < (gx_H g).size → ¬ gx_Q g a → s.heap[a]? = (gx_H g)[a]? := fun a h1 h2 => by
    have h3 : a < gx_b g := Nat.not_le.mp h2
    exact (hM.2.2.1 a (Nat.lt_of_lt_of_le h3 hbs) h2).symm.trans (hM.1.2.2.1 a h3)
  obtain ⟨sa, hsa⟩ := hkk.2.2.2.2.2.1 _ t4
  exact vx_throwS (A := gx_Q g) (names := ["java/lang/RuntimeException", "java/lang/Exception"]) hx hb hlt hown t1 (by decide +kernel) (hts _ t2) (hts _ t3) hsa (fun w hw => (t5 w hw).elim (fun h => hts w h) (fun h => va_Nw.use (by
      have h9 := t6 w (List.mem_cons_of_mem _ (List.mem_cons_of_mem _ hw))
      have h8 := (List.mem_filter.mp h).2
      simp only [Bool.and_eq_true, Bool.not_eq_true'] at h8
      simp only [vx_ot, Bool.or_eq_true] at h9
      exact h9.elim id (fun q => by rw [h8.1] at q; cases q)) (hkk.2.1 w h))) t6 (hkk.2.2.1.kept hkept) (hkk.2.2.2.1.kept hkept) hM.2 (by rw [hml]; exact hl.1) d0 d3 d4 d6 d9 (fun x hx => (hout x hx).elim) hRf (by simpa using hRl) hRc hRs hlk
    (fun t hal h1 h2 => ⟨wx_Z σ t.heap.size, hp _ (Nat.le_trans (Nat.le_of_eq hM.1.1.symm) h1), ⟨rfl, zh_grow hM.1 h1 h2⟩, ⟨Nat.le_trans hM.2.1 h1, fun q q1 q2 => (h2 q (Nat.lt_of_lt_of_le q1 hM.2.1)).trans (hM.2.2.1 q q1 q2)⟩⟩) hM.2.2.2 hc hs
theorem z_throwW (B : zx_B p s m args meth c cc own nL g) (hlt : l.stackTraces = false) (hout : ∀ x ∈ c.exceptionTable.toList, False) {cls text : String} {ik is ic mc ms : Nat} {Qc : Array Value → State → Outcome → State → Prop} {px : sx_T → Prop} (tx : tw own cls text ik is ic) (d0 : decode cc pc = .ok (.new ik, 3)) (d3 : decode cc (pc + 3) = .ok (.dup, 1)) (d4 : decode cc (pc + 4) = .ok (.ldc_w is, 3)) (d7 : decode cc (pc + 7) = .ok (.invokespecial ic, 3)) (d10 : decode cc (pc + 10) = .ok (.athrow, 1))
    (hRf : 5 < R.frames) (hRl : (st.map fun v => v.category).sum + 82 ≤ R.locals) (hRc : cells + 1 ≤ R.cells) (hRs : slots + 6 ≤ R.slots) (hc : cells + 1 ≤ mc) (hs : slots + 6 ≤ ms) (hp : ∀ z, sx_Z σ ≤ z → px (wx_Z σ z)) :
    zx p l e R s m args below meth c g nL cells slots (vx_MQ below Qc (vx_X px (fun E u t => E = cls ∧ zx_h g u t.heap) (gx_Q g)) args s mc ms (gx_Q g)) σ pc lv st := by
  intro H locs ls hM hl
  obtain ⟨hx, hb, hml, hown, hts, hlk, hkk, hbs⟩ := B
  obtain ⟨t1, t2, t3, t4, t5, t6⟩ := tx
  have hkept : ∀ a : Nat, a < (gx_H g).size → ¬ gx_Q g a → s.heap[a]? = (gx_H g)[a]? := fun a h1 h2 => by
    have h3 : a < gx_b g := Nat.not_le.mp h2
    exact (hM.2.2.1 a (Nat.lt_of_lt_of_le h3 hbs) h2).symm.trans (hM.1.2.2.1 a h3)
  obtain ⟨sa, hsa⟩ := hkk.2.2.2.2.2.1 _ t4
  exact vx_throwSW (A := gx_Q g) (names := ["java/lang/RuntimeException", "java/lang/Exception"]) hx hb hlt hown t1 (by decide +kernel) (hts _ t2) (hts _ t3) hsa (fun w hw => (t5 w hw).elim (fun h => hts w h) (fun h => va_Nw.use (by
      have h9 := t6 w (List.mem_cons_of_mem _ (List.mem_cons_of_mem _ hw))
      have h8 := (List.mem_filter.mp h).2
      simp only [Bool.and_eq_true, Bool.not_eq_true'] at h8
      simp only [vx_ot, Bool.or_eq_true] at h9
      exact h9.elim id (fun q => by rw [h8.1] at q; cases q)) (hkk.2.1 w h))) t6 (hkk.2.2.1.kept hkept) (hkk.2.2.2.1.kept hkept) hM.2 (by rw [hml]; exact hl.1) d0 d3 d4 d7 d10 (fun x hx => (hout x hx).elim) hRf (by simpa using hRl) hRc hRs hlk
    (fun t hal h1 h2 => ⟨wx_Z σ t.heap.size, hp _ (Nat.le_trans (Nat.le_of_eq hM.1.1.symm) h1), ⟨rfl, zh_grow hM.1 h1 h2⟩, ⟨Nat.le_trans hM.2.1 h1, fun q q1 q2 => (h2 q (Nat.lt_of_lt_of_le q1 hM.2.1)).trans (hM.2.2.1 q q1 q2)⟩⟩) hM.2.2.2 hc hs
end ZTHROW
theorem z_metX {y : MethodName} {cc : ByteArray} {maxL fr lo mc ms : Nat} {ret : Option FieldType} {l : Launch} {As : List Value} {g : gx_T} {σ : sx_T} {Qc : Array Value → State → Outcome → State → Prop} {XC : String → State → State → Prop} (hy : plainName y.cls = true) (hlen : (lg_sl As).length ≤ maxL)
    (body : ∀ (p : Program) (e : Env) (s : State) (m : MethodId) (below : List Frame) (meth : Method) (c : Code), zx_B p s m As.toArray meth c cc y.cls maxL g → meth.sig.returnType = ret → meth.name = y.name → (∀ x ∈ c.exceptionTable.toList, False) → zx p l e { frames := fr, cells := mc, slots := ms, locals := lo } s m As.toArray below meth c g maxL 0 0 (vx_MQ below Qc XC As.toArray s mc ms (gx_Q g)) σ 0 (lv_args 0 As) []) :
    vx_Met l y (.code y cc maxL ret :: lw_g) { frames := fr, cells := mc, slots := ms, locals := lo } (va_Pc As (zx_w g σ)) Qc XC mc ms (gx_Q g) := by
  refine vx_ofW (cc := cc) (maxL := maxL) (ret := ret) hy rfl ?_
  intro p e s m args below meth c s₁ B hml hout hv
  obtain ⟨rfl, hk, hh⟩ := hv
  have hts := atoms_spec (ws := .code y cc maxL ret :: lw_g) B.pre
  rw [lg_entry_eq]
  exact body p e s m below meth c ⟨B.exec, B.bytes, hml, findClass_of_methodNamed B.named, fun w hw => hts w (List.mem_cons_of_mem _ hw), B.notSynchronized, hk, hh.2.1⟩ B.returns (name_of_methodNamed B.named B.method).1 hout s.heap [] _ ⟨hh, va_S.rf⟩ (lv_entry As hlen)
/-! new cells, one behind the other -/
def al (σ : sx_T) : List (Nat × Nat) → sx_T
  | [] => σ
  | (kd, n) :: t => al (wx_N σ kd n) t
theorem al_Z : ∀ (ks : List (Nat × Nat)) (σ : sx_T), sx_Z (al σ ks) = sx_Z σ + ks.length
  | [], σ => rfl
  | (kd, n) :: t, σ => by
    show sx_Z (al (wx_N σ kd n) t) = _
    rw [al_Z t, List.length_cons]
    show sx_Z σ + 1 + t.length = _
    omega
theorem al_app : ∀ (ks ls : List (Nat × Nat)) (σ : sx_T), al (al σ ks) ls = al σ (ks ++ ls)
  | [], ls, σ => rfl
  | (kd, n) :: t, ls, σ => al_app t ls (wx_N σ kd n)
theorem al_snoc (σ : sx_T) (ks : List (Nat × Nat)) (kd n : Nat) : wx_N (al σ ks) kd n = al σ (ks ++ [(kd, n)]) := al_app ks [(kd, n)] σ
/-- an old cell is as it was -/
theorem al_old : ∀ (ks : List (Nat × Nat)) (σ : sx_T) {a : Nat}, a < sx_Z σ → sx_K (al σ ks) a = sx_K σ a ∧ sx_N (al σ ks) a = sx_N σ a ∧ (∀ k, sx_I (al σ ks) a k = sx_I σ a k) ∧ (∀ k, sx_J (al σ ks) a k = sx_J σ a k) ∧ (∀ k, sx_R (al σ ks) a k = sx_R σ a k)
  | [], σ, a, _ => ⟨rfl, rfl, fun _ => rfl, fun _ => rfl, fun _ => rfl⟩
  | (kd, n) :: t, σ, a, h => by
    have hne : ¬ a = sx_Z σ := by omega
    obtain ⟨h1, h2, h3, h4, h5⟩ := al_old t (wx_N σ kd n) (a := a) (show a < sx_Z σ + 1 by omega)
    refine ⟨h1.trans (if_neg hne), h2.trans (if_neg hne), fun k => (h3 k).trans (if_neg hne), fun k => (h4 k).trans (if_neg hne), fun k => (h5 k).trans (if_neg hne)⟩
/-- a new cell is empty -/
theorem al_new : ∀ (ks : List (Nat × Nat)) (σ : sx_T) (j : Nat) {kd n : Nat}, ks[j]? = some (kd, n) → sx_K (al σ ks) (sx_Z σ + j) = kd ∧ sx_N (al σ ks) (sx_Z σ + j) = n ∧ (∀ k, sx_I (al σ ks) (sx_Z σ + j) k = 0) ∧ (∀ k, sx_J (al σ ks) (sx_Z σ + j) k = 0) ∧ (∀ k, sx_R (al σ ks) (sx_Z σ + j) k = none)
  | [], σ, j, _, _, h => by simp at h
  | (kd', n') :: t, σ, 0, kd, n, h => by
    obtain ⟨e1, e2⟩ : kd' = kd ∧ n' = n := by simpa using h
    obtain ⟨h1, h2, h3, h4, h5⟩ := al_old t (wx_N σ kd' n') (a := sx_Z σ) (show sx_Z σ < sx_Z σ + 1 by omega)
    exact ⟨h1.trans ((if_pos rfl).trans e1), h2.trans ((if_pos rfl).trans e2), fun k => (h3 k).trans (if_pos rfl), fun k => (h4 k).trans (if_pos rfl), fun k => (h5 k).trans (if_pos rfl)⟩
  | (kd', n') :: t, σ, j + 1, kd, n, h => by
    have h9 := al_new t (wx_N σ kd' n') j (kd := kd) (n := n) (by simpa using h)
    have e : sx_Z (wx_N σ kd' n') + j = sx_Z σ + (j + 1) := by show sx_Z σ + 1 + j = _; omega
    rw [e] at h9
    exact h9
/-- the same by offsets -/
theorem alK {b c j kd n : Nat} {σ : sx_T} {ks : List (Nat × Nat)} (hz : sx_Z σ = b + c) (o : Nat) (ho : o = c + j) (h : ks[j]? = some (kd, n)) : sx_K (al σ ks) (b + o) = kd ∧ sx_N (al σ ks) (b + o) = n ∧ (∀ k, sx_I (al σ ks) (b + o) k = 0) ∧ (∀ k, sx_J (al σ ks) (b + o) k = 0) ∧ (∀ k, sx_R (al σ ks) (b + o) k = none) := by
  have h9 := al_new ks σ j h
  rw [hz, show b + c + j = b + o by omega] at h9
  exact h9
/-- cells made over written places -/
theorem nw_ap {b o kd n : Nat} {τ : sx_T} {li : List (Nat × Nat × Int32)} {lj : List (Nat × Nat × Int64)} {lr : List (Nat × Nat × Option Nat)} (hz : sx_Z τ = b + o) (h1 : li.all (fun e => decide (e.1 < o)) = true) (h2 : lj.all (fun e => decide (e.1 < o)) = true) (h3 : lr.all (fun e => decide (e.1 < o)) = true) : wx_N (ap b τ li lj lr) kd n = ap b (wx_N τ kd n) li lj lr := by
  have key : ∀ {α : Type} (d : α) (l : List (Nat × Nat × α)) (f : Nat → Nat → α), l.all (fun e => decide (e.1 < o)) = true → (fun a k => if a = b + o then d else lk b l f a k) = lk b l (fun a k => if a = b + o then d else f a k) := by
    intro α d l f
    induction l with
    | nil => intro _; rfl
    | cons x t ih =>
      intro h
      obtain ⟨o', j, x⟩ := x
      rw [List.all_cons, Bool.and_eq_true, decide_eq_true_eq] at h
      show (fun a k => if a = b + o then d else if a = b + o' ∧ k = j then x else lk b t f a k) = fun a k => if a = b + o' ∧ k = j then x else lk b t (fun a k => if a = b + o then d else f a k) a k
      rw [← ih h.2]
      funext a k
      by_cases ha : a = b + o
      · rw [if_pos ha, if_neg (fun q => by have := q.1; have := h.1; simp at this; omega)]
        show d = if a = b + o then d else lk b t f a k
        rw [if_pos ha]
      · rw [if_neg ha]
        by_cases hb : a = b + o' ∧ k = j
        · rw [if_pos hb, if_pos hb]
        · rw [if_neg hb, if_neg hb]
          show lk b t f a k = if a = b + o then d else lk b t f a k
          rw [if_neg ha]
  show (_, _, _, _, _, _) = (_, _, _, _, _, _)
  have hz' : sx_Z (ap b τ li lj lr) = b + o := hz
  unfold wx_N
  rw [hz', hz]
  refine Prod.ext rfl (Prod.ext rfl (Prod.ext ?_ (Prod.ext ?_ (Prod.ext ?_ rfl))))
  · exact key 0 li (sx_I τ) h1
  · exact key 0 lj (sx_J τ) h2
  · exact key none lr (sx_R τ) h3
theorem al_ap {b : Nat} {li : List (Nat × Nat × Int32)} {lj : List (Nat × Nat × Int64)} {lr : List (Nat × Nat × Option Nat)} : ∀ (ks : List (Nat × Nat)) (o : Nat) {τ : sx_T}, sx_Z τ = b + o → li.all (fun e => decide (e.1 < o)) = true → lj.all (fun e => decide (e.1 < o)) = true → lr.all (fun e => decide (e.1 < o)) = true → al (ap b τ li lj lr) ks = ap b (al τ ks) li lj lr
  | [], _, _, _, _, _, _ => rfl
  | (kd, n) :: t, o, τ, hz, h1, h2, h3 => by
    show al (wx_N (ap b τ li lj lr) kd n) t = ap b (al (wx_N τ kd n) t) li lj lr
    rw [nw_ap hz h1 h2 h3]
    have up : ∀ {α : Type} (l : List (Nat × Nat × α)), l.all (fun e => decide (e.1 < o)) = true → l.all (fun e => decide (e.1 < o + 1)) = true := by
      intro α l h
      rw [List.all_eq_true] at h ⊢
      intro x hx
      have := h x hx
      simp at this ⊢
      omega
    exact al_ap t (o + 1) (by show sx_Z τ + 1 = _; omega) (up li h1) (up lj h2) (up lr h3)
