/-! nothing of a kind beside -/
def kz (b : Nat) (σ : sx_T) : Prop := b ≤ sx_Z σ ∧ ∀ a, a < b ∨ sx_Z σ ≤ a → sx_K σ a = 0
theorem kz_N {b kd n : Nat} {σ : sx_T} (h : kz b σ) : kz b (wx_N σ kd n) := by
  refine ⟨Nat.le_succ_of_le h.1, fun a ha => ?_⟩
  have ha' : a < b ∨ sx_Z σ + 1 ≤ a := ha
  have h1 := h.1
  have q : a ≠ sx_Z σ := by omega
  exact (if_neg q).trans (h.2 a (by omega))
theorem kz_al {b : Nat} : ∀ (ks : List (Nat × Nat)) (σ : sx_T), kz b σ → kz b (al σ ks)
  | [], _, h => h
  | (_, _) :: t, _, h => kz_al t _ (kz_N h)
theorem kz_ap {b c : Nat} {σ : sx_T} {li : List (Nat × Nat × Int32)} {lj : List (Nat × Nat × Int64)} {lr : List (Nat × Nat × Option Nat)} (h : kz b σ) : kz b (ap c σ li lj lr) := h
theorem kz_R {b a k : Nat} {σ : sx_T} {x : Option Nat} (h : kz b σ) : kz b (wx_R σ a k x) := h
/-! what a cell is, with everything in it -/
def cf (σ : sx_T) (a kd n : Nat) (fI : Nat → Int32) (fR : Nat → Option Nat) : Prop := sx_K σ a = kd ∧ sx_N σ a = n ∧ (∀ k, sx_I σ a k = fI k) ∧ (∀ k, sx_J σ a k = 0) ∧ (∀ k, sx_R σ a k = fR k)
theorem cf_old {z c a kd n : Nat} {σ : sx_T} {ks : List (Nat × Nat)} {li : List (Nat × Nat × Int32)} {lj : List (Nat × Nat × Int64)} {lr : List (Nat × Nat × Option Nat)} {fI : Nat → Int32} {fR : Nat → Option Nat} (hz : sx_Z σ = z + c) (ha : a < z) (h : cf σ a kd n fI fR) : cf (ap z (al σ ks) li lj lr) a kd n fI fR := by
  obtain ⟨h1, h2, h3, h4, h5⟩ := xx_old (ks := ks) (li := li) (lj := lj) (lr := lr) hz ha
  obtain ⟨g1, g2, g3, g4, g5⟩ := h
  exact ⟨h1.trans g1, h2.trans g2, fun k => (h3 k).trans (g3 k), fun k => (h4 k).trans (g4 k), fun k => (h5 k).trans (g5 k)⟩
theorem cf_new {z c j o kd n : Nat} {σ : sx_T} {ks : List (Nat × Nat)} {li : List (Nat × Nat × Int32)} {lr : List (Nat × Nat × Option Nat)} (hz : sx_Z σ = z + c) (ho : o = c + j) (h : ks[j]? = some (kd, n)) : cf (ap z (al σ ks) li [] lr) (z + o) kd n (l0 li 0 o) (l0 lr none o) := xx_new hz ho h
/-- an old cell with places written in it -/
theorem cf_in {b c o kd n : Nat} {σ : sx_T} {ks : List (Nat × Nat)} {li : List (Nat × Nat × Int32)} {lr : List (Nat × Nat × Option Nat)} (hz : sx_Z σ = b + c) (ho : o < c) (h : cf σ (b + o) kd n (fun _ => 0) (fun _ => none)) : cf (ap b (al σ ks) li [] lr) (b + o) kd n (l0 li 0 o) (l0 lr none o) := by
  obtain ⟨h1, h2, h3, h4, h5⟩ := al_old ks σ (a := b + o) (by omega)
  obtain ⟨g1, g2, g3, g4, g5⟩ := h
  refine ⟨h1.trans g1, h2.trans g2, fun k => ?_, fun k => ?_, fun k => ?_⟩
  · show lk b li (sx_I (al σ ks)) (b + o) k = _
    rw [lk_at, h3 k, g3 k]
  · exact (h4 k).trans (g4 k)
  · show lk b lr (sx_R (al σ ks)) (b + o) k = _
    rw [lk_at, h5 k, g5 k]
theorem cf_R {σ : sx_T} {a a' kd n k : Nat} {x : Option Nat} {fI : Nat → Int32} {fR : Nat → Option Nat} (hne : a ≠ a') (h : cf σ a kd n fI fR) : cf (wx_R σ a' k x) a kd n fI fR := by
  obtain ⟨g1, g2, g3, g4, g5⟩ := h
  refine ⟨g1, g2, g3, g4, fun q => ?_⟩
  show sx_u _ _ _ _ _ _ = _
  rw [ux_a hne, g5 q]
theorem cf_Rs {σ : sx_T} {a kd n k : Nat} {x : Option Nat} {fI : Nat → Int32} {fR fR' : Nat → Option Nat} (hf : ∀ q, fR' q = if q = k then x else fR q) (h : cf σ a kd n fI fR) : cf (wx_R σ a k x) a kd n fI fR' := by
  obtain ⟨g1, g2, g3, g4, g5⟩ := h
  refine ⟨g1, g2, g3, g4, fun q => ?_⟩
  rw [hf q]
  show sx_u _ _ _ _ _ _ = _
  by_cases hq : q = k
  · rw [if_pos hq, hq, ux_eq]
  · rw [if_neg hq, ux_k hq, g5 q]
/-- references as numbers: 0 none, 1 the given t, n + 2 the cell b + n -/
def rd_ (b t : Nat) : Nat → Option Nat
  | 0 => none
  | 1 => some t
  | n + 2 => some (b + n)
def rl (b t : Nat) : List (Nat × Nat × Nat) → List (Nat × Nat × Option Nat)
  | [] => []
  | (o, k, n) :: q => (o, k, rd_ b t n) :: rl b t q
theorem l0_rl (b t o k : Nat) : ∀ q : List (Nat × Nat × Nat), l0 (rl b t q) none o k = rd_ b t (l0 q 0 o k)
  | [] => rfl
  | (o', j, n) :: q => by
    show (bif (Nat.beq o o' && Nat.beq k j) then rd_ b t n else l0 (rl b t q) none o k) = rd_ b t (bif (Nat.beq o o' && Nat.beq k j) then n else l0 q 0 o k)
    rw [l0_rl b t o k q]
    cases (Nat.beq o o' && Nat.beq k j) <;> rfl
def xl_I : List (Nat × Nat × Int32) := [(33, 0, 0), (29, 0, 5), (25, 0, 4), (21, 0, 3), (17, 0, 2), (13, 0, 1), (9, 0, 0), (0, 10, 1), (4, 0, 0)]
def xl_R : List (Nat × Nat × Nat) := [(33, 3, 38), (33, 2, 37), (33, 1, 36), (1, 5, 31), (29, 3, 34), (29, 2, 33), (29, 1, 32), (1, 4, 27), (25, 3, 30), (25, 2, 29), (25, 1, 28), (1, 3, 23), (21, 3, 26), (21, 2, 25), (21, 1, 24), (1, 2, 19), (17, 3, 22), (17, 2, 21), (17, 1, 20), (1, 1, 15), (13, 3, 18), (13, 2, 17), (13, 1, 16), (1, 0, 11), (9, 3, 14), (9, 2, 13), (9, 1, 12), (0, 5, 9), (7, 0, 10), (0, 4, 7), (5, 0, 8), (0, 3, 6), (4, 1, 1), (0, 2, 5), (0, 1, 4), (0, 0, 3)]
def fl_I (i : Nat) : List (Nat × Nat × Int32) := [(3, 0, nI i), (3, 6, (-1)), (3, 5, (-1)), (3, 4, (-1))]
def fl_R (m : Nat) : List (Nat × Nat × Nat) := [(3, 2, m + 6), (3, 1, m + 2), (3, 3, 35), (4, 3, m + 2), (4, 2, 35), (4, 1, m + 9), (7, 0, m + 10), (4, 0, m + 7), (5, 0, m + 8), (0, 1, m + 4), (0, 0, m + 3)]
def fl_K : List (Nat × Nat) := [(3, 0), (12, 140), (14, 140), (2, 0), (7, 0), (5, 0), (13, 20), (8, 0), (13, 90)]
def sl_R : List (Nat × Nat × Nat) := [(0, 3, 400), (0, 2, 35), (0, 1, 405), (6, 0, 406), (0, 0, 403), (4, 0, 404), (1, 1, 402), (1, 0, 401)]
def sl_K : List (Nat × Nat) := [(7, 0), (3, 0), (12, 140), (14, 140), (5, 0), (13, 20), (8, 0), (13, 90)]
theorem xl_R_eq (b t : Nat) : rl b t xl_R = [(33, 3, (some (b + 36))), (33, 2, (some (b + 35))), (33, 1, (some (b + 34))), (1, 5, (some (b + 29))), (29, 3, (some (b + 32))), (29, 2, (some (b + 31))), (29, 1, (some (b + 30))), (1, 4, (some (b + 25))), (25, 3, (some (b + 28))), (25, 2, (some (b + 27))), (25, 1, (some (b + 26))), (1, 3, (some (b + 21))), (21, 3, (some (b + 24))), (21, 2, (some (b + 23))), (21, 1, (some (b + 22))), (1, 2, (some (b + 17))), (17, 3, (some (b + 20))), (17, 2, (some (b + 19))), (17, 1, (some (b + 18))), (1, 1, (some (b + 13))), (13, 3, (some (b + 16))), (13, 2, (some (b + 15))), (13, 1, (some (b + 14))), (1, 0, (some (b + 9))), (9, 3, (some (b + 12))), (9, 2, (some (b + 11))), (9, 1, (some (b + 10))), (0, 5, (some (b + 7))), (7, 0, (some (b + 8))), (0, 4, (some (b + 5))), (5, 0, (some (b + 6))), (0, 3, (some (b + 4))), (4, 1, (some t)), (0, 2, (some (b + 3))), (0, 1, (some (b + 2))), (0, 0, (some (b + 1)))] := rfl
theorem fl_R_eq (b t m z pa : Nat) (hz : z = b + m) (hp : pa = b + 33) : rl b t (fl_R m) = [(3, 2, (some (z + 4))), (3, 1, (some (z + 0))), (3, 3, (some pa)), (4, 3, (some (z + 0))), (4, 2, (some pa)), (4, 1, (some (z + 7))), (7, 0, (some (z + 8))), (4, 0, (some (z + 5))), (5, 0, (some (z + 6))), (0, 1, (some (z + 2))), (0, 0, (some (z + 1)))] := by subst hz; subst hp; rfl
theorem sl_R_eq (b t z pa : Nat) (hz : z = b + 397) (hp : pa = b + 33) : rl b t sl_R = [(0, 3, (some (z + 1))), (0, 2, (some pa)), (0, 1, (some (z + 6))), (6, 0, (some (z + 7))), (0, 0, (some (z + 4))), (4, 0, (some (z + 5))), (1, 1, (some (z + 3))), (1, 0, (some (z + 2)))] := by subst hz; subst hp; rfl
theorem zz_R {σ : sx_T} {a k : Nat} {x : Option Nat} : sx_Z (wx_R σ a k x) = sx_Z σ := rfl
theorem zz_ap {b : Nat} {σ : sx_T} {li : List (Nat × Nat × Int32)} {lj : List (Nat × Nat × Int64)} {lr : List (Nat × Nat × Option Nat)} : sx_Z (ap b σ li lj lr) = sx_Z σ := rfl
theorem getD_some {α : Type} {l : List α} {j : Nat} {d : α} (h : j < l.length) : l[j]? = some (l.getD j d) := by
  rw [List.getD_eq_getElem?_getD, List.getElem?_eq_getElem h]
  rfl
def xl_P (b t i : Nat) (σ : sx_T) : Prop := sx_Z σ = b + (37 + 9 * i) ∧ (∀ o, o < 37 → o ≠ 3 → cf σ (b + o) (lay_K o) (lay_N o) (l0 xl_I 0 o) (fun k => rd_ b t (l0 xl_R 0 o k))) ∧ cf σ (b + 3) 15 40 (fun _ => 0) (fun k => if k < i then some (b + (40 + 9 * k)) else none) ∧ (∀ i' j, i' < i → j < 9 → cf σ (b + (37 + 9 * i' + j)) (fl_K.getD j (0, 0)).1 (fl_K.getD j (0, 0)).2 (l0 (fl_I i') 0 j) (fun k => rd_ b t (l0 (fl_R (37 + 9 * i')) 0 j k))) ∧ kz b σ
theorem xl_step {b t i : Nat} {σ : sx_T} (h : xl_P b t i σ) (hz : sx_Z σ = b + (37 + 9 * i)) : xl_P b t (i + 1) (wx_R (ap (b + (37 + 9 * i)) (al σ fl_K) (fl_I i) [] (rl b t (fl_R (37 + 9 * i)))) (b + 3) i (some (b + (37 + 9 * i) + 3))) := by
  obtain ⟨-, h1, h2, h3, h4⟩ := h
  have hz0 : sx_Z σ = b + (37 + 9 * i) + 0 := hz
  refine ⟨?_, fun o ho ho3 => cf_R (by omega) (cf_old hz0 (by omega) (h1 o ho ho3)), cf_Rs (fun q => ?_) (cf_old hz0 (by omega) h2), fun i' j hi hj => ?_, kz_R (kz_ap (kz_al _ _ h4))⟩
  · rw [zz_R, zz_ap, al_Z, hz]
    show b + (37 + 9 * i) + 9 = _
    omega
  · by_cases hq : q = i
    · subst hq
      rw [if_pos rfl, if_pos (by omega)]
      congr 1
      omega
    · rw [if_neg hq]
      by_cases hl : q < i
      · rw [if_pos hl, if_pos (by omega)]
      · rw [if_neg hl, if_neg (by omega)]
  · by_cases hl : i' = i
    · subst hl
      refine cf_R (by omega) ?_
      have hj9 : fl_K[j]? = some (fl_K.getD j (0, 0)) := getD_some (show j < fl_K.length from hj)
      have h9 := cf_new (li := fl_I i') (lr := rl b t (fl_R (37 + 9 * i'))) hz0 (Nat.zero_add j).symm hj9
      rw [show b + (37 + 9 * i' + j) = b + (37 + 9 * i') + j by omega]
      rw [show (fun k => rd_ b t (l0 (fl_R (37 + 9 * i')) 0 j k)) = l0 (rl b t (fl_R (37 + 9 * i'))) none j from funext fun k => (l0_rl b t j k _).symm]
      exact h9
    · exact cf_R (by omega) (cf_old hz0 (by omega) (h3 i' j (by omega) hj))
theorem lay_37 : ∀ j, j < 36 → ([(16, 6), (13, 6), (15, 40), (1, 0), (4, 0), (15, 128), (4, 0), (15, 128), (6, 0), (13, 20), (13, 20), (13, 20), (6, 0), (13, 20), (13, 20), (13, 20), (6, 0), (13, 20), (13, 20), (13, 20), (6, 0), (13, 20), (13, 20), (13, 20), (6, 0), (13, 20), (13, 20), (13, 20), (6, 0), (13, 20), (13, 20), (13, 20), (6, 0), (13, 20), (13, 20), (13, 20)] : List (Nat × Nat))[j]? = some (lay_K (j + 1), lay_N (j + 1)) := by decide
/-- the store behind the first object's constructor -/
def fx_K (o : Nat) : Nat × Nat := bif Nat.ble o 36 then (lay_K o, lay_N o) else bif Nat.ble o 396 then fl_K.getD ((o - 37) % 9) (0, 0) else sl_K.getD (o - 397) (0, 0)
def fx_I (o k : Nat) : Int32 := bif Nat.ble o 36 then l0 xl_I 0 o k else bif Nat.ble o 396 then l0 (fl_I ((o - 37) / 9)) 0 ((o - 37) % 9) k else 0
def fx_R (o k : Nat) : Nat := bif Nat.ble o 36 then (bif Nat.beq o 3 then (bif Nat.ble 40 k then 0 else 42 + 9 * k) else bif (Nat.beq o 0 && Nat.beq k 6) then 399 else l0 xl_R 0 o k) else bif Nat.ble o 396 then l0 (fl_R (37 + 9 * ((o - 37) / 9))) 0 ((o - 37) % 9) k else l0 sl_R 0 (o - 397) k
theorem fx_lay : ∀ o, o < 405 → fx_K o = (lay_K o, lay_N o) := by decide +kernel
def fx_P (b t : Nat) (σ : sx_T) : Prop := sx_Z σ = b + 405 ∧ (∀ o, o < 405 → cf σ (b + o) (lay_K o) (lay_N o) (fx_I o) (fun k => rd_ b t (fx_R o k))) ∧ kz b σ
theorem ble_f {a b : Nat} (h : b < a) : Nat.ble a b = false := by
  cases h9 : Nat.ble a b with
  | false => rfl
  | true => exact absurd (Nat.le_of_ble_eq_true h9) (by omega)
theorem beq_f {a b : Nat} (h : a ≠ b) : Nat.beq a b = false := by
  cases h9 : Nat.beq a b with
  | false => rfl
  | true => exact absurd (Nat.eq_of_beq_eq_true h9) h
theorem fx_end {b t : Nat} {σ : sx_T} (h : xl_P b t 40 σ) : fx_P b t (wx_R (ap (b + 397) (al σ sl_K) [] [] (rl b t sl_R)) b 6 (some (b + 397))) := by
  obtain ⟨hz, h1, h2, h3, h4⟩ := h
  have hz0 : sx_Z σ = b + 397 + 0 := hz
  refine ⟨?_, fun o ho => ?_, kz_R (kz_ap (kz_al _ _ h4))⟩
  · rw [zz_R, zz_ap, al_Z, hz]
    show b + 397 + 8 = _
    omega
  have hL := fx_lay o ho
  by_cases ho0 : o = 0
  · subst ho0
    have hf : ∀ q, rd_ b t (fx_R 0 q) = if q = 6 then some (b + 397) else rd_ b t (l0 xl_R 0 0 q) := by
      intro q
      by_cases hq : q = 6
      · subst hq
        rfl
      · rw [if_neg hq]
        show rd_ b t (bif (Nat.beq 0 0 && Nat.beq q 6) then 399 else l0 xl_R 0 0 q) = _
        rw [beq_f hq]
        rfl
    exact cf_Rs hf (cf_old hz0 (by omega) (h1 0 (by decide) (by decide)))
  refine cf_R (by omega) ?_
  by_cases hA : o < 37
  · have e1 : Nat.ble o 36 = true := Nat.ble_eq.mpr (by omega)
    by_cases h33 : o = 3
    · subst h33
      have e2 : (fun k => rd_ b t (fx_R 3 k)) = fun k => if k < 40 then some (b + (40 + 9 * k)) else none := by
        funext k
        show rd_ b t (bif Nat.ble 40 k then 0 else 42 + 9 * k) = _
        by_cases hk : k < 40
        · rw [ble_f hk, if_pos hk]
          show rd_ b t (42 + 9 * k) = _
          rw [show 42 + 9 * k = (40 + 9 * k) + 2 by omega]
          rfl
        · rw [if_neg hk, Nat.ble_eq.mpr (by omega)]
          rfl
      rw [e2]
      exact cf_old hz0 (by omega) h2
    · have e2 : (fun k => rd_ b t (fx_R o k)) = fun k => rd_ b t (l0 xl_R 0 o k) := by
        funext k
        unfold fx_R
        rw [e1, beq_f h33, beq_f ho0, cond_true, cond_false, Bool.false_and, cond_false]
      have e3 : fx_I o = l0 xl_I 0 o := by
        funext k
        unfold fx_I
        rw [e1, cond_true]
      rw [e2, e3]
      exact cf_old hz0 (by omega) (h1 o hA h33)
  · have e1 : Nat.ble o 36 = false := ble_f (by omega)
    by_cases hB : o < 397
    · have e4 : Nat.ble o 396 = true := Nat.ble_eq.mpr (by omega)
      have e2 : (fun k => rd_ b t (fx_R o k)) = fun k => rd_ b t (l0 (fl_R (37 + 9 * ((o - 37) / 9))) 0 ((o - 37) % 9) k) := by
        funext k
        unfold fx_R
        rw [e1, e4, cond_false, cond_true]
      have e3 : fx_I o = l0 (fl_I ((o - 37) / 9)) 0 ((o - 37) % 9) := by
        funext k
        unfold fx_I
        rw [e1, e4, cond_false, cond_true]
      have e5 : (lay_K o, lay_N o) = fl_K.getD ((o - 37) % 9) (0, 0) := by
        rw [← hL]
        unfold fx_K
        rw [e1, e4, cond_false, cond_true]
      have e6 := congrArg Prod.fst e5
      have e7 := congrArg Prod.snd e5
      simp only at e6 e7
      rw [e2, e3, e6, e7]
      have h9 := cf_old (ks := sl_K) (li := []) (lj := []) (lr := rl b t sl_R) hz0 (by omega) (h3 ((o - 37) / 9) ((o - 37) % 9) (by omega) (by omega))
      rw [show b + (37 + 9 * ((o - 37) / 9) + (o - 37) % 9) = b + o by omega] at h9
      exact h9
    · have e4 : Nat.ble o 396 = false := ble_f (by omega)
      have e2 : (fun k => rd_ b t (fx_R o k)) = l0 (rl b t sl_R) none (o - 397) := by
        funext k
        rw [l0_rl]
        unfold fx_R
        rw [e1, e4, cond_false, cond_false]
      have e3 : fx_I o = l0 [] 0 (o - 397) := by
        funext k
        unfold fx_I
        rw [e1, e4, cond_false, cond_false]
        rfl
      have e5 : (lay_K o, lay_N o) = sl_K.getD (o - 397) (0, 0) := by
        rw [← hL]
        unfold fx_K
        rw [e1, e4, cond_false, cond_false]
      have e6 := congrArg Prod.fst e5
      have e7 := congrArg Prod.snd e5
      simp only at e6 e7
      rw [e2, e3, e6, e7]
      obtain ⟨j, hj⟩ : ∃ j, o = 397 + j := ⟨o - 397, by omega⟩
      have hj8 : j < 8 := by omega
      subst hj
      rw [Nat.add_sub_cancel_left]
      have hj9 : sl_K[j]? = some (sl_K.getD j (0, 0)) := getD_some (show j < sl_K.length from hj8)
      have h9 := cf_new (li := []) (lr := rl b t sl_R) hz0 (Nat.zero_add j).symm hj9
      rw [Nat.add_assoc] at h9
      exact h9
