theorem rR_w {σ : sx_T} {a a' i k : Nat} {x : Int32} {v : Option Nat} (h : sx_R σ a k = v) : sx_R (wx_I σ a' i x) a k = v := h
theorem rJ_w {σ : sx_T} {a a' i k : Nat} {x : Int32} {v : Int64} (h : sx_J σ a k = v) : sx_J (wx_I σ a' i x) a k = v := h
theorem az_ap {b z : Nat} {σ : sx_T} {li LI : List (Nat × Nat × Int32)} {lj LJ : List (Nat × Nat × Int64)} {lr LR : List (Nat × Nat × Option Nat)} : ap b (wx_Z (ap b σ LI LJ LR) z) li lj lr = ap b (wx_Z σ z) (li ++ LI) (lj ++ LJ) (lr ++ LR) := ap_ap (σ := wx_Z σ z)
theorem eq_of_iv {x c : Int32} {n : Int} (hc : c.toInt = n) (h1 : n ≤ x.toInt) (h2 : x.toInt ≤ n) : x = c := Int32.toInt_inj.mp (by omega)
def ml_I : List (Nat × Nat × Int32) := [(405, 2, 1)]
def ml_R : List (Nat × Nat × Nat) := [(405, 46, 432), (405, 44, 431), (405, 42, 430), (405, 41, 429), (405, 40, 428), (405, 33, 427), (405, 25, 426), (405, 22, 425), (405, 21, 424), (405, 20, 423), (405, 19, 422), (405, 18, 421), (405, 17, 420), (405, 15, 419), (405, 14, 418), (405, 13, 417), (405, 12, 416), (405, 11, 415), (405, 10, 414), (405, 9, 413), (405, 8, 412), (405, 7, 411), (405, 5, 410), (405, 4, 409), (405, 3, 408)]
theorem ml_R_eq (b t : Nat) : rl b t ml_R = [(405, 46, (some (b + 430))), (405, 44, (some (b + 429))), (405, 42, (some (b + 428))), (405, 41, (some (b + 427))), (405, 40, (some (b + 426))), (405, 33, (some (b + 425))), (405, 25, (some (b + 424))), (405, 22, (some (b + 423))), (405, 21, (some (b + 422))), (405, 20, (some (b + 421))), (405, 19, (some (b + 420))), (405, 18, (some (b + 419))), (405, 17, (some (b + 418))), (405, 15, (some (b + 417))), (405, 14, (some (b + 416))), (405, 13, (some (b + 415))), (405, 12, (some (b + 414))), (405, 11, (some (b + 413))), (405, 10, (some (b + 412))), (405, 9, (some (b + 411))), (405, 8, (some (b + 410))), (405, 7, (some (b + 409))), (405, 5, (some (b + 408))), (405, 4, (some (b + 407))), (405, 3, (some (b + 406)))] := rfl
def fz_vI (o k : Nat) : Int32 := bif Nat.ble o 404 then fx_I o k else l0 ml_I 0 o k
def fz_vR (o k : Nat) : Nat := bif Nat.ble o 404 then fx_R o k else l0 ml_R 0 o k
def fz_P (b t : Nat) (σ : sx_T) : Prop := sx_Z σ = b + 432 ∧ (∀ o, o < 432 → cf σ (b + o) (lay_K o) (lay_N o) (fz_vI o) (fun k => rd_ b t (fz_vR o k))) ∧ kz b σ
theorem fz_lay {b t : Nat} {σ : sx_T} (h : fz_P b t σ) : lay b σ := fun o ho => ⟨(h.2.1 o ho).1, (h.2.1 o ho).2.1⟩
theorem blt_of {a b : Nat} (h : Nat.blt a b = true) : a < b := Nat.le_of_ble_eq_true h
theorem fz_I {b t : Nat} {σ : sx_T} (h : fz_P b t σ) (o k : Nat) {v : Int32} (ho : Nat.blt o 432 = true) (hv : fz_vI o k = v) : sx_I σ (b + o) k = v := ((h.2.1 o (blt_of ho)).2.2.1 k).trans hv
theorem fz_J {b t : Nat} {σ : sx_T} (h : fz_P b t σ) (o k : Nat) {v : Int64} (ho : Nat.blt o 432 = true) (hv : 0 = v) : sx_J σ (b + o) k = v := ((h.2.1 o (blt_of ho)).2.2.2.1 k).trans hv
theorem fz_R {b t : Nat} {σ : sx_T} (h : fz_P b t σ) (o k : Nat) {v : Option Nat} (ho : Nat.blt o 432 = true) (hv : rd_ b t (fz_vR o k) = v) : sx_R σ (b + o) k = v := ((h.2.1 o (blt_of ho)).2.2.2.2 k).trans hv
theorem cf_N {σ : sx_T} {a kd n kd' n' : Nat} {fI : Nat → Int32} {fR : Nat → Option Nat} (hne : a ≠ sx_Z σ) (h : cf σ a kd n fI fR) : cf (wx_N σ kd' n') a kd n fI fR := by
  obtain ⟨g1, g2, g3, g4, g5⟩ := h
  exact ⟨(if_neg hne).trans g1, (if_neg hne).trans g2, fun k => (if_neg hne).trans (g3 k), fun k => (if_neg hne).trans (g4 k), fun k => (if_neg hne).trans (g5 k)⟩
theorem cf_N0 {σ : sx_T} {a kd n : Nat} (h : sx_Z σ = a) : cf (wx_N σ kd n) a kd n (fun _ => 0) (fun _ => none) := by
  subst h
  exact ⟨if_pos rfl, if_pos rfl, fun _ => if_pos rfl, fun _ => if_pos rfl, fun _ => if_pos rfl⟩
theorem zz_N {σ : sx_T} {kd n : Nat} : sx_Z (wx_N σ kd n) = sx_Z σ + 1 := rfl
theorem l0_out {α : Type} {d : α} {o k : Nat} : ∀ q : List (Nat × Nat × α), q.all (fun e => decide (405 ≤ e.1)) = true → o < 405 → l0 q d o k = d
  | [], _, _ => rfl
  | (o', j, x) :: q, h, ho => by
    rw [List.all_cons, Bool.and_eq_true, decide_eq_true_eq] at h
    show (bif (Nat.beq o o' && Nat.beq k j) then x else l0 q d o k) = d
    rw [beq_f (show o ≠ o' from fun e => by have := h.1; simp only at this; omega), Bool.false_and, cond_false]
    exact l0_out q h.2 ho
theorem lay_406 : ∀ j, j < 25 → ([(13, 120), (13, 120), (13, 120), (13, 41), (13, 41), (13, 41), (13, 41), (13, 41), (13, 41), (13, 41), (13, 6560), (14, 6560), (13, 2100), (13, 2100), (13, 2100), (13, 2100), (13, 2100), (13, 2100), (13, 6), (13, 20), (13, 160), (13, 160), (13, 50), (13, 400), (13, 400)] : List (Nat × Nat))[j]? = some (lay_K (j + 406), lay_N (j + 406)) := by decide
theorem cf_lo {b c o kd n : Nat} {τ : sx_T} {ks : List (Nat × Nat)} {li : List (Nat × Nat × Int32)} {lr : List (Nat × Nat × Option Nat)} {fI : Nat → Int32} {fR : Nat → Option Nat} (hz : sx_Z τ = b + c) (ho : o < c) (ho2 : o < 405) (hi : li.all (fun e => decide (405 ≤ e.1)) = true) (hr : lr.all (fun e => decide (405 ≤ e.1)) = true) (h : cf τ (b + o) kd n fI fR) : cf (ap b (al τ ks) li [] lr) (b + o) kd n fI fR := by
  obtain ⟨g1, g2, g3, g4, g5⟩ := h
  obtain ⟨f1, f2, f3, f4, f5⟩ := al_old ks τ (a := b + o) (by omega)
  refine ⟨f1.trans g1, f2.trans g2, fun k => ?_, fun k => (f4 k).trans (g4 k), fun k => ?_⟩
  · show lk b li (sx_I (al τ ks)) (b + o) k = _
    rw [lk_at, l0_out _ hi ho2, f3 k, g3 k]
  · show lk b lr (sx_R (al τ ks)) (b + o) k = _
    rw [lk_at, l0_out _ hr ho2, f5 k, g5 k]
theorem fz_end {b t : Nat} {σ τ : sx_T} {ks : List (Nat × Nat)} {li : List (Nat × Nat × Int32)} {lr : List (Nat × Nat × Option Nat)} (h : fx_P b t σ) (hτ : wx_N σ 11 0 = τ) (hlen : ks.length = 25) (hks : ∀ j, j < 25 → ks[j]? = some (lay_K (j + 406), lay_N (j + 406))) (hli : li = ml_I) (hlr : rl b t ml_R = lr) (hi : li.all (fun e => decide (405 ≤ e.1)) = true) (hr : lr.all (fun e => decide (405 ≤ e.1)) = true) : fz_P b t (wx_N (ap b (al τ ks) li [] lr) 14 1) := by
  obtain ⟨hz, h1, hkz⟩ := h
  have hz1 : sx_Z τ = b + 406 := by rw [← hτ, zz_N, hz]
  have hz2 : sx_Z (ap b (al τ ks) li [] lr) = b + 431 := by
    rw [zz_ap, al_Z, hz1, hlen]
  refine ⟨by rw [zz_N, hz2], fun o ho => ?_, kz_N (kz_ap (kz_al _ _ (by rw [← hτ]; exact kz_N hkz)))⟩
  by_cases h431 : o = 431
  · have e1 : fz_vI 431 = fun _ => 0 := rfl
    have e2 : (fun k => rd_ b t (fz_vR 431 k)) = fun _ => none := rfl
    have e3 : lay_K 431 = 14 := rfl
    have e4 : lay_N 431 = 1 := rfl
    rw [h431, e1, e2, e3, e4]
    exact cf_N0 hz2
  refine cf_N (by rw [hz2]; omega) ?_
  have e1 : Nat.ble o 404 = true → fz_vI o = fx_I o := fun q => funext fun k => by unfold fz_vI; rw [q, cond_true]
  have e2 : Nat.ble o 404 = true → (fun k => rd_ b t (fz_vR o k)) = fun k => rd_ b t (fx_R o k) := fun q => funext fun k => by unfold fz_vR; rw [q, cond_true]
  have e3 : Nat.ble o 404 = false → fz_vI o = l0 ml_I 0 o := fun q => funext fun k => by unfold fz_vI; rw [q, cond_false]
  have e4 : Nat.ble o 404 = false → (fun k => rd_ b t (fz_vR o k)) = l0 lr none o := fun q => funext fun k => by unfold fz_vR; rw [q, cond_false, ← hlr, l0_rl]
  by_cases hlo : o < 405
  · have q : Nat.ble o 404 = true := Nat.ble_eq.mpr (by omega)
    rw [e1 q, e2 q]
    refine cf_lo hz1 (by omega) hlo hi hr ?_
    rw [← hτ]
    exact cf_N (by rw [hz]; omega) (h1 o hlo)
  · have q : Nat.ble o 404 = false := ble_f (by omega)
    rw [e3 q, e4 q, ← hli]
    by_cases h405 : o = 405
    · have e5 : lay_K 405 = 11 := rfl
      have e6 : lay_N 405 = 0 := rfl
      rw [h405, e5, e6]
      refine cf_in (c := 406) hz1 (by omega) ?_
      rw [← hτ]
      exact cf_N0 hz
    · obtain ⟨j, rfl⟩ : ∃ j, o = j + 406 := ⟨o - 406, by omega⟩
      exact cf_new (c := 406) (j := j) hz1 (Nat.add_comm _ _) (hks j (by omega))
