/-! the store of the start holds all that is wanted -/
theorem l0_hi {o k : Nat} (hk : 47 ≤ k) : ∀ q : List (Nat × Nat × Nat), q.all (fun e => decide (e.2.1 < 47)) = true → l0 q 0 o k = 0
  | [], _ => rfl
  | (o', j, x) :: q, h => by
    rw [List.all_cons, Bool.and_eq_true, decide_eq_true_eq] at h
    show (bif (Nat.beq o o' && Nat.beq k j) then x else l0 q 0 o k) = 0
    rw [beq_f (show k ≠ j from fun e => by have := h.1; simp only at this; omega), Bool.and_false, cond_false]
    exact l0_hi hk q h.2
theorem fzR_hi {o k : Nat} (hk : 47 ≤ k) : fz_vR o k = 0 := by
  unfold fz_vR fx_R
  have e40 : Nat.ble 40 k = true := Nat.ble_eq.mpr (by omega)
  have e6 : Nat.beq k 6 = false := beq_f (by omega)
  rw [e40, e6, Bool.and_false, cond_true, cond_false, l0_hi hk xl_R rfl, l0_hi hk ml_R rfl, l0_hi hk sl_R rfl, l0_hi hk (fl_R (37 + 9 * ((o - 37) / 9))) rfl]
  cases Nat.ble o 404 <;> cases Nat.ble o 36 <;> cases Nat.beq o 3 <;> cases Nat.ble o 396 <;> rfl
theorem fzI_m {o k : Nat} (ho : 405 < o) : fz_vI o k = 0 := by
  unfold fz_vI
  have e : Nat.ble o 404 = false := ble_f (by omega)
  rw [e, cond_false]
  show (bif (Nat.beq o 405 && Nat.beq k 2) then (1 : Int32) else 0) = 0
  rw [beq_f (show o ≠ 405 by omega), Bool.false_and, cond_false]
theorem fzI_405 {k : Nat} (hk : k ≠ 2) : fz_vI 405 k = 0 := by
  show (bif (Nat.beq 405 405 && Nat.beq k 2) then (1 : Int32) else 0) = 0
  rw [beq_f hk, Bool.and_false, cond_false]
def tyB (o k : Nat) : Bool := bif Nat.beq (ty_r (lay_K o) k) 0 then true else match fz_vR o k with
  | 0 => true
  | 1 => false
  | n + 2 => Nat.blt n 432 && Nat.beq (lay_K n) (ty_r (lay_K o) k)
theorem tyB_all : ∀ o, o < 432 → ∀ k, k < 47 → tyB o k = true := by decide +kernel
theorem nnB_all : ∀ o, o < 432 → ∀ k, k < 7 → nn (lay_K o) k = true → fz_vR o k ≠ 0 := by decide +kernel
theorem bzB_all : ∀ o, o < 432 → ∀ k, k < 48 → bz (lay_K o) k = true → fz_vI o k = 0 := by decide +kernel
theorem coB_all : ∀ o, o < 432 → ∀ k, k < 47 → lay_K o = 11 ∨ fz_vR o k ≤ 406 := by decide +kernel
theorem k7_all : ∀ o, o < 432 → lay_K o = 7 → (fz_vR o 0 = if o = 397 then 403 else o + 3) ∧ (o = 397 ∨ o ≤ 392) ∧ fz_vI o 4 = 0 ∧ fz_vI o 7 = 0 ∧ fz_vI o 8 = 0 ∧ fz_vI o 14 = 0 ∧ fz_vI o 15 = 0 ∧ fz_vI o 16 = 0 ∧ fz_vI o 19 = 0 := by decide +kernel
theorem k5_all : ∀ o, o < 432 → lay_K o = 5 → fz_vI o 1 = 0 := by decide +kernel
theorem k3_all : ∀ o, o < 432 → lay_K o = 3 → fz_vR o 0 = o + 3 ∧ fz_vR o 1 = o + 4 ∧ lay_N (o + 1) = 140 ∧ lay_N (o + 2) = 140 ∧ o + 2 < 432 ∧ fz_vI o 2 = 0 := by decide +kernel
theorem k2_all : ∀ o, o < 432 → lay_K o = 2 → 40 ≤ o ∧ o ≤ 391 ∧ (o - 40) % 9 = 0 := by decide +kernel
theorem k4_all : ∀ o, o < 432 → lay_K o = 4 → fz_vR o 0 = o + 3 ∧ (o = 5 ∨ o = 7) := by decide +kernel
theorem k1_all : ∀ o, o < 432 → lay_K o = 1 → fz_vR o 1 = 1 := by decide +kernel
theorem k9_all : ∀ o, o < 432 → lay_K o ≠ 9 ∧ lay_N o ≤ 1000000 := by decide +kernel
theorem r68_all : ∀ k, k < 47 → fz_vR 6 k = 0 ∧ fz_vR 8 k = 0 := by decide +kernel
theorem kf_all : ∀ i, i < 40 → lay_K (40 + 9 * i) = 2 ∧ lay_K (37 + 9 * i) = 3 ∧ fz_vR (40 + 9 * i) 1 = 37 + 9 * i + 2 ∧ fz_vR 3 i = 40 + 9 * i + 2 ∧ fz_vI (37 + 9 * i) 2 = 0 := by decide +kernel
theorem mo_all : ∀ e ∈ mo_L, fz_vR 405 e.1 = 405 + e.2.1 + 2 ∧ lay_N (405 + e.2.1) = e.2.2 ∧ 405 + e.2.1 < 432 := by decide +kernel
theorem mk_all : ∀ j, j < 26 → 1 ≤ j → lay_K (405 + j) = 13 ∨ lay_K (405 + j) = 14 := by decide +kernel
theorem nn_hi {kd k : Nat} (hk : 7 ≤ k) : nn kd k = false := by
  unfold nn
  split <;> first | rfl | (exfalso; omega)
theorem bz_hi {kd k : Nat} (hk : 48 ≤ k) : bz kd k = false := by
  unfold bz
  split <;> first | rfl | (exfalso; omega)
theorem nn_0 {k : Nat} : nn 0 k = false := by
  unfold nn
  split <;> first | rfl | (exfalso; omega)
theorem bz_0 {k : Nat} : bz 0 k = false := by
  unfold bz
  split <;> first | rfl | (exfalso; omega)
theorem ty_0 {k : Nat} : ty_r 0 k = 0 := by
  show ty_f 0 k = 0
  unfold ty_f
  split <;> first | rfl | (exfalso; omega)
def cS (b : Nat) : CP := (fun i => b + (40 + 9 * i), fun i => b + (37 + 9 * i), b + 3, b + 0, b + 4)
section START
variable {b t : Nat} {σ : sx_T} {g : gx_T}
theorem fz_a (h : fz_P b t σ) {a : Nat} (ha : sx_K σ a ≠ 0) : ∃ o, o < 432 ∧ a = b + o ∧ sx_K σ a = lay_K o := by
  have hz := h.1
  have h1 : ¬ (a < b ∨ sx_Z σ ≤ a) := fun q => ha (h.2.2.2 a q)
  refine ⟨a - b, by omega, by omega, ?_⟩
  have := (h.2.1 (a - b) (by omega)).1
  rw [show b + (a - b) = a by omega] at this
  exact this
theorem fz_k (h : fz_P b t σ) {a kd : Nat} (ha : sx_K σ a = kd) (h0 : kd ≠ 0) : ∃ o, o < 432 ∧ a = b + o ∧ lay_K o = kd := by
  obtain ⟨o, h1, h2, h3⟩ := fz_a h (a := a) (by rw [ha]; exact h0)
  exact ⟨o, h1, h2, h3.symm.trans ha⟩
theorem rd_s {n r : Nat} (h : rd_ b t n = some r) : (n = 1 ∧ r = t) ∨ ∃ q, n = q + 2 ∧ r = b + q := by
  match n, h with
  | 1, h => exact Or.inl ⟨rfl, (Option.some.inj h).symm⟩
  | q + 2, h => exact Or.inr ⟨q, rfl, (Option.some.inj h).symm⟩
theorem fz_Rr (h : fz_P b t σ) {o : Nat} (ho : o < 432) (k : Nat) : sx_R σ (b + o) k = rd_ b t (fz_vR o k) := (h.2.1 o ho).2.2.2.2 k
theorem fz_ty (h : fz_P b t σ) : ∀ a k r, ty_r (sx_K σ a) k ≠ 0 → sx_R σ a k = some r → sx_K σ r = ty_r (sx_K σ a) k := by
  intro a k r h0 hr
  obtain ⟨o, ho, rfl, hk⟩ := fz_a h (a := a) (fun e => by rw [e, ty_0] at h0; exact h0 rfl)
  rw [fz_Rr h (o := o) ho k] at hr
  rw [hk] at h0 ⊢
  by_cases hk47 : k < 47
  · have e := tyB_all o ho k hk47
    unfold tyB at e
    rw [beq_f h0, cond_false] at e
    rcases rd_s hr with ⟨q, -⟩ | ⟨q, e2, rfl⟩
    · rw [q] at e
      cases e
    · rw [e2] at e
      have e : (Nat.blt q 432 && Nat.beq (lay_K q) (ty_r (lay_K o) k)) = true := e
      rw [Bool.and_eq_true] at e
      rw [(h.2.1 q (Nat.le_of_ble_eq_true e.1)).1]
      exact Nat.eq_of_beq_eq_true e.2
  · rw [fzR_hi (by omega)] at hr
    cases hr
theorem fz_ww (h : fz_P b t σ) : WW σ := by
  refine ⟨fun a k hn => ?_, fz_ty h, fun a ha => ?_⟩
  · obtain ⟨o, ho, rfl, hk⟩ := fz_a h (a := a) (fun e => by rw [e, nn_0] at hn; cases hn)
    rw [hk] at hn
    have hk7 : k < 7 := Classical.byContradiction fun q => by rw [nn_hi (by omega)] at hn; cases hn
    have e := nnB_all o ho k hk7 hn
    rw [fz_Rr h (o := o) ho k]
    match fz_vR o k, e with
    | 0, e => exact absurd rfl e
    | 1, _ => exact ⟨t, rfl⟩
    | n + 2, _ => exact ⟨b + n, rfl⟩
  · obtain ⟨o, ho, rfl, hk⟩ := fz_a h ha
    rw [(h.2.1 o ho).2.1]
    exact (k9_all o ho).2
theorem fz_ts (h : fz_P b t σ) (hb : gx_b g = b) (ht : gx_e g = t) (htb : t < b) : TS g σ := by
  refine ⟨fz_ty h, fun a k hz => ?_, fun a ha => ?_, fun a r ha hr => ?_, ?_, by omega⟩
  · obtain ⟨o, ho, rfl, hk⟩ := fz_a h (a := a) (fun e => by rw [e, bz_0] at hz; cases hz)
    rw [hk] at hz
    have hk48 : k < 48 := Classical.byContradiction fun q => by rw [bz_hi (by omega)] at hz; cases hz
    left
    rw [(h.2.1 o ho).2.2.1 k]
    exact bzB_all o ho k hk48 hz
  · obtain ⟨o, ho, rfl, hk⟩ := fz_a h ha
    have := h.1
    omega
  · obtain ⟨o, ho, rfl, hk⟩ := fz_k h ha (by decide)
    rw [fz_Rr h (o := o) ho 1, k1_all o ho hk] at hr
    right
    rw [ht]
    exact (Option.some.inj hr).symm
  · have := h.1
    omega
theorem fz_I0 (h : fz_P b t σ) {o k : Nat} (ho : o < 432) (hv : fz_vI o k = 0) : sx_I σ (b + o) k = 0 := ((h.2.1 o ho).2.2.1 k).trans hv
theorem fz_Rn (h : fz_P b t σ) {o k n : Nat} (ho : o < 432) (hv : fz_vR o k = n + 2) : sx_R σ (b + o) k = some (b + n) := by
  rw [fz_Rr h (o := o) ho k, hv]
  rfl
theorem fz_gi (h : fz_P b t σ) (htb : t < b) : GI (cS b) 0 σ := by
  have nF0 : nF (cS b) σ = 0 := by
    show (sx_I σ (b + 0) 7).toInt = 0
    rw [fz_I0 h (by decide) (show fz_vI 0 7 = 0 by decide +kernel)]
    rfl
  have hx0 : ∀ i, i < 40 → (sx_I σ (b + (37 + 9 * i)) 2).toInt = 0 := fun i hi => by
    rw [fz_I0 h (by omega) (kf_all i hi).2.2.2.2]
    rfl
  have nT0 : nT (cS b) σ = 0 := by
    show (sx_I σ (b + 4) 2).toInt = 0
    rw [fz_I0 h (by decide) (show fz_vI 4 2 = 0 by decide +kernel)]
    rfl
  have nE0 : nE (cS b) σ = 0 := by
    have e : ∀ n, sumC (fun _ => 0) n = 0 := by
      intro n
      induction n with
      | zero => rfl
      | succ n ih => show sumC (fun _ => 0) n + 0 = 0; rw [ih]; rfl
    rw [← e 40]
    exact sumC_e 40 (fun i hi => hx0 i hi)
  have hz := h.1
  have Kt : sx_K σ t = 0 := h.2.2.2 t (Or.inl htb)
  have wR : sx_R σ (b + 4) 1 = some t := by
    rw [fz_Rr h (o := 4) (by decide) 1, show fz_vR 4 1 = 1 by decide +kernel]
    rfl
  refine ⟨fz_ww h, fun a ha => ?_, (h.2.1 0 (by decide)).1, fun x x' p hx hx' hp hp' => ?_, fun x x' a hx hx' ha ha' => ?_, fun x p hx hp => ?_, fun x hx => ?_, fun x a hx ha => ?_, fun i j hi hj e => ?_, fun i hi => ?_, fun f hf => ?_, ⟨fz_Rn h (by decide) (show fz_vR 0 2 = 3 + 2 by decide +kernel), (h.2.1 3 (by decide)).1, (h.2.1 3 (by decide)).2.1, fz_Rn h (by decide) (show fz_vR 0 3 = 4 + 2 by decide +kernel), (h.2.1 4 (by decide)).1⟩, by rw [nF0]; decide, fun i hi _ => hx0 i hi, fun x a hx ha => ?_, fun x f hx hf => ?_, ⟨t, wR, Or.inr Kt, by omega, by rw [nT0]; exact Int.le_refl _, ?_, ?_⟩, by rw [nT0, nE0, nF0]; decide⟩
  · obtain ⟨o, ho, rfl, hk⟩ := fz_a h ha
    omega
  · obtain ⟨o, ho, rfl, hk⟩ := fz_k h hx (by decide)
    obtain ⟨o', ho', rfl, hk'⟩ := fz_k h hx' (by decide)
    have q := k7_all o ho hk
    have q' := k7_all o' ho' hk'
    rw [fz_Rr h (o := o) ho 0, q.1] at hp
    rw [fz_Rr h (o := o') ho' 0, q'.1] at hp'
    rcases rd_s hp with ⟨e, -⟩ | ⟨n, e, rfl⟩
    · split at e <;> omega
    · rcases rd_s hp' with ⟨e', -⟩ | ⟨n', e', e2⟩
      · split at e' <;> omega
      · split at e <;> split at e' <;> omega
  · obtain ⟨o, ho, rfl, hk⟩ := fz_k h hx (by decide)
    obtain ⟨o', ho', rfl, hk'⟩ := fz_k h hx' (by decide)
    rw [fz_Rr h (o := o) ho 0, (k3_all o ho hk).1] at ha
    rw [fz_Rr h (o := o') ho' 0, (k3_all o' ho' hk').1] at ha'
    rcases rd_s ha with ⟨e, -⟩ | ⟨n, e, rfl⟩
    · omega
    · rcases rd_s ha' with ⟨e', -⟩ | ⟨n', e', e2⟩
      · omega
      · omega
  · obtain ⟨o, ho, rfl, hk⟩ := fz_k h hx (by decide)
    have hkp := (fz_ww h).2.1 (b + o) 0 p (by rw [hx]; decide) hp
    rw [hx] at hkp
    obtain ⟨o', ho', rfl, hk'⟩ := fz_k h (kd := 5) hkp (by decide)
    have q := k7_all o ho hk
    unfold RI
    rw [fz_I0 h ho' (k5_all o' ho' hk'), fz_I0 h ho q.2.2.1, fz_I0 h ho q.2.2.2.1, fz_I0 h ho q.2.2.2.2.1, fz_I0 h ho q.2.2.2.2.2.1, fz_I0 h ho q.2.2.2.2.2.2.1, fz_I0 h ho q.2.2.2.2.2.2.2.1, fz_I0 h ho q.2.2.2.2.2.2.2.2, l_0]
    unfold RIz
    omega
  · obtain ⟨o, ho, rfl, hk⟩ := fz_k h hx (by decide)
    have q := k3_all o ho hk
    rw [fz_I0 h ho q.2.2.2.2.2, l_0]
    refine ⟨fun a ha y h1 h2 => ?_, by decide, by decide⟩
    rw [fz_I0 h ho q.2.2.2.2.2, l_0] at h2
    omega
  · obtain ⟨o, ho, rfl, hk⟩ := fz_k h hx (by decide)
    have q := k3_all o ho hk
    rcases ha with ha | ha
    · rw [fz_Rr h (o := o) ho 0, q.1] at ha
      rcases rd_s ha with ⟨e, -⟩ | ⟨n, e, rfl⟩
      · omega
      · have : n = o + 1 := by omega
        rw [this, (h.2.1 (o + 1) (by omega)).2.1]
        exact q.2.2.1
    · rw [fz_Rr h (o := o) ho 1, q.2.1] at ha
      rcases rd_s ha with ⟨e, -⟩ | ⟨n, e, rfl⟩
      · omega
      · have : n = o + 2 := by omega
        rw [this, (h.2.1 (o + 2) (by omega)).2.1]
        exact q.2.2.2.1
  · have e : b + (37 + 9 * i) = b + (37 + 9 * j) := e
    omega
  · have q := kf_all i hi
    exact ⟨(h.2.1 _ (by omega)).1.trans q.1, (h.2.1 _ (by omega)).1.trans q.2.1, fz_Rn h (by omega) q.2.2.1, fz_Rn h (by decide) q.2.2.2.1⟩
  · obtain ⟨o, ho, rfl, hk⟩ := fz_k h hf (by decide)
    have q := k2_all o ho hk
    refine ⟨(o - 40) / 9, by omega, ?_⟩
    show b + o = b + (40 + 9 * ((o - 40) / 9))
    omega
  · obtain ⟨o, ho, rfl, hk⟩ := fz_k h hx (by decide)
    have q := k4_all o ho hk
    rw [fz_Rr h (o := o) ho 0, q.1] at ha
    rcases rd_s ha with ⟨e, -⟩ | ⟨n, e, rfl⟩
    · omega
    · have en : n = 6 ∨ n = 8 := by omega
      refine ⟨fun e3 => ?_, fun k f hf => ?_⟩
      · have e3 : b + n = b + 3 := e3
        omega
      · exfalso
        rw [fz_Rr h (o := n) (by omega) k] at hf
        have z : fz_vR n k = 0 := by
          by_cases hk47 : k < 47
          · rcases en with rfl | rfl
            · exact (r68_all k hk47).1
            · exact (r68_all k hk47).2
          · exact fzR_hi (by omega)
        rw [z] at hf
        cases hf
  · obtain ⟨o, ho, rfl, hk⟩ := fz_k h hx (by decide)
    exact absurd hk (k9_all o ho).1
  · have e : nL (cS b) σ = 0 := by
      unfold nL
      show (match sx_R σ (b + 4) 1 with | some e => (lenE σ e : Int) | none => 0) = 0
      rw [wR]
      show ((lenE σ t : Nat) : Int) = 0
      unfold lenE
      rw [Kt, if_neg (by decide)]
      rfl
    rw [nT0, e]
    exact Int.le_refl _
  · have e : nL (cS b) σ = 0 := by
      unfold nL
      show (match sx_R σ (b + 4) 1 with | some e => (lenE σ e : Int) | none => 0) = 0
      rw [wR]
      show ((lenE σ t : Nat) : Int) = 0
      unfold lenE
      rw [Kt, if_neg (by decide)]
      rfl
    rw [nT0, e]
    decide
theorem fz_mg (h : fz_P b t σ) : MG (b + 405) σ := by
  have hj : ∀ j k, 1 ≤ j → j ≤ 25 → sx_I σ (b + 405 + j) k = 0 := fun j k h1 h2 => by
    rw [Nat.add_assoc]
    exact fz_I0 h (by omega) (fzI_m (by omega))
  have hm : ∀ k, k ≠ 2 → sx_I σ (b + 405) k = 0 := fun k hk => fz_I0 h (by decide) (fzI_405 hk)
  have hE : ∀ w, mE (b + 405) σ w = 0 := fun w => by unfold mE; rw [hj 8 w (by decide) (by decide)]; rfl
  have hW : mW (b + 405) σ = 0 := by unfold mW; rw [hm 6 (by decide)]; rfl
  have hT : mT (b + 405) σ = 0 := by unfold mT; rw [hm 16 (by decide)]; rfl
  refine ⟨⟨fun k j n hk => ?_, by rw [hW]; decide, fun w hw => ?_, fun w hw => ?_, fun w _ _ => hE w, ⟨Int.le_refl _, by rw [hT]; exact Int.le_refl _, ?_⟩, fun x hx => ?_, fun k hk => ?_⟩, fun w hw => ?_⟩
  · have q := mo_all _ hk
    have q1 : fz_vR 405 k = 405 + j + 2 := q.1
    have q2 : lay_N (405 + j) = n := q.2.1
    have q3 : 405 + j < 432 := q.2.2
    rw [Nat.add_assoc]
    exact ⟨fz_Rn h (by decide) q1, (h.2.1 (405 + j) q3).2.1.trans q2⟩
  · unfold PW
    rw [hE, hj 4 w (by decide) (by decide), hj 5 w (by decide) (by decide)]
    refine ⟨by decide, by decide, by decide, fun k hk => ?_, by show (0 : Int) ≤ 30; decide, by show (0 : Int) ≤ 20; decide⟩
    omega
  · rw [hW] at hw
    omega
  · rw [hT, hW]
    exact Int.le_refl _
  · rw [hT] at hx
    omega
  · rw [hj 2 k (by decide) (by decide), hj 1 k (by decide) (by decide)]
    decide
  · rw [hW] at hw
    omega
/-- the model's cells, of which the class knows nothing -/
def MS (m : Nat) (σ : sx_T) : Prop := sx_K σ m = 11 ∧ ∀ j, 1 ≤ j → j ≤ 25 → (sx_K σ (m + j) = 13 ∨ sx_K σ (m + j) = 14) ∧ ¬ CO σ (m + j)
theorem fz_ms (h : fz_P b t σ) (htb : t < b) : MS (b + 405) σ := by
  refine ⟨(h.2.1 405 (by decide)).1, fun j h1 h2 => ?_⟩
  rw [Nat.add_assoc, (h.2.1 (405 + j) (by omega)).1]
  refine ⟨mk_all j (by omega) h1, ?_⟩
  rintro ⟨a, k, q1, q2, q3⟩
  obtain ⟨o, ho, rfl, hk⟩ := fz_a h q1
  rw [fz_Rr h (o := o) ho k] at q3
  by_cases hk47 : k < 47
  · rcases coB_all o ho k hk47 with e | e
    · exact q2 (hk.trans e)
    · rcases rd_s q3 with ⟨-, e2⟩ | ⟨n, e2, e3⟩
      · omega
      · omega
  · rw [fzR_hi (by omega)] at q3
    cases q3
end START
