/-! which exceptions come -/
def EI {α : Type} (P : String → Prop) (x : Option (Sum α String × sx_T)) : Prop := ∀ E u, x = some (.inr E, u) → P E
section EIS
variable {α β : Type} {P : String → Prop} {a b : Option (Sum α String × sx_T)} {u : sx_T}
theorem ei_n : EI P (none : Option (Sum α String × sx_T)) := fun _ _ h => nomatch h
theorem ei_l {r : α} : EI P (some (Sum.inl r, u)) := fun _ _ h => nomatch h
theorem ei_r {E : String} (h : P E) : EI P (some ((Sum.inr E : Sum α String), u)) := fun E' u' h' => by cases h'; exact h
theorem ei_ite {c : Prop} [Decidable c] (h1 : EI P a) (h2 : EI P b) : EI P (if c then a else b) := by
  by_cases h : c
  · rw [if_pos h]; exact h1
  · rw [if_neg h]; exact h2
theorem ei_br {x : Option β} {k : β → Option (Sum α String × sx_T)} (h : ∀ r, EI P (k r)) : EI P (br x k) := by
  cases x with
  | none => exact ei_n
  | some r => exact h r
theorem ei_bd {x : Option (β × sx_T)} {k : β → sx_T → Option (Sum α String × sx_T)} (h : ∀ r v, EI P (k r v)) : EI P (bd x k) := by
  cases x with
  | none => exact ei_n
  | some r => exact h r.1 r.2
theorem ei_bq {x : Option Nat} {k : Nat → Option (Sum α String × sx_T)} (h : ∀ r, EI P (k r)) : EI P (bq x k) := by
  cases x with
  | none => exact ei_n
  | some r => exact h r
theorem ei_oc {x : Option Nat} {k : Nat → Option (Sum α String × sx_T)} (h1 : EI P a) (h : ∀ r, EI P (k r)) : EI P (oc x a k) := by
  cases x with
  | none => exact h1
  | some r => exact h r
theorem ei_qv {x : Option Nat} {k : Option Nat → Option (Sum α String × sx_T)} (h : EI P (k x)) : EI P (qv x k) := h
theorem ei_ck {i : Int32} {n : Nat} (h : EI P a) : EI P (ck i n a) := by
  unfold ck
  split
  · exact h
  · exact ei_n
end EIS
theorem ei_set_72 {n0 : Nat} : ∀ (n : Nat) (σ : sx_T) (t : Nat) (v : Option Nat) (x : Int32), EI (fun E => E = "java/lang/IndexOutOfBoundsException" ∨ E = "java/lang/IllegalArgumentException") (fl_X8_set_72 n0 n σ t v x) := by
  intro n
  induction n with
  | zero => intros; exact ei_n
  | succ n ih =>
    intro σ t v x
    unfold fl_X8_set_72
    repeat' (first | exact ei_l | exact ei_n | refine ei_ite ?_ ?_ | refine ei_br (fun _ => ?_) | refine ei_bd (fun _ _ => ?_) | refine ei_oc ?_ (fun _ => ?_) | refine ei_qv ?_ | refine ei_bq (fun _ => ?_) | refine ei_ck ?_ | exact ei_r rfl | exact ei_r (Or.inl rfl) | exact ei_r (Or.inr rfl) | exact ei_r (Or.inr (Or.inl rfl)) | exact ei_r (Or.inr (Or.inr rfl)) | exact ih _ _ _ _)
theorem ei_check_93 {n0 : Nat} : ∀ (n : Nat) (σ : sx_T) (t : Nat) (x2 : Int32) (v6 : Option Nat) (x7 : Int32) (x8 : Int32) (x9 : Int32) (x10 : Int32) (x11 : Int32), EI (fun E => E = "java/lang/IndexOutOfBoundsException" ∨ E = "java/lang/IllegalArgumentException") (fl_X8_check_93 n0 n σ t x2 v6 x7 x8 x9 x10 x11) := by
  intro n
  induction n with
  | zero => intros; exact ei_n
  | succ n ih =>
    intro σ t x2 v6 x7 x8 x9 x10 x11
    unfold fl_X8_check_93
    repeat' (first | exact ei_l | exact ei_n | refine ei_ite ?_ ?_ | refine ei_br (fun _ => ?_) | refine ei_bd (fun _ _ => ?_) | refine ei_oc ?_ (fun _ => ?_) | refine ei_qv ?_ | refine ei_bq (fun _ => ?_) | refine ei_ck ?_ | exact ei_r rfl | exact ei_r (Or.inl rfl) | exact ei_r (Or.inr rfl) | exact ei_r (Or.inr (Or.inl rfl)) | exact ei_r (Or.inr (Or.inr rfl)) | exact ih _ _ _ _ _ _ _ _ _)
theorem ei_reset_95 {n0 : Nat} : ∀ (n : Nat) (σ : sx_T) (t : Nat) (v3 : Option Nat) (v4 : Option Nat) (x5 : Int32), EI (fun E => E = "java/lang/IndexOutOfBoundsException" ∨ E = "java/lang/IllegalArgumentException" ∨ E = "java/lang/IllegalStateException") (fl_X8_reset_95 n0 n σ t v3 v4 x5) := by
  intro n
  induction n with
  | zero => intros; exact ei_n
  | succ n ih =>
    intro σ t v3 v4 x5
    unfold fl_X8_reset_95
    repeat' (first | exact ei_l | exact ei_n | refine ei_ite ?_ ?_ | refine ei_br (fun _ => ?_) | refine ei_bd (fun _ _ => ?_) | refine ei_oc ?_ (fun _ => ?_) | refine ei_qv ?_ | refine ei_bq (fun _ => ?_) | refine ei_ck ?_ | exact ei_r rfl | exact ei_r (Or.inl rfl) | exact ei_r (Or.inr rfl) | exact ei_r (Or.inr (Or.inl rfl)) | exact ei_r (Or.inr (Or.inr rfl)) | exact ih _ _ _ _ _)
theorem ei_tick_23 {n0 : Nat} : ∀ (n : Nat) (σ : sx_T) (t : Nat) (x1 : Int32) (x2 : Int32), EI (fun E => E = "java/lang/IllegalArgumentException") (fl_X8_tick_23 n0 n σ t x1 x2) := by
  intro n
  induction n with
  | zero => intros; exact ei_n
  | succ n ih =>
    intro σ t x1 x2
    unfold fl_X8_tick_23
    repeat' (first | exact ei_l | exact ei_n | refine ei_ite ?_ ?_ | refine ei_br (fun _ => ?_) | refine ei_bd (fun _ _ => ?_) | refine ei_oc ?_ (fun _ => ?_) | refine ei_qv ?_ | refine ei_bq (fun _ => ?_) | refine ei_ck ?_ | exact ei_r rfl | exact ei_r (Or.inl rfl) | exact ei_r (Or.inr rfl) | exact ei_r (Or.inr (Or.inl rfl)) | exact ei_r (Or.inr (Or.inr rfl)) | exact ih _ _ _ _)
theorem ei_set {n0 : Nat} {σ : sx_T} {t : Nat} {x1 : Int32} {x2 : Int32} {x3 : Int32} {x4 : Int32} {x5 : Int32} : EI (fun E => E = "java/lang/IndexOutOfBoundsException" ∨ E = "java/lang/IllegalArgumentException") (f_X8_set n0 σ t x1 x2 x3 x4 x5) := by
  unfold f_X8_set fb_X8_set_21
  repeat' (first | exact ei_l | exact ei_n | refine ei_ite ?_ ?_ | refine ei_br (fun _ => ?_) | refine ei_bd (fun _ _ => ?_) | refine ei_oc ?_ (fun _ => ?_) | refine ei_qv ?_ | refine ei_bq (fun _ => ?_) | refine ei_ck ?_ | exact ei_r rfl | exact ei_r (Or.inl rfl) | exact ei_r (Or.inr rfl) | exact ei_r (Or.inr (Or.inl rfl)) | exact ei_r (Or.inr (Or.inr rfl)) | exact ei_set_72 _ _ _ _ _)
theorem ei_check {n0 : Nat} {σ : sx_T} {t : Nat} {x1 : Int32} {x2 : Int32} {x3 : Int32} {x4 : Int32} {x5 : Int32} : EI (fun E => E = "java/lang/IndexOutOfBoundsException" ∨ E = "java/lang/IllegalArgumentException") (f_X8_check n0 σ t x1 x2 x3 x4 x5) := by
  unfold f_X8_check fb_X8_check_21
  repeat' (first | exact ei_l | exact ei_n | refine ei_ite ?_ ?_ | refine ei_br (fun _ => ?_) | refine ei_bd (fun _ _ => ?_) | refine ei_oc ?_ (fun _ => ?_) | refine ei_qv ?_ | refine ei_bq (fun _ => ?_) | refine ei_ck ?_ | exact ei_r rfl | exact ei_r (Or.inl rfl) | exact ei_r (Or.inr rfl) | exact ei_r (Or.inr (Or.inl rfl)) | exact ei_r (Or.inr (Or.inr rfl)) | exact ei_check_93 _ _ _ _ _ _ _ _ _ _)
theorem ei_start {n0 : Nat} {σ : sx_T} {t : Nat} {x1 : Int32} {x2 : Int32} : EI (fun E => E = "java/lang/IndexOutOfBoundsException" ∨ E = "java/lang/IllegalArgumentException" ∨ E = "java/lang/IllegalStateException") (f_X8_start n0 σ t x1 x2) := by
  unfold f_X8_start fb_X8_start_34
  repeat' (first | exact ei_l | exact ei_n | refine ei_ite ?_ ?_ | refine ei_br (fun _ => ?_) | refine ei_bd (fun _ _ => ?_) | refine ei_oc ?_ (fun _ => ?_) | refine ei_qv ?_ | refine ei_bq (fun _ => ?_) | refine ei_ck ?_ | exact ei_r rfl | exact ei_r (Or.inl rfl) | exact ei_r (Or.inr rfl) | exact ei_r (Or.inr (Or.inl rfl)) | exact ei_r (Or.inr (Or.inr rfl)))
theorem ei_signal {n0 : Nat} {σ : sx_T} {t : Nat} {x1 : Int32} {x2 : Int32} {x3 : Int32} : EI (fun E => E = "java/lang/IndexOutOfBoundsException" ∨ E = "java/lang/IllegalArgumentException") (f_X8_signal n0 σ t x1 x2 x3) := by
  unfold f_X8_signal fb_X8_signal_40
  repeat' (first | exact ei_l | exact ei_n | refine ei_ite ?_ ?_ | refine ei_br (fun _ => ?_) | refine ei_bd (fun _ _ => ?_) | refine ei_oc ?_ (fun _ => ?_) | refine ei_qv ?_ | refine ei_bq (fun _ => ?_) | refine ei_ck ?_ | exact ei_r rfl | exact ei_r (Or.inl rfl) | exact ei_r (Or.inr rfl) | exact ei_r (Or.inr (Or.inl rfl)) | exact ei_r (Or.inr (Or.inr rfl)))
theorem ei_cancel {n0 : Nat} {σ : sx_T} {t : Nat} {x1 : Int32} : EI (fun E => E = "java/lang/IndexOutOfBoundsException") (f_X8_cancel n0 σ t x1) := by
  unfold f_X8_cancel
  repeat' (first | exact ei_l | exact ei_n | refine ei_ite ?_ ?_ | refine ei_br (fun _ => ?_) | refine ei_bd (fun _ _ => ?_) | refine ei_oc ?_ (fun _ => ?_) | refine ei_qv ?_ | refine ei_bq (fun _ => ?_) | refine ei_ck ?_ | exact ei_r rfl | exact ei_r (Or.inl rfl) | exact ei_r (Or.inr rfl) | exact ei_r (Or.inr (Or.inl rfl)) | exact ei_r (Or.inr (Or.inr rfl)))
theorem ei_reset {n0 : Nat} {σ : sx_T} {t : Nat} {x1 : Int32} {x2 : Int32} : EI (fun E => E = "java/lang/IndexOutOfBoundsException" ∨ E = "java/lang/IllegalArgumentException" ∨ E = "java/lang/IllegalStateException") (f_X8_reset n0 σ t x1 x2) := by
  unfold f_X8_reset fb_X8_reset_69 fb_X8_reset_68 fb_X8_reset_33
  repeat' (first | exact ei_l | exact ei_n | refine ei_ite ?_ ?_ | refine ei_br (fun _ => ?_) | refine ei_bd (fun _ _ => ?_) | refine ei_oc ?_ (fun _ => ?_) | refine ei_qv ?_ | refine ei_bq (fun _ => ?_) | refine ei_ck ?_ | exact ei_r rfl | exact ei_r (Or.inl rfl) | exact ei_r (Or.inr rfl) | exact ei_r (Or.inr (Or.inl rfl)) | exact ei_r (Or.inr (Or.inr rfl)) | exact ei_reset_95 _ _ _ _ _ _)
theorem ei_complete {n0 : Nat} {σ : sx_T} {t : Nat} {x1 : Int32} {x2 : Int32} : EI (fun E => E = "java/lang/IllegalArgumentException") (f_X8_complete n0 σ t x1 x2) := by
  unfold f_X8_complete fb_X8_complete_14
  repeat' (first | exact ei_l | exact ei_n | refine ei_ite ?_ ?_ | refine ei_br (fun _ => ?_) | refine ei_bd (fun _ _ => ?_) | refine ei_oc ?_ (fun _ => ?_) | refine ei_qv ?_ | refine ei_bq (fun _ => ?_) | refine ei_ck ?_ | exact ei_r rfl | exact ei_r (Or.inl rfl) | exact ei_r (Or.inr rfl) | exact ei_r (Or.inr (Or.inl rfl)) | exact ei_r (Or.inr (Or.inr rfl)))
theorem ei_tick {n0 : Nat} {σ : sx_T} {t : Nat} {x1 : Int32} : EI (fun E => E = "java/lang/IllegalArgumentException") (f_X8_tick n0 σ t x1) := by
  unfold f_X8_tick fb_X8_tick_11
  repeat' (first | exact ei_l | exact ei_n | refine ei_ite ?_ ?_ | refine ei_br (fun _ => ?_) | refine ei_bd (fun _ _ => ?_) | refine ei_oc ?_ (fun _ => ?_) | refine ei_qv ?_ | refine ei_bq (fun _ => ?_) | refine ei_ck ?_ | exact ei_r rfl | exact ei_r (Or.inl rfl) | exact ei_r (Or.inr rfl) | exact ei_r (Or.inr (Or.inl rfl)) | exact ei_r (Or.inr (Or.inr rfl)) | exact ei_tick_23 _ _ _ _ _)
theorem ei_state {σ : sx_T} {t : Nat} {x1 : Int32} : EI (fun E => E = "java/lang/IndexOutOfBoundsException") (f_X8_state σ t x1) := by
  unfold f_X8_state
  repeat' (first | exact ei_l | exact ei_n | refine ei_ite ?_ ?_ | refine ei_br (fun _ => ?_) | refine ei_bd (fun _ _ => ?_) | refine ei_oc ?_ (fun _ => ?_) | refine ei_qv ?_ | refine ei_bq (fun _ => ?_) | refine ei_ck ?_ | exact ei_r rfl | exact ei_r (Or.inl rfl) | exact ei_r (Or.inr rfl) | exact ei_r (Or.inr (Or.inl rfl)) | exact ei_r (Or.inr (Or.inr rfl)))
theorem ei_about {n0 : Nat} {σ : sx_T} {t : Nat} {x1 : Int32} {x2 : Int32} : EI (fun E => E = "java/lang/IndexOutOfBoundsException" ∨ E = "java/lang/IllegalArgumentException" ∨ E = "java/lang/IllegalStateException") (f_X8_about n0 σ t x1 x2) := by
  unfold f_X8_about fb_X8_about_58
  repeat' (first | exact ei_l | exact ei_n | refine ei_ite ?_ ?_ | refine ei_br (fun _ => ?_) | refine ei_bd (fun _ _ => ?_) | refine ei_oc ?_ (fun _ => ?_) | refine ei_qv ?_ | refine ei_bq (fun _ => ?_) | refine ei_ck ?_ | exact ei_r rfl | exact ei_r (Or.inl rfl) | exact ei_r (Or.inr rfl) | exact ei_r (Or.inr (Or.inl rfl)) | exact ei_r (Or.inr (Or.inr rfl)))
theorem ei_aboutAnew {n0 : Nat} {σ : sx_T} {t : Nat} {x1 : Int32} {x2 : Int32} : EI (fun E => E = "java/lang/IndexOutOfBoundsException" ∨ E = "java/lang/IllegalArgumentException" ∨ E = "java/lang/IllegalStateException") (f_X8_aboutAnew n0 σ t x1 x2) := by
  unfold f_X8_aboutAnew
  repeat' (first | exact ei_l | exact ei_n | refine ei_ite ?_ ?_ | refine ei_br (fun _ => ?_) | refine ei_bd (fun _ _ => ?_) | refine ei_oc ?_ (fun _ => ?_) | refine ei_qv ?_ | refine ei_bq (fun _ => ?_) | refine ei_ck ?_ | exact ei_r rfl | exact ei_r (Or.inl rfl) | exact ei_r (Or.inr rfl) | exact ei_r (Or.inr (Or.inl rfl)) | exact ei_r (Or.inr (Or.inr rfl)))
theorem ei_parent {σ : sx_T} {t : Nat} {x1 : Int32} : EI (fun E => E = "java/lang/IndexOutOfBoundsException") (f_X8_parent σ t x1) := by
  unfold f_X8_parent
  repeat' (first | exact ei_l | exact ei_n | refine ei_ite ?_ ?_ | refine ei_br (fun _ => ?_) | refine ei_bd (fun _ _ => ?_) | refine ei_oc ?_ (fun _ => ?_) | refine ei_qv ?_ | refine ei_bq (fun _ => ?_) | refine ei_ck ?_ | exact ei_r rfl | exact ei_r (Or.inl rfl) | exact ei_r (Or.inr rfl) | exact ei_r (Or.inr (Or.inl rfl)) | exact ei_r (Or.inr (Or.inr rfl)))
theorem ei_events {σ : sx_T} {t : Nat} {x1 : Int32} : EI (fun E => E = "java/lang/IndexOutOfBoundsException") (f_X8_events σ t x1) := by
  unfold f_X8_events
  repeat' (first | exact ei_l | exact ei_n | refine ei_ite ?_ ?_ | refine ei_br (fun _ => ?_) | refine ei_bd (fun _ _ => ?_) | refine ei_oc ?_ (fun _ => ?_) | refine ei_qv ?_ | refine ei_bq (fun _ => ?_) | refine ei_ck ?_ | exact ei_r rfl | exact ei_r (Or.inl rfl) | exact ei_r (Or.inr rfl) | exact ei_r (Or.inr (Or.inl rfl)) | exact ei_r (Or.inr (Or.inr rfl)))
theorem ei_kind {σ : sx_T} {t : Nat} {x1 : Int32} {x2 : Int32} : EI (fun E => E = "java/lang/IndexOutOfBoundsException") (f_X8_kind σ t x1 x2) := by
  unfold f_X8_kind fb_X8_kind_24
  repeat' (first | exact ei_l | exact ei_n | refine ei_ite ?_ ?_ | refine ei_br (fun _ => ?_) | refine ei_bd (fun _ _ => ?_) | refine ei_oc ?_ (fun _ => ?_) | refine ei_qv ?_ | refine ei_bq (fun _ => ?_) | refine ei_ck ?_ | exact ei_r rfl | exact ei_r (Or.inl rfl) | exact ei_r (Or.inr rfl) | exact ei_r (Or.inr (Or.inl rfl)) | exact ei_r (Or.inr (Or.inr rfl)))
theorem ei_number {σ : sx_T} {t : Nat} {x1 : Int32} {x2 : Int32} : EI (fun E => E = "java/lang/IndexOutOfBoundsException") (f_X8_number σ t x1 x2) := by
  unfold f_X8_number fb_X8_number_24
  repeat' (first | exact ei_l | exact ei_n | refine ei_ite ?_ ?_ | refine ei_br (fun _ => ?_) | refine ei_bd (fun _ _ => ?_) | refine ei_oc ?_ (fun _ => ?_) | refine ei_qv ?_ | refine ei_bq (fun _ => ?_) | refine ei_ck ?_ | exact ei_r rfl | exact ei_r (Or.inl rfl) | exact ei_r (Or.inr rfl) | exact ei_r (Or.inr (Or.inl rfl)) | exact ei_r (Or.inr (Or.inr rfl)))
theorem ei_task {σ : sx_T} {t : Nat} {x1 : Int32} {x2 : Int32} : EI (fun E => E = "java/lang/IndexOutOfBoundsException" ∨ E = "java/lang/IllegalArgumentException") (f_X8_task σ t x1 x2) := by
  unfold f_X8_task
  repeat' (first | exact ei_l | exact ei_n | refine ei_ite ?_ ?_ | refine ei_br (fun _ => ?_) | refine ei_bd (fun _ _ => ?_) | refine ei_oc ?_ (fun _ => ?_) | refine ei_qv ?_ | refine ei_bq (fun _ => ?_) | refine ei_ck ?_ | exact ei_r rfl | exact ei_r (Or.inl rfl) | exact ei_r (Or.inr rfl) | exact ei_r (Or.inr (Or.inl rfl)) | exact ei_r (Or.inr (Or.inr rfl)))
/-! class and model side by side -/
theorem mi_e {m : Nat} {s : Int} {σ u : sx_T} (h : MI m s σ) (hR : ∀ k, sx_R u m k = sx_R σ m k) (hN : ∀ j, 1 ≤ j → j ≤ 25 → sx_N u (m + j) = sx_N σ (m + j)) (hI0 : ∀ k, sx_I u m k = sx_I σ m k) (hI : ∀ j, 1 ≤ j → j ≤ 25 → ∀ k, sx_I u (m + j) k = sx_I σ (m + j) k) : MI m s u := by
  have hW : mW m u = mW m σ := by unfold mW; rw [hI0]
  have hT : mT m u = mT m σ := by unfold mT; rw [hI0]
  have hE : ∀ w, mE m u w = mE m σ w := fun w => by unfold mE; rw [hI 8 (by decide) (by decide)]
  have hc : ∀ x w n, cn m u x w n = cn m σ x w n := fun x w n => cn_e n (fun k _ => hI 11 (by decide) (by decide) _)
  have hwt : wt m u = wt m σ := by funext w; unfold wt; rw [hE, hc, hc, hI 10 (by decide) (by decide)]
  have mo_j : ∀ e ∈ mo_L, 1 ≤ e.2.1 ∧ e.2.1 ≤ 25 := by decide
  refine ⟨fun k j n hk => ?_, by rw [hW]; exact h.wf, fun w hw => ?_, ?_, ?_, ?_, ?_, ?_⟩
  · have q := mo_j _ hk
    rw [hR, hN j q.1 q.2]
    exact h.st k j n hk
  · have := h.pw w hw
    unfold PW at this ⊢
    rw [hE, hc, hc, hI 4 (by decide) (by decide), hI 5 (by decide) (by decide)]
    refine ⟨this.1, this.2.1, this.2.2.1, fun k => ?_, this.2.2.2.2⟩
    rw [hI 11 (by decide) (by decide)]
    exact this.2.2.2.1 k
  · intro w hw
    rw [hW] at hw ⊢
    rw [hI 5 (by decide) (by decide)]
    exact h.pa w hw
  · intro w h1 h2
    rw [hW] at h2
    rw [hE]
    exact h.e0 w h1 h2
  · rw [hT, hW, hwt]; exact h.tk
  · intro t ht
    rw [hT] at ht
    rw [hW, hI 13 (by decide) (by decide)]
    exact h.ow t ht
  · intro k hk
    rw [hI 2 (by decide) (by decide), hI 1 (by decide) (by decide)]
    exact h.fi k hk
theorem mg_e {m : Nat} {σ u : sx_T} (h : MG m σ) (hR : ∀ k, sx_R u m k = sx_R σ m k) (hN : ∀ j, 1 ≤ j → j ≤ 25 → sx_N u (m + j) = sx_N σ (m + j)) (hI0 : ∀ k, sx_I u m k = sx_I σ m k) (hI : ∀ j, 1 ≤ j → j ≤ 25 → ∀ k, sx_I u (m + j) k = sx_I σ (m + j) k) : MG m u := by
  refine ⟨mi_e h.1 hR hN hI0 hI, fun w hw => ?_⟩
  have e6 : mW m u = mW m σ := by unfold mW; rw [hI0]
  rw [e6] at hw
  unfold mE
  rw [hI 8 (by decide) (by decide)]
  exact h.2 w hw
/-- the model's ints and longs don't touch the class -/
theorem gi_mo {A : Nat → Prop} {c : CP} {s : Int} {σ u : sx_T} (h : FA A σ u) (hg : GI c s σ) (hA : ∀ a, A a → MO σ a) : GI c s u ∧ nT c u = nT c σ ∧ nL c u = nL c σ := by
  have hf := h
  obtain ⟨h1, h2, h3, h4, h5, h6, h7⟩ := h
  have no : ∀ a kd, sx_K σ a = kd → kd ≠ 11 ∧ kd ≠ 13 ∧ kd ≠ 14 → ¬ A a := fun a kd q1 q2 q3 => k_mo q1 q2 (hA a q3)
  have hL : nF c u = nF c σ := by unfold nF; rw [h6 c.L (no _ 10 hg.kL (by decide)) 7]
  have hc : ∀ x, sx_K σ x = 3 → sx_I u x 2 = sx_I σ x 2 := fun x hx => h6 x (no x 3 hx (by decide)) 2
  have hw : nT c u = nT c σ := by unfold nT; rw [h6 c.w (no _ 1 hg.rf.2.2.2.2 (by decide)) 2]
  have hE : nE c u = nE c σ := sumC_e 40 (fun i hi => by show (sx_I u (c.hx i) 2).toInt = _; rw [hc _ (hg.kf i hi).2.1])
  have hop : ∀ f, OP c σ f → OP c u f := fun f => op_m (by omega)
  refine ⟨⟨ww_f hf hg.ww, ?_, ?_, ?_, ?_, ?_, ?_, ?_, hg.inj, ?_, ?_, ?_, by rw [hL]; exact hg.fc, ?_, ?_, ?_, ?_, ?_⟩, hw, fa_nL hf⟩
  · rw [h1, h4]; exact hg.zf
  · rw [h1]; exact hg.kL
  · rw [h1, h3]; exact hg.pi
  · rw [h1, h3]; exact hg.bi
  · intro t p ht hp
    rw [h1] at ht
    rw [h3] at hp
    have hkp := hg.ww.2.1 t 0 p (by rw [ht]; decide) hp
    rw [ht] at hkp
    exact ri_f hf (no t 7 ht (by decide)) (no p 5 hkp (by decide)) (hg.ra t p ht hp)
  · intro x hx
    rw [h1] at hx
    obtain ⟨q1, q2, q3⟩ := hg.ha x hx
    rw [hc x hx]
    refine ⟨hv_f hf (no x 3 hx (by decide)) (fun a ha e => ?_) q1, q2, q3⟩
    have h9 := hg.ww.2.1 x 0 a (by rw [hx]; decide) ha
    rw [hx] at h9
    exact no a 12 h9 (by decide) e
  · rw [h1, h2, h3]; exact hg.hn
  · rw [h1, h3]; exact hg.kf
  · rw [h1]; exact hg.af
  · rw [h1, h2, h3]; exact hg.rf
  · intro i hi hfi
    rw [hL] at hfi
    rw [hc _ (hg.kf i hi).2.1]
    exact hg.nz i hi hfi
  · rw [h1, h3]
    exact fun l a hl ha => ⟨(hg.la l a hl ha).1, fun k f hk => hop f ((hg.la l a hl ha).2 k f hk)⟩
  · rw [h1, h3]
    exact fun t f ht hr => hop f (hg.ta t f ht hr)
  · rw [h1, h3, h4, hw, fa_nL hf]; exact hg.wl
  · rw [hE, hL, hw]; exact hg.ws
theorem gi_z {c : CP} {s : Int} {σ : sx_T} {z : Nat} (hg : GI c s σ) (hz : sx_Z σ ≤ z) : GI c s (wx_Z σ z) := by
  obtain ⟨e, e1, e2, e3, e4, e5, e6⟩ := hg.wl
  exact ⟨hg.ww, fun a ha => Nat.lt_of_lt_of_le (hg.zf a ha) hz, hg.kL, hg.pi, hg.bi, hg.ra, hg.ha, hg.hn, hg.inj, hg.kf, hg.af, hg.rf, hg.fc, hg.nz, hg.la, hg.ta, ⟨e, e1, e2, Nat.lt_of_lt_of_le e3 hz, e4, e5, e6⟩, hg.ws⟩
theorem ts_z {g : gx_T} {σ : sx_T} {z : Nat} (h : TS g σ) (hz : sx_Z σ ≤ z) : TS g (wx_Z σ z) :=
  ⟨h.1, h.2.1, fun a ha => ⟨Nat.lt_of_lt_of_le (h.2.2.1 a ha).1 hz, (h.2.2.1 a ha).2⟩, h.2.2.2.1, Nat.le_trans h.2.2.2.2.1 hz, h.2.2.2.2.2⟩
section JOINT
variable {g : gx_T} {b : Nat} {σ u v : sx_T} {d e d' : Int32} {z : Nat}
def JD (g : gx_T) (b : Nat) (d : Int32) (σ : sx_T) : Prop := GI (cS b) 0 σ ∧ MG (b + 405) σ ∧ MS (b + 405) σ ∧ TS g σ ∧ sx_I σ (b + 0) 8 = sx_I σ (b + 405) 1 + d ∧ sx_K σ (b + 431) = 14 ∧ sx_N σ (b + 431) = 1 ∧ ¬ CO σ (b + 431)
def PC (b : Nat) (σ : sx_T) : Int := 2 * nT (cS b) σ
def PS (b : Nat) (σ : sx_T) : Int := 9 * nT (cS b) σ + 4 * nL (cS b) σ
theorem ms_mo (h : MS (b + 405) σ) : ∀ a, MC (b + 405) a → MO σ a := by
  intro a ha
  unfold MC at ha
  by_cases e : a = b + 405
  · rw [e]; exact Or.inl h.1
  · have q := h.2 (a - (b + 405)) (by omega) (by omega)
    rw [show b + 405 + (a - (b + 405)) = a by omega] at q
    exact Or.inr q
theorem pb (h : JD g b d σ) : 0 ≤ PC b σ ∧ PC b σ ≤ 11280 ∧ 0 ≤ PS b σ ∧ PS b σ ≤ 95920 := by
  obtain ⟨hg, -⟩ := h
  obtain ⟨e, -, -, -, e4, e5, e6⟩ := hg.wl
  have q1 := hg.ws
  have q2 := hg.fc
  have q3 : nE (cS b) σ ≤ (40 : Nat) * 140 := sumC_b 40 (fun i hi => (hg.ha _ (hg.kf i hi).2.1).2.2)
  unfold PC PS
  omega
theorem jd_c (h : JD g b d σ) (hg : GI (cS b) 0 u) (hr : GR (cS b) σ u) (hG : GG g σ u) (he : sx_I u (b + 0) 8 = sx_I σ (b + 0) 8 + e) : JD g b (d + e) u ∧ ((sx_Z u - sx_Z σ : Nat) : Int) ≤ PC b u - PC b σ ∧ ((sx_S u - sx_S σ : Nat) : Int) ≤ PS b u - PS b σ := by
  obtain ⟨q1, q2, q3, q4, q5, q6, q7, q8⟩ := h
  have mo := ms_mo q3
  have k0 : ∀ j, 1 ≤ j → j ≤ 25 → sx_K σ (b + 405 + j) ≠ 0 := fun j a c => by rcases (q3.2 j a c).1 with e | e <;> rw [e] <;> decide
  have z1 := hr.z1
  have z2 := hr.z2
  have ht := hG.2.2.2
  have hZ := hG.1
  have hS := hG.2.1
  have m0 : ∀ k, sx_I u (b + 405) k = sx_I σ (b + 405) k := fun k => (hr.mo _ (mo _ mc_0) k).1
  refine ⟨⟨hg, mg_e q2 (fun k => (hr.mo _ (mo _ mc_0) k).2.2) (fun j a c => (hr.kk _ (k0 j a c)).2) m0 (fun j a c k => (hr.mo _ (mo _ (mc_j c)) k).1), ⟨(hr.kk _ (by rw [q3.1]; decide)).1.trans q3.1, fun j a c => ?_⟩, ht, by rw [he, q5, m0, Int32.add_assoc], (hr.kk _ (by rw [q6]; decide)).1.trans q6, (hr.kk _ (by rw [q6]; decide)).2.trans q7, fun q => q8 (hr.cb _ (Or.inr q6) q)⟩, ?_, ?_⟩
  · rw [(hr.kk _ (k0 j a c)).1]
    exact ⟨(q3.2 j a c).1, fun q => (q3.2 j a c).2 (hr.cb _ (q3.2 j a c).1 q)⟩
  · unfold PC
    omega
  · unfold PS
    omega
theorem jd_m (h : JD g b d σ) (hm : MG (b + 405) u) (hf : FA (MC (b + 405)) σ u) (ht : TS g u) (he : sx_I u (b + 405) 1 = sx_I σ (b + 405) 1 + e) (hd : d = e + d') : JD g b d' u ∧ PC b u = PC b σ ∧ PS b u = PS b σ ∧ sx_Z u = sx_Z σ ∧ sx_S u = sx_S σ := by
  obtain ⟨q1, q2, q3, q4, q5, q6, q7, q8⟩ := h
  have mo := ms_mo q3
  obtain ⟨g1, g2, g3⟩ := gi_mo hf q1 mo
  have hK := hf.1
  have hc := fun a => fa_co (a := a) hf
  refine ⟨⟨g1, hm, ⟨by rw [hK]; exact q3.1, fun j a c => by rw [hK, hc]; exact q3.2 j a c⟩, ht, ?_, by rw [hK]; exact q6, by rw [hf.2.1]; exact q7, by rw [hc]; exact q8⟩, by unfold PC; rw [g2], by unfold PS; rw [g2, g3], hf.2.2.2.1, hf.2.2.2.2.1⟩
  rw [hf.2.2.2.2.2.1 (b + 0) (by unfold MC; omega) 8, q5, he, hd, Int32.add_assoc]
theorem jd_o {x : Int64} (h : JD g b d σ) : JD g b d (wx_J σ (b + 431) 0 x) ∧ PC b (wx_J σ (b + 431) 0 x) = PC b σ ∧ PS b (wx_J σ (b + 431) 0 x) = PS b σ := by
  obtain ⟨q1, q2, q3, q4, q5, q6, q7, q8⟩ := h
  have hf : FA (fun a => a = b + 431) σ (wx_J σ (b + 431) 0 x) := fa_J rfl
  obtain ⟨g1, g2, g3⟩ := gi_mo hf q1 (fun a ha => by rw [ha]; exact Or.inr ⟨Or.inr q6, q8⟩)
  exact ⟨⟨g1, mg_e q2 (fun _ => rfl) (fun _ _ _ => rfl) (fun _ => rfl) (fun _ _ _ _ => rfl), q3, TS_J q4, q5, q6, q7, q8⟩, by unfold PC; rw [g2], by unfold PS; rw [g2, g3]⟩
theorem jd_z (h : JD g b d σ) (hz : sx_Z σ ≤ z) : JD g b d (wx_Z σ z) := by
  obtain ⟨q1, q2, q3, q4, q5, q6, q7, q8⟩ := h
  exact ⟨gi_z q1 hz, mg_e q2 (fun _ => rfl) (fun _ _ _ => rfl) (fun _ => rfl) (fun _ _ _ _ => rfl), q3, ts_z q4 hz, q5, q6, q7, q8⟩
end JOINT

