/-! making cells, by kind -/
theorem xF_nI {cA : Nat → ClassId} {σ : sx_T} {kd n : Nat} (hk : kd = 12 ∨ kd = 13) : sx_F cA (wx_N σ kd n) (sx_Z σ) = .inl (cA kd, n, .inl (fun _ => 0)) := by
  have e1 : sx_N (wx_N σ kd n) (sx_Z σ) = n := if_pos rfl
  have e2 : sx_I (wx_N σ kd n) (sx_Z σ) = fun _ => 0 := funext fun _ => if_pos rfl
  have e0 : sx_K (wx_N σ kd n) (sx_Z σ) = kd := if_pos rfl
  rw [xF_i e0 hk, e1, e2]
theorem xF_nJ {cA : Nat → ClassId} {σ : sx_T} {n : Nat} : sx_F cA (wx_N σ 14 n) (sx_Z σ) = .inl (cA 14, n, .inr (.inl (fun _ => 0))) := by
  have e1 : sx_N (wx_N σ 14 n) (sx_Z σ) = n := if_pos rfl
  have e2 : sx_J (wx_N σ 14 n) (sx_Z σ) = fun _ => 0 := funext fun _ => if_pos rfl
  have e0 : sx_K (wx_N σ 14 n) (sx_Z σ) = 14 := if_pos rfl
  rw [xF_l e0, e1, e2]
def sx_d : Nat → Value
  | 0 => .int 0
  | 1 => .long 0
  | _ => .null
theorem sf_blank (σ : sx_T) (kd n : Nat) (l : List Nat) (j : Nat) (hj : j < l.length) : vp_V (sx_f (wx_N σ kd n) (sx_Z σ) l 0) j = sx_d (l.getD j 0) := by
  unfold vp_V
  rw [List.getD_eq_getElem?_getD, sf_get, List.getD_eq_getElem?_getD]
  obtain ⟨t, ht⟩ : ∃ t, l[j]? = some t := ⟨l[j], List.getElem?_eq_getElem hj⟩
  rw [ht]
  simp only [Option.map_some, Option.getD_some]
  match t with
  | 0 => simp [sx_v, sx_d, wx_N, sx_I]
  | 1 => simp [sx_v, sx_d, wx_N, sx_J]
  | t + 2 => simp [sx_v, sx_d, wx_N, sx_R, va_rf]
section ZMAKE
variable {p : Program} {l : Launch} {e : Env} {R : Room} {s : State} {m : MethodId} {args : Array Value} {below : List Frame} {meth : Method} {c : Code} {g : gx_T} {nL cells slots : Nat} {Q : State → Prop} {σ σ' : sx_T} {pc : Nat} {lv : List (Nat × Value)} {st : List Value} {cc : ByteArray} {own : String}
theorem z_newo (B : zx_B p s m args meth c cc own nL g) {ci N index a : Nat} {C : String} {T : u_T} {ty0 : Nat → FieldType} (hC : cx_ok ci C T N ty0) (hdf : ∀ j, j < N → defaultValue (ty0 j) = sx_d ((sx_s ci).getD j 0)) (hw : Cond.classLink own index C ∈ lw_g) (hcells : cells + 1 ≤ R.cells) (hslots : slots + N ≤ R.slots) (hd : decode cc pc = .ok (.new index, 3)) (hz : sx_Z σ = a) (hσ : wx_N σ (ci + 1) 0 = σ') (kk : zx p l e R s m args below meth c g nL (cells + 1) (slots + N) Q σ' (pc + 3) lv (.ref a :: st)) : zx p l e R s m args below meth c g nL cells slots Q σ pc lv st := by
  subst hσ
  subst hz
  exact z_new B hC hw (fun j hj => (hdf j hj).trans (sf_blank σ _ _ _ j (by rw [← hC.2.2.2.2.2.1]; exact hj)).symm) hcells hslots hd kk
theorem z_newI (B : zx_B p s m args meth c cc own nL g) {kd ti n a : Nat} {atype : ArrayType} {ty : FieldType} {v : Int32} (hk : (kd = 12 ∧ ti = 0 ∧ ty = .byte) ∨ (kd = 13 ∧ ti = 1 ∧ ty = .int)) (hty : newarray.typeOf atype = ty) (hw : Cond.arrayClass ty ∈ lw_g) (hn : ¬ v < 0) (hN : v.toNatClampNeg = n) (hbytes : n * componentBytes ty ≤ 536870912) (hcells : cells + 1 ≤ R.cells) (hslots : slots + n ≤ R.slots) (hd : decode cc pc = .ok (.newarray atype, 2)) (hz : sx_Z σ = a) (hσ : wx_N σ kd n = σ') (kk : zx p l e R s m args below meth c g nL (cells + 1) (slots + n) Q σ' (pc + 2) lv (.ref a :: st)) : zx p l e R s m args below meth c g nL cells slots Q σ pc lv (.int v :: st) := by
  subst hσ
  subst hz
  intro H locs ls hM hl
  obtain ⟨hx, hb, -, hown, hts, -, hkk, hbs⟩ := B
  subst hty
  refine va_newaK hx hb (hts _ hw) rfl hd rfl hn hN hbytes hcells hslots hM.1.1 fun H1 cA e1 z1 o1 hAr hNm => ?_
  rcases hk with ⟨rfl, rfl, hty⟩ | ⟨rfl, rfl, hty⟩
  · rw [hty] at e1 hNm
    have hA : gx_A g 12 = cA := Option.some.inj ((show s.vm.findClass ("[" ++ (FieldType.byte).toString) = some (gx_A g 12) from (hkk.1.2 0 _ rfl).2).symm.trans hNm)
    refine kk H1 locs ls (zm_new hM hbs (by decide) (e1 := .inl (gx_A g 12, n, .inl (fun _ => 0))) (fun b => by rw [← xF_nI (Or.inl rfl)]; exact xF_newA b) ?_ z1 o1) hl
    show H1[sx_Z σ]? = some (vp_cell _ _)
    rw [vp_cell_i, hA]
    exact e1
  · rw [hty] at e1 hNm
    have hA : gx_A g 13 = cA := Option.some.inj ((show s.vm.findClass ("[" ++ (FieldType.int).toString) = some (gx_A g 13) from (hkk.1.2 1 _ rfl).2).symm.trans hNm)
    refine kk H1 locs ls (zm_new hM hbs (by decide) (e1 := .inl (gx_A g 13, n, .inl (fun _ => 0))) (fun b => by rw [← xF_nI (Or.inr rfl)]; exact xF_newA b) ?_ z1 o1) hl
    show H1[sx_Z σ]? = some (vp_cell _ _)
    rw [vp_cell_i, hA]
    exact e1
theorem z_newJ (B : zx_B p s m args meth c cc own nL g) {n a : Nat} {atype : ArrayType} {v : Int32} (hty : newarray.typeOf atype = .long) (hw : Cond.arrayClass .long ∈ lw_g) (hn : ¬ v < 0) (hN : v.toNatClampNeg = n) (hbytes : n * componentBytes .long ≤ 536870912) (hcells : cells + 1 ≤ R.cells) (hslots : slots + n ≤ R.slots) (hd : decode cc pc = .ok (.newarray atype, 2)) (hz : sx_Z σ = a) (hσ : wx_N σ 14 n = σ') (kk : zx p l e R s m args below meth c g nL (cells + 1) (slots + n) Q σ' (pc + 2) lv (.ref a :: st)) : zx p l e R s m args below meth c g nL cells slots Q σ pc lv (.int v :: st) := by
  subst hσ
  subst hz
  intro H locs ls hM hl
  obtain ⟨hx, hb, -, hown, hts, -, hkk, hbs⟩ := B
  refine va_newaK hx hb (by rw [hty]; exact hts _ hw) rfl hd rfl hn hN (by rw [hty]; exact hbytes) hcells hslots hM.1.1 fun H1 cA e1 z1 o1 hAr hNm => ?_
  rw [hty] at e1 hNm
  have hA : gx_A g 14 = cA := Option.some.inj ((show s.vm.findClass ("[" ++ (FieldType.long).toString) = some (gx_A g 14) from (hkk.1.2 2 _ rfl).2).symm.trans hNm)
  refine kk H1 locs ls (zm_new hM hbs (by decide) (e1 := .inl (gx_A g 14, n, .inr (.inl (fun _ => 0)))) (fun b => by rw [← xF_nJ]; exact xF_newA b) ?_ z1 o1) hl
  show H1[sx_Z σ]? = some (vp_cell _ _)
  rw [vp_cell_l, hA]
  exact e1
theorem z_newQ (B : zx_B p s m args meth c cc own nL g) {kd ti n index a : Nat} {C : String} {v : Int32} (hw : Cond.classLink own index C ∈ lw_g) (ho : Cond.arrayOver (.object C) ∈ lw_n) (ht : (gx_t g)[ti]? = some (gx_A g kd, .object C)) (hkd : kd = 15 ∨ kd = 16 ∨ kd = 17) (hn : ¬ v < 0) (hN : v.toNatClampNeg = n) (hbytes : n * 4 ≤ 536870912) (hcells : cells + 1 ≤ R.cells) (hslots : slots + n ≤ R.slots) (hd : decode cc pc = .ok (.anewarray index, 3)) (hz : sx_Z σ = a) (hσ : wx_N σ kd n = σ') (kk : zx p l e R s m args below meth c g nL (cells + 1) (slots + n) Q σ' (pc + 3) lv (.ref a :: st)) : zx p l e R s m args below meth c g nL cells slots Q σ pc lv (.int v :: st) := by
  subst hσ
  subst hz
  exact z_newq B hw ho ht hkd hn hN hbytes hcells hslots hd kk
end ZMAKE
theorem nw_al {b c o kd n : Nat} {σ : sx_T} {ks : List (Nat × Nat)} {li : List (Nat × Nat × Int32)} {lj : List (Nat × Nat × Int64)} {lr : List (Nat × Nat × Option Nat)} (hz : sx_Z σ = b + c) (ho : o = c + ks.length) (h1 : li.all (fun e => decide (e.1 < o)) = true) (h2 : lj.all (fun e => decide (e.1 < o)) = true) (h3 : lr.all (fun e => decide (e.1 < o)) = true) : wx_N (ap b (al σ ks) li lj lr) kd n = ap b (al σ (ks ++ [(kd, n)])) li lj lr := by
  rw [nw_ap (by rw [al_Z, hz, ho]; omega) h1 h2 h3, al_snoc]
theorem ap_Z {b c o : Nat} {σ : sx_T} {ks : List (Nat × Nat)} {li : List (Nat × Nat × Int32)} {lj : List (Nat × Nat × Int64)} {lr : List (Nat × Nat × Option Nat)} (hz : sx_Z σ = b + c) (ho : o = c + ks.length) : sx_Z (ap b (al σ ks) li lj lr) = b + o := by
  show sx_Z (al σ ks) = b + o
  rw [al_Z, hz, ho]
  omega
theorem ct_ct {b c o : Nat} {σ : sx_T} {ks ks' : List (Nat × Nat)} {li LI : List (Nat × Nat × Int32)} {lj LJ : List (Nat × Nat × Int64)} {lr LR : List (Nat × Nat × Option Nat)} (hz : sx_Z σ = b + c) (ho : o = c + ks.length) (h1 : LI.all (fun e => decide (e.1 < o)) = true) (h2 : LJ.all (fun e => decide (e.1 < o)) = true) (h3 : LR.all (fun e => decide (e.1 < o)) = true) : ap b (al (ap b (al σ ks) LI LJ LR) ks') li lj lr = ap b (al σ (ks ++ ks')) (li ++ LI) (lj ++ LJ) (lr ++ LR) := by
  rw [al_ap ks' o (by rw [al_Z, hz, ho]; omega) h1 h2 h3, ap_ap, al_app]
/-- old cells, under new ones and written places that lie behind them -/
theorem lk_lo {α : Type} {b : Nat} {f : Nat → Nat → α} {a k : Nat} (h : a < b) : ∀ l : List (Nat × Nat × α), lk b l f a k = f a k
  | [] => rfl
  | (o, j, x) :: t => by
    show (if a = b + o ∧ k = j then x else lk b t f a k) = f a k
    rw [if_neg (fun q => by have := q.1; omega)]
    exact lk_lo h t
theorem wI_ap {b o k : Nat} {τ : sx_T} {li : List (Nat × Nat × Int32)} {lj : List (Nat × Nat × Int64)} {lr : List (Nat × Nat × Option Nat)} {x : Int32} : wx_I (ap b τ li lj lr) (b + o) k x = ap b τ ((o, k, x) :: li) lj lr := rfl
theorem wI_ap2 {b o k : Nat} {τ : sx_T} {li : List (Nat × Nat × Int32)} {lj : List (Nat × Nat × Int64)} {lr : List (Nat × Nat × Option Nat)} {x y : Int32} (h : y = x) : wx_I (ap b τ li lj lr) (b + o) k y = ap b τ ((o, k, x) :: li) lj lr := by subst h; rfl
theorem wJ_ap {b o k : Nat} {τ : sx_T} {li : List (Nat × Nat × Int32)} {lj : List (Nat × Nat × Int64)} {lr : List (Nat × Nat × Option Nat)} {x : Int64} : wx_J (ap b τ li lj lr) (b + o) k x = ap b τ li ((o, k, x) :: lj) lr := rfl
theorem wR_ap {b o k : Nat} {τ : sx_T} {li : List (Nat × Nat × Int32)} {lj : List (Nat × Nat × Int64)} {lr : List (Nat × Nat × Option Nat)} {x : Option Nat} : wx_R (ap b τ li lj lr) (b + o) k x = ap b τ li lj ((o, k, x) :: lr) := rfl
theorem apK {b a k : Nat} {τ : sx_T} {li : List (Nat × Nat × Int32)} {lj : List (Nat × Nat × Int64)} {lr : List (Nat × Nat × Option Nat)} (h : sx_K τ a = k) : sx_K (ap b τ li lj lr) a = k := h
theorem apN {b a k : Nat} {τ : sx_T} {li : List (Nat × Nat × Int32)} {lj : List (Nat × Nat × Int64)} {lr : List (Nat × Nat × Option Nat)} (h : sx_N τ a = k) : sx_N (ap b τ li lj lr) a = k := h
theorem z_gets {p : Program} {l : Launch} {e : Env} {R : Room} {s : State} {m : MethodId} {args : Array Value} {below : List Frame} {meth : Method} {c : Code} {g : gx_T} {nL cells slots : Nat} {Q : State → Prop} {σ : sx_T} {pc : Nat} {lv : List (Nat × Value)} {st : List Value} {cc : ByteArray} (B : zx_B p s m args meth c cc "java/util/ArrayList" nL g) {index : Nat} (hw : Cond.fieldLink "java/util/ArrayList" index "java/util/ArrayList" "DEFAULTCAPACITY_EMPTY_ELEMENTDATA" "[Ljava/lang/Object;" ∈ lw_g) (hd : decode cc pc = .ok (.getstatic index, 3)) (kk : ∀ t : Nat, t = gx_e g → zx p l e R s m args below meth c g nL cells slots Q σ (pc + 3) lv (.ref t :: st)) : zx p l e R s m args below meth c g nL cells slots Q σ pc lv st := by
  intro H locs ls hM hl
  obtain ⟨hx, hb, hml, hown, hts, hlk, hkk, hbs⟩ := B
  have hkept : ∀ a : Nat, a < (gx_H g).size → ¬ gx_Q g a → s.heap[a]? = (gx_H g)[a]? := fun a h1 h2 => by
    have h3 : a < gx_b g := Nat.not_le.mp h2
    exact (hM.2.2.1 a (Nat.lt_of_lt_of_le h3 hbs) h2).symm.trans (hM.1.2.2.1 a h3)
  have ht := hkk.2.2.2.2.1
  exact va_gets hx hb (ht.kept hkept) hM.2 hown (hts _ hw) (fun _ h => h) hd (kk _ rfl H locs ls hM hl)
/-- reading and kinds of old cells, under new ones -/
theorem rR_old {z c a k : Nat} {σ : sx_T} {ks : List (Nat × Nat)} {li : List (Nat × Nat × Int32)} {lj : List (Nat × Nat × Int64)} {lr : List (Nat × Nat × Option Nat)} {v : Option Nat} (hz : sx_Z σ = z + c) (ha : a < z) (h : sx_R σ a k = v) : sx_R (ap z (al σ ks) li lj lr) a k = v := (lk_lo ha lr).trans (((al_old ks σ (by omega)).2.2.2.2 k).trans h)
theorem xx_old {z c a : Nat} {σ : sx_T} {ks : List (Nat × Nat)} {li : List (Nat × Nat × Int32)} {lj : List (Nat × Nat × Int64)} {lr : List (Nat × Nat × Option Nat)} (hz : sx_Z σ = z + c) (ha : a < z) : sx_K (ap z (al σ ks) li lj lr) a = sx_K σ a ∧ sx_N (ap z (al σ ks) li lj lr) a = sx_N σ a ∧ (∀ k, sx_I (ap z (al σ ks) li lj lr) a k = sx_I σ a k) ∧ (∀ k, sx_J (ap z (al σ ks) li lj lr) a k = sx_J σ a k) ∧ (∀ k, sx_R (ap z (al σ ks) li lj lr) a k = sx_R σ a k) := by
  obtain ⟨h1, h2, h3, h4, h5⟩ := al_old ks σ (a := a) (by omega)
  exact ⟨h1, h2, fun k => (lk_lo ha li).trans (h3 k), fun k => (lk_lo ha lj).trans (h4 k), fun k => (lk_lo ha lr).trans (h5 k)⟩
/-- a new cell with what was written in it -/
theorem xx_new {z c j o kd n : Nat} {σ : sx_T} {ks : List (Nat × Nat)} {li : List (Nat × Nat × Int32)} {lj : List (Nat × Nat × Int64)} {lr : List (Nat × Nat × Option Nat)} (hz : sx_Z σ = z + c) (ho : o = c + j) (h : ks[j]? = some (kd, n)) : sx_K (ap z (al σ ks) li lj lr) (z + o) = kd ∧ sx_N (ap z (al σ ks) li lj lr) (z + o) = n ∧ (∀ k, sx_I (ap z (al σ ks) li lj lr) (z + o) k = l0 li 0 o k) ∧ (∀ k, sx_J (ap z (al σ ks) li lj lr) (z + o) k = l0 lj 0 o k) ∧ (∀ k, sx_R (ap z (al σ ks) li lj lr) (z + o) k = l0 lr none o k) := by
  obtain ⟨h1, h2, h3, h4, h5⟩ := alK hz o ho h
  refine ⟨h1, h2, fun k => ?_, fun k => ?_, fun k => ?_⟩
  · show lk z li (sx_I (al σ ks)) (z + o) k = _
    rw [lk_at, h3 k]
  · show lk z lj (sx_J (al σ ks)) (z + o) k = _
    rw [lk_at, h4 k]
  · show lk z lr (sx_R (al σ ks)) (z + o) k = _
    rw [lk_at, h5 k]
theorem df_0 : ∀ j, j < 3 → defaultValue (tyJx4a65c j) = sx_d ((sx_s 0).getD j 0) := by decide +kernel
theorem df_1 : ∀ j, j < 9 → defaultValue (tyX0 j) = sx_d ((sx_s 1).getD j 0) := by decide +kernel
theorem df_2 : ∀ j, j < 3 → defaultValue (tyX1 j) = sx_d ((sx_s 2).getD j 0) := by decide +kernel
theorem df_3 : ∀ j, j < 3 → defaultValue (tyX2 j) = sx_d ((sx_s 3).getD j 0) := by decide +kernel
theorem df_4 : ∀ j, j < 2 → defaultValue (tyX3 j) = sx_d ((sx_s 4).getD j 0) := by decide +kernel
theorem df_5 : ∀ j, j < 4 → defaultValue (tyX4 j) = sx_d ((sx_s 5).getD j 0) := by decide +kernel
theorem df_6 : ∀ j, j < 20 → defaultValue (tyX5 j) = sx_d ((sx_s 6).getD j 0) := by decide +kernel
theorem df_7 : ∀ j, j < 2 → defaultValue (tyX6 j) = sx_d ((sx_s 7).getD j 0) := by decide +kernel
theorem df_8 : ∀ j, j < 7 → defaultValue (tyX7 j) = sx_d ((sx_s 8).getD j 0) := by decide +kernel
theorem df_9 : ∀ j, j < 11 → defaultValue (tyX8 j) = sx_d ((sx_s 9).getD j 0) := by decide +kernel
theorem df_10 : ∀ j, j < 50 → defaultValue (tyX9 j) = sx_d ((sx_s 10).getD j 0) := by decide +kernel
