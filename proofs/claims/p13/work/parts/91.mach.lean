theorem wt_51 : Cond.laysStatic "java/util/ArrayList" "DEFAULTCAPACITY_EMPTY_ELEMENTDATA" "[Ljava/lang/Object;" ∈ lw_tbl := List.mem_append_right _ (by decide +kernel)
theorem wt_748 : Cond.laysStatic "java/lang/Throwable" "UNASSIGNED_STACK" "[Ljava/lang/StackTraceElement;" ∈ lw_tbl := List.mem_append_right _ (by decide +kernel)
theorem wt_750 : Cond.laysStatic "java/lang/Throwable" "SUPPRESSED_SENTINEL" "Ljava/util/List;" ∈ lw_tbl := List.mem_append_right _ (by decide +kernel)
theorem wt_4 : Cond.initialized "java/util/ArrayList" ∈ lw_tbl := List.mem_append_right _ (by decide +kernel)
theorem wt_13 : Cond.initialized "java/lang/Throwable" ∈ lw_tbl := List.mem_append_right _ (by decide +kernel)
theorem wt_gc : Cond.declares ⟨"java/lang/Object", "getClass", "()Ljava/lang/Class;"⟩ ∈ lw_tbl := List.mem_append_right _ (by decide +kernel)
theorem nw_of {w : Cond} {D : Array Value} {U : State} (hl : lx_n w = true) (h : w.before D U = true) : va_Nw w U := by
  unfold lx_n at hl
  split at hl
  · exact va_Nw.of rfl h
  · exact va_Nw.of rfl h
  · exact h
  · simp only [Bool.and_eq_true] at hl
    exact va_Nw.of hl.1 h
theorem ar_p {s : State} {D : Array Value} {ty : FieldType} (h : (Cond.arrayClass ty).before D s = true) : ∃ cA, ArrOfT s cA ty ∧ s.vm.findClass ("[" ++ ty.toString) = some cA := by
  obtain ⟨cA, kA, comp, h1, h2, h3⟩ := Cond.arrayClass_spec h
  exact ⟨cA, fun n z => ⟨fun k h => (by cases h), kA, h2, comp, h3⟩, h1⟩
theorem ar_o {s : State} {D : Array Value} {C : String} (h : (Cond.arrayOver (.object C)).before D s = true) : ∃ cA, ArrOfT s cA (.object C) ∧ va_RA s cA (.object C) := by
  obtain ⟨comp, cA, kA, h1, -, h2, h3, h4⟩ := Cond.arrayOver_spec h
  exact ⟨cA, fun n z => ⟨fun k h => (by cases h), kA, h2, comp, h3⟩, kA, comp, h2, h3, h1, h4⟩
theorem kn_of {s : State} {D : Array Value} {ci N : Nat} {C : String} {T : u_T} {ty0 : Nat → FieldType} {q : vw_C} (hts : ∀ w ∈ lw_g, w.before D s = true) (h : cx_ok ci C T N ty0) (hq : vwCl[ci]? = some q) : ∃ (d : ClassId × (Nat → Nat)), u_Kn s q.1 q.2.1 q.2.2 d.1 d.2 := by
  obtain rfl : (C, T, N) = q := Option.some.inj (h.1.symm.trans hq)
  obtain ⟨c, i, hk⟩ := u_known hts h.2.1 (hts _ h.2.2.2.2.2.2.1)
  exact ⟨(c, i), hk⟩
theorem kn_all {s : State} {D : Array Value} (hts : ∀ w ∈ lw_g, w.before D s = true) (k : Nat) : ∃ (d : ClassId × (Nat → Nat)), ∀ q : vw_C, vwCl[k]? = some q → u_Kn s q.1 q.2.1 q.2.2 d.1 d.2 := by
  by_cases hn : vwCl[k]? = none
  · exact ⟨(0, fun _ => 0), fun q hq => by rw [hn] at hq; cases hq⟩
  · obtain ⟨q0, hq0⟩ := Option.ne_none_iff_exists'.mp hn
    have h : ∃ (d : ClassId × (Nat → Nat)), u_Kn s q0.1 q0.2.1 q0.2.2 d.1 d.2 := by
      have hk : k < 11 := by
        have := (List.getElem?_eq_some_iff.mp hq0).1
        exact this
      clear hn
      match k, hq0 with
      | 0, hq => exact kn_of hts cx_0 hq
      | 1, hq => exact kn_of hts cx_1 hq
      | 2, hq => exact kn_of hts cx_2 hq
      | 3, hq => exact kn_of hts cx_3 hq
      | 4, hq => exact kn_of hts cx_4 hq
      | 5, hq => exact kn_of hts cx_5 hq
      | 6, hq => exact kn_of hts cx_6 hq
      | 7, hq => exact kn_of hts cx_7 hq
      | 8, hq => exact kn_of hts cx_8 hq
      | 9, hq => exact kn_of hts cx_9 hq
      | 10, hq => exact kn_of hts cx_10 hq
      | k + 11, _ => omega
    obtain ⟨d, hd⟩ := h
    exact ⟨d, fun q hq => by rw [hq0] at hq; cases hq; exact hd⟩
def nx_fl : List Cond := flatC (Jvm.Cond.and given_1 narrow_1)
theorem nx_1 : ∀ q ∈ lx_str, Cond.stringRef q.1 q.2.1 q.2.2 ∈ lw_tbl := by decide +kernel
theorem nx_2 : ∀ q ∈ lx_str, Cond.exactly (.string q.1 q.2.1) "java/lang/String" ∈ nx_fl := by decide +kernel
theorem nx_3 : ∀ q ∈ lx_nc, Cond.not (.castable q.1 q.2) ∈ nx_fl := by decide +kernel
theorem nx_4 : Cond.exactly (.static "java/util/ArrayList" "DEFAULTCAPACITY_EMPTY_ELEMENTDATA" "[Ljava/lang/Object;") "[Ljava/lang/Object;" ∈ nx_fl := by decide +kernel
theorem nx_5 : Cond.isRef (.static "java/lang/Throwable" "UNASSIGNED_STACK" "[Ljava/lang/StackTraceElement;") ∈ nx_fl := by decide +kernel
theorem nx_6 : Cond.isRef (.static "java/lang/Throwable" "SUPPRESSED_SENTINEL" "Ljava/util/List;") ∈ nx_fl := by decide +kernel
theorem nx_7 : Cond.isRef (.mirror "[Ljava/lang/Object;") ∈ nx_fl := by decide +kernel
theorem nx_8 : Cond.arrayOf (.static "java/util/ArrayList" "DEFAULTCAPACITY_EMPTY_ELEMENTDATA" "[Ljava/lang/Object;") (.object "java/lang/Object") ∈ nx_fl := by decide +kernel
theorem nx_9 : Cond.eq (.length (.static "java/util/ArrayList" "DEFAULTCAPACITY_EMPTY_ELEMENTDATA" "[Ljava/lang/Object;")) (.int 0) ∈ nx_fl := by decide +kernel
/-- the empty array of the class: where it is, of which class, how long -/
theorem em_at {s : State} {D : Array Value} {a17 : ClassId} (hfl : ∀ w ∈ nx_fl, w.before D s = true) (hf : s.vm.findClass "[Ljava/lang/Object;" = some a17) : ∃ (t : Nat) (cell : Cell), Term.eval D s none [] s (.static "java/util/ArrayList" "DEFAULTCAPACITY_EMPTY_ELEMENTDATA" "[Ljava/lang/Object;") = some (.ref t) ∧ s.heap[t]? = some cell ∧ cell.cls = a17 ∧ (∀ k, cell.vm ≠ .statics k) ∧ cell.slots.size = 0 := by
  obtain ⟨t, c, cell, k, ht, hc, hcell, hk, hvm, hcc, -⟩ := Cond.exactly_spec (hfl _ nx_4)
  obtain ⟨⟨hns, k', hk', comp, hkd⟩, hun⟩ := Cond.arrayOf_spec (hfl _ nx_8) ht hcell
  have hca : c = a17 := Option.some.inj (hc.symm.trans hf)
  have harr : s.arrayAt? t = some cell := by
    simp [State.arrayAt?, hcell, hk', hun, hvm, hkd]
  refine ⟨t, cell, ht, hcell, by rw [hcc, hca], hns, ?_⟩
  have h9 := hfl _ nx_9
  by_cases hsz : cell.slots.size < 2 ^ 31
  · have hev := length_eval ht harr hsz
    have hv := Cond.eq_ints hev (show (Term.int 0).eval D s none [] s = some (.int 0) from rfl)
    have hd : cell.slots.size.toInt32 = 0 := by
      simpa [Cond.before, Cond.holds, hv] using h9
    exact (toInt32_eq_zero hsz).mp hd
  · exfalso
    have hev : Term.eval D s none [] s (.length (.static "java/util/ArrayList" "DEFAULTCAPACITY_EMPTY_ELEMENTDATA" "[Ljava/lang/Object;")) = none := by
      rw [Term.eval, ht]
      simp [harr, hsz]
    simp [Cond.before, Cond.holds, Cond.value, hev] at h9
theorem world_at {s : State} {D : Array Value} (hts : ∀ w ∈ lw_tbl, w.before D s = true) (hfl : ∀ w ∈ nx_fl, w.before D s = true) : ∃ g : gx_T, gx_b g = s.heap.size ∧ gx_H g = s.heap ∧ gx_e g < s.heap.size ∧ zx_k g s := by
  have hg : ∀ w ∈ lw_g, w.before D s = true := fun w hw => hts w (List.mem_filter.mp hw).1
  have hA : ∀ a : Nat, a < s.heap.size → ¬ (fun q : Nat => s.heap.size ≤ q) a := fun a h q => absurd q (Nat.not_le.mpr h)
  obtain ⟨a12, p12, r12⟩ := ar_p (hg _ wg_117)
  obtain ⟨a13, p13, r13⟩ := ar_p (hg _ wg_64)
  obtain ⟨a14, p14, r14⟩ := ar_p (hg _ wg_118)
  obtain ⟨a15, p15, r15⟩ := ar_o (hts _ (List.mem_filter.mp wn_37).1)
  obtain ⟨a16, p16, r16⟩ := ar_o (hts _ (List.mem_filter.mp wn_35).1)
  obtain ⟨a17, p17, r17⟩ := ar_o (hts _ (List.mem_filter.mp wn_652).1)
  obtain ⟨t, cell, ht, hcell, hcl, hns, hsz⟩ := em_at hfl (va_nmO r17 (by decide))
  obtain ⟨mi, hmi⟩ := va_Mi.of (hfl _ nx_7)
  refine ⟨((fun k => (Classical.choose (kn_all hg k)).1, fun k => (Classical.choose (kn_all hg k)).2), fun kd => if kd = 12 then a12 else if kd = 13 then a13 else if kd = 14 then a14 else if kd = 15 then a15 else if kd = 16 then a16 else a17, s.heap.size, s.heap, t, mi), rfl, rfl, (Array.getElem?_eq_some_iff.mp hcell).1, ⟨fun k q hq => Classical.choose_spec (kn_all hg k) q hq, ?_⟩, fun w hw => ?_, ?_, ?_, ?_, fun q hq => ?_, fun q hq => ?_, hmi, va_Dc.of (hts _ wt_gc), ⟨cell, hcell, hcl, hns, hsz⟩⟩
  · intro k q hq
    match k, hq with
    | 0, hq => cases hq; exact ⟨p12, r12⟩
    | 1, hq => cases hq; exact ⟨p13, r13⟩
    | 2, hq => cases hq; exact ⟨p14, r14⟩
    | 3, hq => cases hq; exact ⟨p15, r15⟩
    | 4, hq => cases hq; exact ⟨p16, r16⟩
    | 5, hq => cases hq; exact ⟨p17, r17⟩
    | k + 6, hq => simp [gx_t] at hq
  · have h9 := List.mem_filter.mp hw
    have h8 := h9.2
    simp only [Bool.and_eq_true] at h8
    exact nw_of h8.2 (hts w h9.1)
  · exact vx_Zqof (hts _ wt_748) (hts _ wt_13) (hfl _ nx_5) hA
  · exact vx_Zqof (hts _ wt_750) (hts _ wt_13) (hfl _ nx_6) hA
  · exact va_Zof (hts _ wt_51) (hts _ wt_4) ht hA
  · obtain ⟨a, -, -, -, ha, -⟩ := Cond.exactly_spec (hfl _ (nx_2 q hq))
    exact ⟨a, vk_R.of (hts _ (nx_1 q hq)) ha⟩
  · exact va_Nc.of (hfl _ (nx_3 q hq))
theorem zh_start {g : gx_T} {s : State} (h1 : gx_b g = s.heap.size) (h2 : gx_H g = s.heap) : zx_h g (fun _ => 0, fun _ => 0, fun _ _ => 0, fun _ _ => 0, fun _ _ => none, s.heap.size, 0) s.heap := by
  refine ⟨rfl, Nat.le_of_eq h1, fun q _ => by rw [h2], by rw [h1, h2], [], fun a => ⟨fun h => absurd h List.not_mem_nil, fun h => absurd rfl h⟩, fun k q h => ?_, ⟨fun i j p q h => ?_, fun k q h => ?_⟩⟩
  · simp [va_pl] at h
  · simp [va_pl] at h
  · simp [va_pl] at h
