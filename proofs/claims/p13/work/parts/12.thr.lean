theorem tw_in {L : List Cond} (h1 : ∀ w ∈ L, w ∈ lw_tbl) (h2 : ∀ w ∈ L, (goodWord w || lx_n w) = true) : ∀ w ∈ L, w ∈ lw_g ∨ w ∈ lw_n := by
  intro w hw
  have h3 := h2 w hw
  cases hg : goodWord w with
  | true => exact Or.inl (lg_in (h1 w hw) hg)
  | false =>
    rw [hg, Bool.false_or] at h3
    exact Or.inr (ln_in (h1 w hw) (by rw [hg, h3]; rfl))
theorem ta_0 : (∀ w ∈ vx_atS RX8 149 "java/lang/IllegalStateException" ["java/lang/RuntimeException", "java/lang/Exception"], w ∈ lw_tbl) ∧ (∀ w ∈ vx_atS RX8 149 "java/lang/IllegalStateException" ["java/lang/RuntimeException", "java/lang/Exception"], (goodWord w || lx_n w) = true) ∧ (∀ w ∈ vx_atS RX8 149 "java/lang/IllegalStateException" ["java/lang/RuntimeException", "java/lang/Exception"], vx_ot w = true) := ⟨by decide +kernel, by decide +kernel, by decide +kernel⟩
theorem tw_X8_145_147_149 : tw RX8 "java/lang/IllegalStateException" "there is no room for a workflow" 145 147 149 := ⟨by decide +kernel, wg_843, wg_23, by decide +kernel, tw_in ta_0.1 ta_0.2.1, fun w hw => by
  simp only [List.mem_cons] at hw
  rcases hw with rfl | rfl | hw
  · rfl
  · rfl
  · exact ta_0.2.2 w hw⟩
theorem tw_X8_145_177_149 : tw RX8 "java/lang/IllegalStateException" "it cannot be reset" 145 177 149 := ⟨by decide +kernel, wg_843, wg_23, by decide +kernel, tw_in ta_0.1 ta_0.2.1, fun w hw => by
  simp only [List.mem_cons] at hw
  rcases hw with rfl | rfl | hw
  · rfl
  · rfl
  · exact ta_0.2.2 w hw⟩
theorem tw_X8_145_253_149 : tw RX8 "java/lang/IllegalStateException" "it does not go with the code" 145 253 149 := ⟨by decide +kernel, wg_843, wg_23, by decide +kernel, tw_in ta_0.1 ta_0.2.1, fun w hw => by
  simp only [List.mem_cons] at hw
  rcases hw with rfl | rfl | hw
  · rfl
  · rfl
  · exact ta_0.2.2 w hw⟩
theorem ta_1 : (∀ w ∈ vx_atS RX8 76 "java/lang/IndexOutOfBoundsException" ["java/lang/RuntimeException", "java/lang/Exception"], w ∈ lw_tbl) ∧ (∀ w ∈ vx_atS RX8 76 "java/lang/IndexOutOfBoundsException" ["java/lang/RuntimeException", "java/lang/Exception"], (goodWord w || lx_n w) = true) ∧ (∀ w ∈ vx_atS RX8 76 "java/lang/IndexOutOfBoundsException" ["java/lang/RuntimeException", "java/lang/Exception"], vx_ot w = true) := ⟨by decide +kernel, by decide +kernel, by decide +kernel⟩
theorem tw_X8_72_137_76 : tw RX8 "java/lang/IndexOutOfBoundsException" "no such program" 72 137 76 := ⟨by decide +kernel, wg_721, wg_16, by decide +kernel, tw_in ta_1.1 ta_1.2.1, fun w hw => by
  simp only [List.mem_cons] at hw
  rcases hw with rfl | rfl | hw
  · rfl
  · rfl
  · exact ta_1.2.2 w hw⟩
theorem tw_X8_72_153_76 : tw RX8 "java/lang/IndexOutOfBoundsException" "no such workflow" 72 153 76 := ⟨by decide +kernel, wg_721, wg_16, by decide +kernel, tw_in ta_1.1 ta_1.2.1, fun w hw => by
  simp only [List.mem_cons] at hw
  rcases hw with rfl | rfl | hw
  · rfl
  · rfl
  · exact ta_1.2.2 w hw⟩
theorem tw_X8_72_262_76 : tw RX8 "java/lang/IndexOutOfBoundsException" "no such event" 72 262 76 := ⟨by decide +kernel, wg_721, wg_16, by decide +kernel, tw_in ta_1.1 ta_1.2.1, fun w hw => by
  simp only [List.mem_cons] at hw
  rcases hw with rfl | rfl | hw
  · rfl
  · rfl
  · exact ta_1.2.2 w hw⟩
theorem tw_X8_72_268_76 : tw RX8 "java/lang/IndexOutOfBoundsException" "no such task" 72 268 76 := ⟨by decide +kernel, wg_721, wg_16, by decide +kernel, tw_in ta_1.1 ta_1.2.1, fun w hw => by
  simp only [List.mem_cons] at hw
  rcases hw with rfl | rfl | hw
  · rfl
  · rfl
  · exact ta_1.2.2 w hw⟩
theorem tw_X8_72_74_76 : tw RX8 "java/lang/IndexOutOfBoundsException" "no such step" 72 74 76 := ⟨by decide +kernel, wg_721, wg_16, by decide +kernel, tw_in ta_1.1 ta_1.2.1, fun w hw => by
  simp only [List.mem_cons] at hw
  rcases hw with rfl | rfl | hw
  · rfl
  · rfl
  · exact ta_1.2.2 w hw⟩
theorem ta_2 : (∀ w ∈ vx_atS RX8 87 "java/lang/IllegalArgumentException" ["java/lang/RuntimeException", "java/lang/Exception"], w ∈ lw_tbl) ∧ (∀ w ∈ vx_atS RX8 87 "java/lang/IllegalArgumentException" ["java/lang/RuntimeException", "java/lang/Exception"], (goodWord w || lx_n w) = true) ∧ (∀ w ∈ vx_atS RX8 87 "java/lang/IllegalArgumentException" ["java/lang/RuntimeException", "java/lang/Exception"], vx_ot w = true) := ⟨by decide +kernel, by decide +kernel, by decide +kernel⟩
theorem tw_X8_83_139_87 : tw RX8 "java/lang/IllegalArgumentException" "input is out of range" 83 139 87 := ⟨by decide +kernel, wg_791, wg_17, by decide +kernel, tw_in ta_2.1 ta_2.2.1, fun w hw => by
  simp only [List.mem_cons] at hw
  rcases hw with rfl | rfl | hw
  · rfl
  · rfl
  · exact ta_2.2.2 w hw⟩
theorem tw_X8_83_155_87 : tw RX8 "java/lang/IllegalArgumentException" "no such signal" 83 155 87 := ⟨by decide +kernel, wg_791, wg_17, by decide +kernel, tw_in ta_2.1 ta_2.2.1, fun w hw => by
  simp only [List.mem_cons] at hw
  rcases hw with rfl | rfl | hw
  · rfl
  · rfl
  · exact ta_2.2.2 w hw⟩
theorem tw_X8_83_167_87 : tw RX8 "java/lang/IllegalArgumentException" "there are not so many events" 83 167 87 := ⟨by decide +kernel, wg_791, wg_17, by decide +kernel, tw_in ta_2.1 ta_2.2.1, fun w hw => by
  simp only [List.mem_cons] at hw
  rcases hw with rfl | rfl | hw
  · rfl
  · rfl
  · exact ta_2.2.2 w hw⟩
theorem tw_X8_83_223_87 : tw RX8 "java/lang/IllegalArgumentException" "result is out of range" 83 223 87 := ⟨by decide +kernel, wg_791, wg_17, by decide +kernel, tw_in ta_2.1 ta_2.2.1, fun w hw => by
  simp only [List.mem_cons] at hw
  rcases hw with rfl | rfl | hw
  · rfl
  · rfl
  · exact ta_2.2.2 w hw⟩
theorem tw_X8_83_238_87 : tw RX8 "java/lang/IllegalArgumentException" "ticks are out of range" 83 238 87 := ⟨by decide +kernel, wg_791, wg_17, by decide +kernel, tw_in ta_2.1 ta_2.2.1, fun w hw => by
  simp only [List.mem_cons] at hw
  rcases hw with rfl | rfl | hw
  · rfl
  · rfl
  · exact ta_2.2.2 w hw⟩
theorem tw_X8_83_251_87 : tw RX8 "java/lang/IllegalArgumentException" "no such fact" 83 251 87 := ⟨by decide +kernel, wg_791, wg_17, by decide +kernel, tw_in ta_2.1 ta_2.2.1, fun w hw => by
  simp only [List.mem_cons] at hw
  rcases hw with rfl | rfl | hw
  · rfl
  · rfl
  · exact ta_2.2.2 w hw⟩
theorem tw_X8_83_85_87 : tw RX8 "java/lang/IllegalArgumentException" "no such operation" 83 85 87 := ⟨by decide +kernel, wg_791, wg_17, by decide +kernel, tw_in ta_2.1 ta_2.2.1, fun w hw => by
  simp only [List.mem_cons] at hw
  rcases hw with rfl | rfl | hw
  · rfl
  · rfl
  · exact ta_2.2.2 w hw⟩
