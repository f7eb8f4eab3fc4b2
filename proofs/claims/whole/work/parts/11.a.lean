theorem hasBlock_eq (fu : Nat) {o : Nat} (ho : xk o = 6) (x : Int32) (σ : St) : fX8_hasBlock fu o x σ = some (if x < 0 ∨ σ.1 o 7 ≤ x then 0 else 1, σ) := by
  simp only [fX8_hasBlock_17, fX8_hasBlock_16, fX8_hasBlock_0, fX8_hasBlock, ho, if_true]
  by_cases h1 : x < 0
  · simp [h1]
  · by_cases h2 : σ.1 o 7 ≤ x
    · simp [h1, h2]
    · simp [h1, h2]
theorem isBlock_eq (fu : Nat) (x : Int32) {σ : St} {n : Nat} (hn : n ≤ 7) (h : σ.1 43 12 = nI n) : fX10_isBlock fu 43 x σ = some (if x < 0 ∨ nI n ≤ x then 0 else 1, σ) := by
  have e : nI n - 1 < x ↔ nI n ≤ x := by
    rw [i_lt, i_le, show (1 : Int32) = nI 1 from rfl, pk_sub_toInt (by omega) (by omega), nI_toInt (by omega)]
    omega
  simp only [fX10_isBlock_0, fX10_isBlock, xv_43, if_true, h]
  rw [show (0 : Int64) = (0 : Int32).toInt64 from rfl, in_eq32]
  simp only [Option.bind_some, e]
  by_cases h1 : x < 0 ∨ nI n ≤ x <;> simp [h1]
theorem sm_blank (fu : Nat) : Sm_blank fu Inv := by
  intro σ hI
  obtain ⟨⟨n, hW, hM⟩, ⟨k, hk, hk1, hk2, hk3⟩, hL, hC, hIm⟩ := hI
  refine ⟨(nI k, si σ 1 1 0), (nI k, si (si σ 1 1 0) 43 1 0), ?_, ?_, rfl, ?_⟩
  · simp only [fX9_blank_0, fX9_blank, fX7_length_0, fX7_length, fX7_clear_0, fX7_clear, xv_0, xv_1, xv_3, xv_4, xv_12, xv_20, xv_22, xv_27, xv_29, xv_32, xv_34, xv_35, xv_43, rv_0_0, rv_0_1, rv_0_2, rv_0_3, rv_0_4, rv_0_5, rv_0_6, rv_0_7, rv_1_0, rv_4_0, rv_4_1, rv_4_2, rv_4_3, rv_4_4, rv_4_5, rv_4_6, rv_12_0, rv_12_1, rv_12_2, rv_12_3, rv_12_4, rv_12_5, rv_12_6, rv_35_0, rv_35_1, rv_35_2, rv_35_3, rv_35_4, rv_35_5, rv_35_6, rv_20_0, rv_27_0, rv_32_0, rv_22_0, rv_22_1, rv_22_2, rv_22_3, rv_22_4, rv_29_0, rv_29_1, rv_29_2, rv_34_0, rv_43_0, rv_43_13, rv_43_14, rv_43_15, rv_43_16, rv_43_17, rv_43_18, rv_43_19, rv_43_20, rv_43_21, rv_43_22, rv_43_30, if_true, Option.bind_some, nm, hk1]
  · simp [fX10_blank_0, fX10_blank, xv_0, xv_1, xv_3, xv_4, xv_12, xv_20, xv_22, xv_27, xv_29, xv_32, xv_34, xv_35, xv_43, rv_0_0, rv_0_1, rv_0_2, rv_0_3, rv_0_4, rv_0_5, rv_0_6, rv_0_7, rv_1_0, rv_4_0, rv_4_1, rv_4_2, rv_4_3, rv_4_4, rv_4_5, rv_4_6, rv_12_0, rv_12_1, rv_12_2, rv_12_3, rv_12_4, rv_12_5, rv_12_6, rv_35_0, rv_35_1, rv_35_2, rv_35_3, rv_35_4, rv_35_5, rv_35_6, rv_20_0, rv_27_0, rv_32_0, rv_22_0, rv_22_1, rv_22_2, rv_22_3, rv_22_4, rv_29_0, rv_29_1, rv_29_2, rv_34_0, rv_43_0, rv_43_13, rv_43_14, rv_43_15, rv_43_16, rv_43_17, rv_43_18, rv_43_19, rv_43_20, rv_43_21, rv_43_22, rv_43_30, if_true, Option.bind_some, nm, si_row, hk2]
  · refine ⟨⟨n, WS_congr (fun i h1 h2 => ?_) hW, ?_⟩, ⟨0, by omega, rfl, rfl, fun j h => by omega⟩, ?_, ?_, ?_⟩
    · simp only [si_row]; rw [if_neg (by omega), if_neg (by omega)]
    · exact hM
    · exact hL
    · exact hC
    · exact hIm
