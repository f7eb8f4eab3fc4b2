theorem isN_in {x : Int32} (m : Nat) (hm : m < 2 ^ 31) (h : ¬ (x < 0 ∨ nI m < x)) : isN x m := by
  have h0 : ¬ x < 0 := fun q => h (Or.inl q)
  obtain ⟨j, h2, rfl⟩ := nI_of h0
  refine ⟨j, ?_, rfl⟩
  rcases Nat.lt_or_ge m j with q | q
  · exact absurd (Or.inr (nI_lt q h2)) h
  · exact q
theorem upd_isN {f : Nat → Int32} {k m : Nat} {v : Int32} {j : Nat} (hv : isN v m) (hf : isN (f j) m) : isN (upd f k v j) m := by
  unfold upd
  split
  · exact hv
  · exact hf
theorem upd_eq {f g : Nat → Int32} {k : Nat} {v : Int32} {j : Nat} (h : f j = g j) : upd f k v j = upd g k v j := by
  unfold upd
  split
  · rfl
  · exact h
theorem sm_wheels (fu : Nat) : Sm_wheels fu Inv := by
  intro σ a0 a1 hI
  obtain ⟨⟨n, hW, hM⟩, hP, hL, hC, hIm⟩ := id hI
  obtain ⟨hn, hz, w1, w2, w3, w4⟩ := id hW
  have i0 : fX10_in fu a0.toInt64 0 6 σ = some (if a0 < 0 ∨ 6 < a0 then 0 else 1, σ) := in_eq32 fu a0 0 6 σ
  have i1 : fX10_in fu a1.toInt64 0 9 σ = some (if a1 < 0 ∨ 9 < a1 then 0 else 1, σ) := in_eq32 fu a1 0 9 σ
  have j0 := isWithin_eq fu a0 0 6 σ
  have j1 := isWithin_eq fu a1 0 9 σ
  by_cases hb : a0 < 0 ∨ 6 < a0
  · rw [if_pos hb] at i0 j0
    exact ⟨(-101, σ), (-101, σ), by simp [fX9_wheels_37, fX9_wheels_0, fX9_wheels, xv_0, xv_1, xv_3, xv_4, xv_12, xv_20, xv_22, xv_27, xv_29, xv_32, xv_34, xv_35, xv_43, rv_0_0, rv_0_1, rv_0_2, rv_0_3, rv_0_4, rv_0_5, rv_0_6, rv_0_7, rv_1_0, rv_4_0, rv_4_1, rv_4_2, rv_4_3, rv_4_4, rv_4_5, rv_4_6, rv_12_0, rv_12_1, rv_12_2, rv_12_3, rv_12_4, rv_12_5, rv_12_6, rv_35_0, rv_35_1, rv_35_2, rv_35_3, rv_35_4, rv_35_5, rv_35_6, rv_20_0, rv_27_0, rv_32_0, rv_22_0, rv_22_1, rv_22_2, rv_22_3, rv_22_4, rv_29_0, rv_29_1, rv_29_2, rv_34_0, rv_43_0, rv_43_13, rv_43_14, rv_43_15, rv_43_16, rv_43_17, rv_43_18, rv_43_19, rv_43_20, rv_43_21, rv_43_22, rv_43_30, if_true, Option.bind_some, nm, j0], by simp [fX10_wheels_0, fX10_wheels, xv_0, xv_1, xv_3, xv_4, xv_12, xv_20, xv_22, xv_27, xv_29, xv_32, xv_34, xv_35, xv_43, rv_0_0, rv_0_1, rv_0_2, rv_0_3, rv_0_4, rv_0_5, rv_0_6, rv_0_7, rv_1_0, rv_4_0, rv_4_1, rv_4_2, rv_4_3, rv_4_4, rv_4_5, rv_4_6, rv_12_0, rv_12_1, rv_12_2, rv_12_3, rv_12_4, rv_12_5, rv_12_6, rv_35_0, rv_35_1, rv_35_2, rv_35_3, rv_35_4, rv_35_5, rv_35_6, rv_20_0, rv_27_0, rv_32_0, rv_22_0, rv_22_1, rv_22_2, rv_22_3, rv_22_4, rv_29_0, rv_29_1, rv_29_2, rv_34_0, rv_43_0, rv_43_13, rv_43_14, rv_43_15, rv_43_16, rv_43_17, rv_43_18, rv_43_19, rv_43_20, rv_43_21, rv_43_22, rv_43_30, if_true, Option.bind_some, nm, i0], rfl, hI⟩
  rw [if_neg hb] at i0 j0
  by_cases hc : a1 < 0 ∨ 9 < a1
  · rw [if_pos hc] at i1 j1
    exact ⟨(-102, σ), (-102, σ), by simp [fX9_wheels_37, fX9_wheels_0, fX9_wheels, xv_0, xv_1, xv_3, xv_4, xv_12, xv_20, xv_22, xv_27, xv_29, xv_32, xv_34, xv_35, xv_43, rv_0_0, rv_0_1, rv_0_2, rv_0_3, rv_0_4, rv_0_5, rv_0_6, rv_0_7, rv_1_0, rv_4_0, rv_4_1, rv_4_2, rv_4_3, rv_4_4, rv_4_5, rv_4_6, rv_12_0, rv_12_1, rv_12_2, rv_12_3, rv_12_4, rv_12_5, rv_12_6, rv_35_0, rv_35_1, rv_35_2, rv_35_3, rv_35_4, rv_35_5, rv_35_6, rv_20_0, rv_27_0, rv_32_0, rv_22_0, rv_22_1, rv_22_2, rv_22_3, rv_22_4, rv_29_0, rv_29_1, rv_29_2, rv_34_0, rv_43_0, rv_43_13, rv_43_14, rv_43_15, rv_43_16, rv_43_17, rv_43_18, rv_43_19, rv_43_20, rv_43_21, rv_43_22, rv_43_30, if_true, Option.bind_some, nm, j0, j1], by simp [fX10_wheels_0, fX10_wheels, xv_0, xv_1, xv_3, xv_4, xv_12, xv_20, xv_22, xv_27, xv_29, xv_32, xv_34, xv_35, xv_43, rv_0_0, rv_0_1, rv_0_2, rv_0_3, rv_0_4, rv_0_5, rv_0_6, rv_0_7, rv_1_0, rv_4_0, rv_4_1, rv_4_2, rv_4_3, rv_4_4, rv_4_5, rv_4_6, rv_12_0, rv_12_1, rv_12_2, rv_12_3, rv_12_4, rv_12_5, rv_12_6, rv_35_0, rv_35_1, rv_35_2, rv_35_3, rv_35_4, rv_35_5, rv_35_6, rv_20_0, rv_27_0, rv_32_0, rv_22_0, rv_22_1, rv_22_2, rv_22_3, rv_22_4, rv_29_0, rv_29_1, rv_29_2, rv_34_0, rv_43_0, rv_43_13, rv_43_14, rv_43_15, rv_43_16, rv_43_17, rv_43_18, rv_43_19, rv_43_20, rv_43_21, rv_43_22, rv_43_30, if_true, Option.bind_some, nm, i0, i1], rfl, hI⟩
  rw [if_neg hc] at i1 j1
  obtain ⟨k, hk, rfl⟩ := isN_in 6 (by omega) hb
  have h1 := isN_in 9 (by omega) hc
  have i0' : fX10_in fu (nI k).toInt64 0 6 (si σ 11 k a1) = some (1, si σ 11 k a1) := (in_eq32 fu (nI k) 0 6 _).trans (by rw [if_neg hb])
  have i1' : fX10_in fu a1.toInt64 0 9 (si σ 11 k a1) = some (1, si σ 11 k a1) := (in_eq32 fu a1 0 9 _).trans (by rw [if_neg hc])
  have q0 : ∀ (τ : St) a, ald τ a 7 (nI k) = some (τ.1 a k) := fun τ a => ald_nI (by omega) (by omega)
  have q1 : ∀ (τ : St) a x, ast τ a 7 (nI k) x = some (si τ a k x) := fun τ a x => ast_nI (by omega) (by omega)
  refine ⟨(σ.1 11 k, si σ 11 k a1), (σ.1 11 k, si (si σ 11 k a1) 50 k a1), by simp [fX9_wheels_37, fX9_wheels_0, fX9_wheels, fX8_changeWheels_0, fX8_changeWheels, xv_0, xv_1, xv_3, xv_4, xv_12, xv_20, xv_22, xv_27, xv_29, xv_32, xv_34, xv_35, xv_43, rv_0_0, rv_0_1, rv_0_2, rv_0_3, rv_0_4, rv_0_5, rv_0_6, rv_0_7, rv_1_0, rv_4_0, rv_4_1, rv_4_2, rv_4_3, rv_4_4, rv_4_5, rv_4_6, rv_12_0, rv_12_1, rv_12_2, rv_12_3, rv_12_4, rv_12_5, rv_12_6, rv_35_0, rv_35_1, rv_35_2, rv_35_3, rv_35_4, rv_35_5, rv_35_6, rv_20_0, rv_27_0, rv_32_0, rv_22_0, rv_22_1, rv_22_2, rv_22_3, rv_22_4, rv_29_0, rv_29_1, rv_29_2, rv_34_0, rv_43_0, rv_43_13, rv_43_14, rv_43_15, rv_43_16, rv_43_17, rv_43_18, rv_43_19, rv_43_20, rv_43_21, rv_43_22, rv_43_30, if_true, Option.bind_some, nm, j0, j1, q0, q1], ?_, rfl, ?_⟩
  · simp [fX10_wheels_0, fX10_wheels, xv_0, xv_1, xv_3, xv_4, xv_12, xv_20, xv_22, xv_27, xv_29, xv_32, xv_34, xv_35, xv_43, rv_0_0, rv_0_1, rv_0_2, rv_0_3, rv_0_4, rv_0_5, rv_0_6, rv_0_7, rv_1_0, rv_4_0, rv_4_1, rv_4_2, rv_4_3, rv_4_4, rv_4_5, rv_4_6, rv_12_0, rv_12_1, rv_12_2, rv_12_3, rv_12_4, rv_12_5, rv_12_6, rv_35_0, rv_35_1, rv_35_2, rv_35_3, rv_35_4, rv_35_5, rv_35_6, rv_20_0, rv_27_0, rv_32_0, rv_22_0, rv_22_1, rv_22_2, rv_22_3, rv_22_4, rv_29_0, rv_29_1, rv_29_2, rv_34_0, rv_43_0, rv_43_13, rv_43_14, rv_43_15, rv_43_16, rv_43_17, rv_43_18, rv_43_19, rv_43_20, rv_43_21, rv_43_22, rv_43_30, if_true, Option.bind_some, nm, i0', i1', q0, q1]
    exact hM.2.2 k (by omega)
  · exact ⟨⟨n, ⟨hn, hz, w1, w2, w3, fun p hp => upd_isN h1 (w4 p hp)⟩, hM.1, hM.2.1, fun p hp => upd_eq (hM.2.2 p hp)⟩, hP, hL, hC, hIm⟩
theorem sm_was (fu : Nat) : Sm_was fu Inv := by
  intro σ a0 a1 hI
  obtain ⟨⟨n, hW, hM⟩, hP, hL, hC, hIm⟩ := id hI
  obtain ⟨hn, hz, w1, w2, w3, w4⟩ := id hW
  by_cases hb : a0 < 0 ∨ nI n ≤ a0
  · refine ⟨(-101, σ), (-101, σ), ?_, ?_, rfl, hI⟩
    · simp [fX9_was_39, fX9_was_0, fX9_was, xv_0, xv_1, xv_3, xv_4, xv_12, xv_20, xv_22, xv_27, xv_29, xv_32, xv_34, xv_35, xv_43, rv_0_0, rv_0_1, rv_0_2, rv_0_3, rv_0_4, rv_0_5, rv_0_6, rv_0_7, rv_1_0, rv_4_0, rv_4_1, rv_4_2, rv_4_3, rv_4_4, rv_4_5, rv_4_6, rv_12_0, rv_12_1, rv_12_2, rv_12_3, rv_12_4, rv_12_5, rv_12_6, rv_35_0, rv_35_1, rv_35_2, rv_35_3, rv_35_4, rv_35_5, rv_35_6, rv_20_0, rv_27_0, rv_32_0, rv_22_0, rv_22_1, rv_22_2, rv_22_3, rv_22_4, rv_29_0, rv_29_1, rv_29_2, rv_34_0, rv_43_0, rv_43_13, rv_43_14, rv_43_15, rv_43_16, rv_43_17, rv_43_18, rv_43_19, rv_43_20, rv_43_21, rv_43_22, rv_43_30, if_true, Option.bind_some, nm, hasBlock4, hz, hb]
    · simp [fX10_was_0, fX10_was, xv_0, xv_1, xv_3, xv_4, xv_12, xv_20, xv_22, xv_27, xv_29, xv_32, xv_34, xv_35, xv_43, rv_0_0, rv_0_1, rv_0_2, rv_0_3, rv_0_4, rv_0_5, rv_0_6, rv_0_7, rv_1_0, rv_4_0, rv_4_1, rv_4_2, rv_4_3, rv_4_4, rv_4_5, rv_4_6, rv_12_0, rv_12_1, rv_12_2, rv_12_3, rv_12_4, rv_12_5, rv_12_6, rv_35_0, rv_35_1, rv_35_2, rv_35_3, rv_35_4, rv_35_5, rv_35_6, rv_20_0, rv_27_0, rv_32_0, rv_22_0, rv_22_1, rv_22_2, rv_22_3, rv_22_4, rv_29_0, rv_29_1, rv_29_2, rv_34_0, rv_43_0, rv_43_13, rv_43_14, rv_43_15, rv_43_16, rv_43_17, rv_43_18, rv_43_19, rv_43_20, rv_43_21, rv_43_22, rv_43_30, if_true, Option.bind_some, nm, isBlock_eq fu a0 hn hM.1, hb]
  obtain ⟨j, hj, rfl⟩ := in_nlt n (fun q => hb (Or.inl q)) (fun q => hb (Or.inr q)) (by omega)
  obtain ⟨m1, m2, m3, m4, m5⟩ := hM.2.1 j hj
  have b1 := hasBlock4 fu (nI j) σ
  rw [hz, if_neg hb] at b1
  have i1 : ∀ τ, fX10_in fu a1.toInt64 (-1) 999 τ = some (if a1 < -1 ∨ 999 < a1 then 0 else 1, τ) := fun τ => in_eq32 fu a1 (-1) 999 τ
  have j1 := isWithin_eq fu a1 (-1) 999 σ
  by_cases hc : a1 < -1 ∨ 999 < a1
  · rw [if_pos hc] at j1
    have i2 := i1 σ
    rw [if_pos hc] at i2
    have b2 := isBlock_eq fu (nI j) hn hM.1
    rw [if_neg hb] at b2
    exact ⟨(-102, σ), (-102, σ), by simp [fX9_was_39, fX9_was_0, fX9_was, xv_0, xv_1, xv_3, xv_4, xv_12, xv_20, xv_22, xv_27, xv_29, xv_32, xv_34, xv_35, xv_43, rv_0_0, rv_0_1, rv_0_2, rv_0_3, rv_0_4, rv_0_5, rv_0_6, rv_0_7, rv_1_0, rv_4_0, rv_4_1, rv_4_2, rv_4_3, rv_4_4, rv_4_5, rv_4_6, rv_12_0, rv_12_1, rv_12_2, rv_12_3, rv_12_4, rv_12_5, rv_12_6, rv_35_0, rv_35_1, rv_35_2, rv_35_3, rv_35_4, rv_35_5, rv_35_6, rv_20_0, rv_27_0, rv_32_0, rv_22_0, rv_22_1, rv_22_2, rv_22_3, rv_22_4, rv_29_0, rv_29_1, rv_29_2, rv_34_0, rv_43_0, rv_43_13, rv_43_14, rv_43_15, rv_43_16, rv_43_17, rv_43_18, rv_43_19, rv_43_20, rv_43_21, rv_43_22, rv_43_30, if_true, Option.bind_some, nm, b1, j1], by simp [fX10_was_0, fX10_was, xv_0, xv_1, xv_3, xv_4, xv_12, xv_20, xv_22, xv_27, xv_29, xv_32, xv_34, xv_35, xv_43, rv_0_0, rv_0_1, rv_0_2, rv_0_3, rv_0_4, rv_0_5, rv_0_6, rv_0_7, rv_1_0, rv_4_0, rv_4_1, rv_4_2, rv_4_3, rv_4_4, rv_4_5, rv_4_6, rv_12_0, rv_12_1, rv_12_2, rv_12_3, rv_12_4, rv_12_5, rv_12_6, rv_35_0, rv_35_1, rv_35_2, rv_35_3, rv_35_4, rv_35_5, rv_35_6, rv_20_0, rv_27_0, rv_32_0, rv_22_0, rv_22_1, rv_22_2, rv_22_3, rv_22_4, rv_29_0, rv_29_1, rv_29_2, rv_34_0, rv_43_0, rv_43_13, rv_43_14, rv_43_15, rv_43_16, rv_43_17, rv_43_18, rv_43_19, rv_43_20, rv_43_21, rv_43_22, rv_43_30, if_true, Option.bind_some, nm, b2, i2], rfl, hI⟩
  rw [if_neg hc] at j1
  have i2 := i1 (si σ 8 j a1)
  rw [if_neg hc] at i2
  have b2 := isBlock_eq fu (nI j) (σ := si σ 8 j a1) hn hM.1
  rw [if_neg hb] at b2
  have q0 : ∀ (τ : St) a, ald τ a 7 (nI j) = some (τ.1 a j) := fun τ a => ald_nI (by omega) (by omega)
  have q1 : ∀ (τ : St) a x, ast τ a 7 (nI j) x = some (si τ a j x) := fun τ a x => ast_nI (by omega) (by omega)
  have h1 : a1 = -1 ∨ isN a1 999 := by
    by_cases h : a1 = -1
    · exact Or.inl h
    · refine Or.inr (isN_in 999 (by omega) (fun q => hc ?_))
      rcases q with q | q
      · refine Or.inl ?_
        rw [i_lt] at q ⊢
        rw [i_eq] at h
        have e1 : (-1 : Int32).toInt = -1 := rfl
        rw [e1] at h ⊢
        rw [l0] at q
        omega
      · exact Or.inr q
  refine ⟨(σ.1 8 j, si σ 8 j a1), (σ.1 8 j, si (si σ 8 j a1) 49 j a1), by simp [fX9_was_39, fX9_was_0, fX9_was, fX8_changeWas_0, fX8_changeWas, xv_0, xv_1, xv_3, xv_4, xv_12, xv_20, xv_22, xv_27, xv_29, xv_32, xv_34, xv_35, xv_43, rv_0_0, rv_0_1, rv_0_2, rv_0_3, rv_0_4, rv_0_5, rv_0_6, rv_0_7, rv_1_0, rv_4_0, rv_4_1, rv_4_2, rv_4_3, rv_4_4, rv_4_5, rv_4_6, rv_12_0, rv_12_1, rv_12_2, rv_12_3, rv_12_4, rv_12_5, rv_12_6, rv_35_0, rv_35_1, rv_35_2, rv_35_3, rv_35_4, rv_35_5, rv_35_6, rv_20_0, rv_27_0, rv_32_0, rv_22_0, rv_22_1, rv_22_2, rv_22_3, rv_22_4, rv_29_0, rv_29_1, rv_29_2, rv_34_0, rv_43_0, rv_43_13, rv_43_14, rv_43_15, rv_43_16, rv_43_17, rv_43_18, rv_43_19, rv_43_20, rv_43_21, rv_43_22, rv_43_30, if_true, Option.bind_some, nm, b1, j1, q0, q1], ?_, rfl, ?_⟩
  · simp [fX10_was_0, fX10_was, xv_0, xv_1, xv_3, xv_4, xv_12, xv_20, xv_22, xv_27, xv_29, xv_32, xv_34, xv_35, xv_43, rv_0_0, rv_0_1, rv_0_2, rv_0_3, rv_0_4, rv_0_5, rv_0_6, rv_0_7, rv_1_0, rv_4_0, rv_4_1, rv_4_2, rv_4_3, rv_4_4, rv_4_5, rv_4_6, rv_12_0, rv_12_1, rv_12_2, rv_12_3, rv_12_4, rv_12_5, rv_12_6, rv_35_0, rv_35_1, rv_35_2, rv_35_3, rv_35_4, rv_35_5, rv_35_6, rv_20_0, rv_27_0, rv_32_0, rv_22_0, rv_22_1, rv_22_2, rv_22_3, rv_22_4, rv_29_0, rv_29_1, rv_29_2, rv_34_0, rv_43_0, rv_43_13, rv_43_14, rv_43_15, rv_43_16, rv_43_17, rv_43_18, rv_43_19, rv_43_20, rv_43_21, rv_43_22, rv_43_30, if_true, Option.bind_some, nm, b2, i2, q0, q1]
    exact m5
  · refine ⟨⟨n, ⟨hn, hz, fun i hi => ⟨(w1 i hi).1, (w1 i hi).2.1, (w1 i hi).2.2.1, ?_⟩, w2, w3, w4⟩, hM.1, fun i hi => ⟨(hM.2.1 i hi).1, (hM.2.1 i hi).2.1, (hM.2.1 i hi).2.2.1, (hM.2.1 i hi).2.2.2.1, upd_eq (hM.2.1 i hi).2.2.2.2⟩, hM.2.2⟩, hP, hL, hC, hIm⟩
    show upd (σ.1 8) j a1 i = -1 ∨ isN (upd (σ.1 8) j a1 i) 999
    unfold upd
    split
    · exact h1
    · exact (w1 i hi).2.2.2
theorem turnOver_eq (fu : Nat) {o : Nat} (ho : xk o = 6) {j : Nat} (hj : j < 7) (σ : St) : fX8_turnOver fu o (nI j) σ = some (si (si σ (o + 2) j (σ.1 (o + 3) j)) (o + 3) j (σ.1 (o + 2) j)) := by
  have q0 : ∀ (τ : St) a, ald τ a 7 (nI j) = some (τ.1 a j) := fun τ a => ald_nI hj (by omega)
  have q1 : ∀ (τ : St) a x, ast τ a 7 (nI j) x = some (si τ a j x) := fun τ a x => ast_nI hj (by omega)
  simp [fX8_turnOver_0, fX8_turnOver, ho, rf_st ho, q0, q1]
theorem sm_turn (fu : Nat) : Sm_turn fu Inv := by
  intro σ a0 hI
  obtain ⟨⟨n, hW, hM⟩, hP, hL, hC, hIm⟩ := id hI
  obtain ⟨hn, hz, w1, w2, w3, w4⟩ := id hW
  by_cases hb : a0 < 0 ∨ nI n ≤ a0
  · refine ⟨(-101, σ), (-101, σ), ?_, ?_, rfl, hI⟩
    · simp [fX9_turn_0, fX9_turn, xv_0, xv_1, xv_3, xv_4, xv_12, xv_20, xv_22, xv_27, xv_29, xv_32, xv_34, xv_35, xv_43, rv_0_0, rv_0_1, rv_0_2, rv_0_3, rv_0_4, rv_0_5, rv_0_6, rv_0_7, rv_1_0, rv_4_0, rv_4_1, rv_4_2, rv_4_3, rv_4_4, rv_4_5, rv_4_6, rv_12_0, rv_12_1, rv_12_2, rv_12_3, rv_12_4, rv_12_5, rv_12_6, rv_35_0, rv_35_1, rv_35_2, rv_35_3, rv_35_4, rv_35_5, rv_35_6, rv_20_0, rv_27_0, rv_32_0, rv_22_0, rv_22_1, rv_22_2, rv_22_3, rv_22_4, rv_29_0, rv_29_1, rv_29_2, rv_34_0, rv_43_0, rv_43_13, rv_43_14, rv_43_15, rv_43_16, rv_43_17, rv_43_18, rv_43_19, rv_43_20, rv_43_21, rv_43_22, rv_43_30, if_true, Option.bind_some, nm, hasBlock4, hz, hb]
    · simp [fX10_turn_0, fX10_turn, xv_0, xv_1, xv_3, xv_4, xv_12, xv_20, xv_22, xv_27, xv_29, xv_32, xv_34, xv_35, xv_43, rv_0_0, rv_0_1, rv_0_2, rv_0_3, rv_0_4, rv_0_5, rv_0_6, rv_0_7, rv_1_0, rv_4_0, rv_4_1, rv_4_2, rv_4_3, rv_4_4, rv_4_5, rv_4_6, rv_12_0, rv_12_1, rv_12_2, rv_12_3, rv_12_4, rv_12_5, rv_12_6, rv_35_0, rv_35_1, rv_35_2, rv_35_3, rv_35_4, rv_35_5, rv_35_6, rv_20_0, rv_27_0, rv_32_0, rv_22_0, rv_22_1, rv_22_2, rv_22_3, rv_22_4, rv_29_0, rv_29_1, rv_29_2, rv_34_0, rv_43_0, rv_43_13, rv_43_14, rv_43_15, rv_43_16, rv_43_17, rv_43_18, rv_43_19, rv_43_20, rv_43_21, rv_43_22, rv_43_30, if_true, Option.bind_some, nm, isBlock_eq fu a0 hn hM.1, hb]
  obtain ⟨j, hj, rfl⟩ := in_nlt n (fun q => hb (Or.inl q)) (fun q => hb (Or.inr q)) (by omega)
  obtain ⟨m1, m2, m3, m4, m5⟩ := hM.2.1 j hj
  have b1 := hasBlock4 fu (nI j) σ
  rw [hz, if_neg hb] at b1
  have q0 : ∀ (τ : St) a, ald τ a 7 (nI j) = some (τ.1 a j) := fun τ a => ald_nI (by omega) (by omega)
  have q1 : ∀ (τ : St) a x, ast τ a 7 (nI j) x = some (si τ a j x) := fun τ a x => ast_nI (by omega) (by omega)
  by_cases c : σ.1 5 j = 4
  · have b2 := isBlock_eq fu (nI j) hn hM.1
    rw [if_neg hb] at b2
    exact ⟨(-103, σ), (-103, σ), by simp [fX9_turn_0, fX9_turn, fX8_kindOf_0, fX8_kindOf, xv_0, xv_1, xv_3, xv_4, xv_12, xv_20, xv_22, xv_27, xv_29, xv_32, xv_34, xv_35, xv_43, rv_0_0, rv_0_1, rv_0_2, rv_0_3, rv_0_4, rv_0_5, rv_0_6, rv_0_7, rv_1_0, rv_4_0, rv_4_1, rv_4_2, rv_4_3, rv_4_4, rv_4_5, rv_4_6, rv_12_0, rv_12_1, rv_12_2, rv_12_3, rv_12_4, rv_12_5, rv_12_6, rv_35_0, rv_35_1, rv_35_2, rv_35_3, rv_35_4, rv_35_5, rv_35_6, rv_20_0, rv_27_0, rv_32_0, rv_22_0, rv_22_1, rv_22_2, rv_22_3, rv_22_4, rv_29_0, rv_29_1, rv_29_2, rv_34_0, rv_43_0, rv_43_13, rv_43_14, rv_43_15, rv_43_16, rv_43_17, rv_43_18, rv_43_19, rv_43_20, rv_43_21, rv_43_22, rv_43_30, if_true, Option.bind_some, nm, b1, q0, c], by simp [fX10_turn_0, fX10_turn, xv_0, xv_1, xv_3, xv_4, xv_12, xv_20, xv_22, xv_27, xv_29, xv_32, xv_34, xv_35, xv_43, rv_0_0, rv_0_1, rv_0_2, rv_0_3, rv_0_4, rv_0_5, rv_0_6, rv_0_7, rv_1_0, rv_4_0, rv_4_1, rv_4_2, rv_4_3, rv_4_4, rv_4_5, rv_4_6, rv_12_0, rv_12_1, rv_12_2, rv_12_3, rv_12_4, rv_12_5, rv_12_6, rv_35_0, rv_35_1, rv_35_2, rv_35_3, rv_35_4, rv_35_5, rv_35_6, rv_20_0, rv_27_0, rv_32_0, rv_22_0, rv_22_1, rv_22_2, rv_22_3, rv_22_4, rv_29_0, rv_29_1, rv_29_2, rv_34_0, rv_43_0, rv_43_13, rv_43_14, rv_43_15, rv_43_16, rv_43_17, rv_43_18, rv_43_19, rv_43_20, rv_43_21, rv_43_22, rv_43_30, if_true, Option.bind_some, nm, b2, q0, m1, c], rfl, hI⟩
  have t1 := turnOver_eq fu xv_4 (show j < 7 by omega) σ
  have b2 := isBlock_eq fu (nI j) (σ := si (si σ 6 j (σ.1 7 j)) 7 j (σ.1 6 j)) hn hM.1
  rw [if_neg hb] at b2
  refine ⟨(σ.1 7 j, si (si σ 6 j (σ.1 7 j)) 7 j (σ.1 6 j)), (σ.1 7 j, si (si (si (si σ 6 j (σ.1 7 j)) 7 j (σ.1 6 j)) 46 j (σ.1 7 j)) 47 j (σ.1 6 j)), ?_, ?_, rfl, ?_⟩
  · simp [fX9_turn_0, fX9_turn, fX8_kindOf_0, fX8_kindOf, fX8_aboveOf_0, fX8_aboveOf, xv_0, xv_1, xv_3, xv_4, xv_12, xv_20, xv_22, xv_27, xv_29, xv_32, xv_34, xv_35, xv_43, rv_0_0, rv_0_1, rv_0_2, rv_0_3, rv_0_4, rv_0_5, rv_0_6, rv_0_7, rv_1_0, rv_4_0, rv_4_1, rv_4_2, rv_4_3, rv_4_4, rv_4_5, rv_4_6, rv_12_0, rv_12_1, rv_12_2, rv_12_3, rv_12_4, rv_12_5, rv_12_6, rv_35_0, rv_35_1, rv_35_2, rv_35_3, rv_35_4, rv_35_5, rv_35_6, rv_20_0, rv_27_0, rv_32_0, rv_22_0, rv_22_1, rv_22_2, rv_22_3, rv_22_4, rv_29_0, rv_29_1, rv_29_2, rv_34_0, rv_43_0, rv_43_13, rv_43_14, rv_43_15, rv_43_16, rv_43_17, rv_43_18, rv_43_19, rv_43_20, rv_43_21, rv_43_22, rv_43_30, if_true, Option.bind_some, nm, b1, q0, c, t1, si_row, upd_same]
  · simp only [fX10_turn_0, fX10_turn, xv_0, xv_1, xv_3, xv_4, xv_12, xv_20, xv_22, xv_27, xv_29, xv_32, xv_34, xv_35, xv_43, rv_0_0, rv_0_1, rv_0_2, rv_0_3, rv_0_4, rv_0_5, rv_0_6, rv_0_7, rv_1_0, rv_4_0, rv_4_1, rv_4_2, rv_4_3, rv_4_4, rv_4_5, rv_4_6, rv_12_0, rv_12_1, rv_12_2, rv_12_3, rv_12_4, rv_12_5, rv_12_6, rv_35_0, rv_35_1, rv_35_2, rv_35_3, rv_35_4, rv_35_5, rv_35_6, rv_20_0, rv_27_0, rv_32_0, rv_22_0, rv_22_1, rv_22_2, rv_22_3, rv_22_4, rv_29_0, rv_29_1, rv_29_2, rv_34_0, rv_43_0, rv_43_13, rv_43_14, rv_43_15, rv_43_16, rv_43_17, rv_43_18, rv_43_19, rv_43_20, rv_43_21, rv_43_22, rv_43_30, if_true, Option.bind_some, nm, b2, q0]
    rw [show (si (si σ 6 j (σ.1 7 j)) 7 j (σ.1 6 j)).1 45 j = σ.1 5 j from m1]
    simp only [c, fX10_exchange_0, fX10_exchange, show xk 46 = 16 from rfl, show xk 47 = 16 from rfl, if_true, q0, q1, Option.bind_some]
    rw [show (si (si σ 6 j (σ.1 7 j)) 7 j (σ.1 6 j)).1 46 j = σ.1 6 j from m2, show (si (si σ 6 j (σ.1 7 j)) 7 j (σ.1 6 j)).1 47 j = σ.1 7 j from m3]
    simp [si_row, upd_same]
  · obtain ⟨v1, v2, v3, v4⟩ := w1 j hj
    exact ⟨⟨n, ⟨hn, hz, fun i hi => ⟨(w1 i hi).1, upd_isN v3 (w1 i hi).2.1, upd_isN v2 (w1 i hi).2.2.1, (w1 i hi).2.2.2⟩, w2, w3, w4⟩, hM.1, fun i hi => ⟨(hM.2.1 i hi).1, upd_eq (hM.2.1 i hi).2.1, upd_eq (hM.2.1 i hi).2.2.1, (hM.2.1 i hi).2.2.2.1, (hM.2.1 i hi).2.2.2.2⟩, hM.2.2⟩, hP, hL, hC, hIm⟩
