/-! best, howMany -/
theorem Inv_Cv {σ : St} {n : Nat} (hW : WS σ 4 n) (hL : Lw σ) (h2 : 2 ≤ n) : Cv σ 4 n (nv σ 5) (nv σ 6) (nv σ 7) (nv σ 11) (nv σ 9) (decide (¬ σ.1 3 1 = 0)) (decide (¬ σ.1 3 0 = 0)) (decide (¬ σ.1 3 2 = 0)) := by
  obtain ⟨hn, hz, w1, w2, w3, w4⟩ := id hW
  refine ⟨hn, h2, xv_4, hz, fun j hj => isN_nv (w1 j hj).1 (by omega), fun j hj => isN_nv (w1 j hj).2.1 (by omega), fun j hj => isN_nv (w1 j hj).2.2.1 (by omega), fun j hj => ⟨(WS_pl hW j hj).1, ?_⟩, fun p hp => isN_nv (w4 p hp) (by omega), decide_eq_true_iff.symm, decide_eq_true_iff.symm, decide_eq_true_iff.symm, hL.2.1, hL.2.2.1⟩
  have : nv σ 9 j < n := (WS_pl hW j hj).2.1
  show nv σ 9 j < 7
  omega
theorem Inv_Mv {σ : St} {n : Nat} (hW : WS σ 4 n) (hM : Mo σ n) (hL : Lw σ) (h2 : 2 ≤ n) : Mv σ 46 47 48 n (nv σ 5) (nv σ 6) (nv σ 7) (nv σ 11) (nv σ 9) (decide (¬ σ.1 3 1 = 0)) (decide (¬ σ.1 3 0 = 0)) (decide (¬ σ.1 3 2 = 0)) := by
  have C := Inv_Cv hW hL h2
  refine ⟨C.hn, h2, rfl, rfl, rfl, hM.1, fun j hj => ?_, fun j hj => ?_, fun j hj => ?_, fun j hj => ?_, fun p hp => ?_, ?_, ?_, ?_⟩
  · rw [(hM.2.1 j hj).1]; exact C.hk j hj
  · rw [(hM.2.1 j hj).2.1]; exact C.hU j hj
  · rw [(hM.2.1 j hj).2.2.1]; exact C.hD j hj
  · rw [(hM.2.1 j hj).2.2.2.1]; exact C.hP j hj
  · rw [hM.2.2 p hp]; exact C.hV p hp
  · rw [hL.2.2.2.2.2.1, decide_eq_true_iff]
    rcases hL.2.1 with e | e <;> rw [e] <;> decide
  · rw [hL.2.2.2.2.1, decide_eq_true_iff]
  · rw [hL.2.2.2.2.2.2.1, decide_eq_true_iff]
theorem Inv_c10 {σ : St} {k : Nat} (hI : Inv σ) (hk : k < 40) : Inv (si (si σ 0 10 (nI (k + 1))) 43 25 (nI (k + 1))) := by
  obtain ⟨hB, hP, hL, ⟨c1, c2, c3, c4⟩, hIm⟩ := hI
  exact ⟨hB, hP, hL, ⟨c1, ⟨k + 1, by omega, rfl, rfl⟩, c3, c4⟩, hIm⟩
theorem Inv_c11 {σ : St} {k : Nat} (hI : Inv σ) (hk : k < 40) : Inv (si (si σ 0 11 (nI (k + 1))) 43 27 (nI (k + 1))) := by
  obtain ⟨hB, hP, hL, ⟨c1, c2, c3, c4⟩, hIm⟩ := hI
  exact ⟨hB, hP, hL, ⟨c1, c2, ⟨k + 1, by omega, rfl, rfl⟩, c4⟩, hIm⟩
theorem Inv_c12 {σ : St} {k : Nat} (hI : Inv σ) (hk : k < 10) : Inv (si (si σ 0 12 (nI (k + 1))) 43 28 (nI (k + 1))) := by
  obtain ⟨hB, hP, hL, ⟨c1, c2, c3, c4⟩, hIm⟩ := hI
  exact ⟨hB, hP, hL, ⟨c1, c2, c3, ⟨k + 1, by omega, rfl, rfl⟩⟩, hIm⟩
theorem l40 : (40 : Int32) = nI 40 := rfl
theorem sm_howMany {fu : Nat} (hf : 6000 ≤ fu) : Sm_howMany fu Inv := by
  intro σ hI
  obtain ⟨⟨n, hW, hM⟩, hP, hL, hC, hIm⟩ := id hI
  obtain ⟨hn, hz, w1, w2, w3, w4⟩ := id hW
  obtain ⟨c1, ⟨k, d1, d2, d3⟩, c3, c4⟩ := id hC
  have s1 := isTooShort_eq fu hn hz
  have s2 := lacks_eq fu hn hM.1
  by_cases h : n < 2
  · rw [if_pos h] at s1 s2
    exact ⟨(-103, σ), (-103, σ), by simp [fX9_howMany_16, fX9_howMany_0, fX9_howMany, xv_0, xv_1, xv_3, xv_4, xv_12, xv_20, xv_22, xv_27, xv_29, xv_32, xv_34, xv_35, xv_43, rv_0_0, rv_0_1, rv_0_2, rv_0_3, rv_0_4, rv_0_5, rv_0_6, rv_0_7, rv_1_0, rv_4_0, rv_4_1, rv_4_2, rv_4_3, rv_4_4, rv_4_5, rv_4_6, rv_12_0, rv_12_1, rv_12_2, rv_12_3, rv_12_4, rv_12_5, rv_12_6, rv_35_0, rv_35_1, rv_35_2, rv_35_3, rv_35_4, rv_35_5, rv_35_6, rv_20_0, rv_27_0, rv_32_0, rv_22_0, rv_22_1, rv_22_2, rv_22_3, rv_22_4, rv_29_0, rv_29_1, rv_29_2, rv_34_0, rv_43_0, rv_43_13, rv_43_14, rv_43_15, rv_43_16, rv_43_17, rv_43_18, rv_43_19, rv_43_20, rv_43_21, rv_43_22, rv_43_30, if_true, Option.bind_some, nm, s1], by simp [fX10_howMany_16, fX10_howMany_0, fX10_howMany, xv_0, xv_1, xv_3, xv_4, xv_12, xv_20, xv_22, xv_27, xv_29, xv_32, xv_34, xv_35, xv_43, rv_0_0, rv_0_1, rv_0_2, rv_0_3, rv_0_4, rv_0_5, rv_0_6, rv_0_7, rv_1_0, rv_4_0, rv_4_1, rv_4_2, rv_4_3, rv_4_4, rv_4_5, rv_4_6, rv_12_0, rv_12_1, rv_12_2, rv_12_3, rv_12_4, rv_12_5, rv_12_6, rv_35_0, rv_35_1, rv_35_2, rv_35_3, rv_35_4, rv_35_5, rv_35_6, rv_20_0, rv_27_0, rv_32_0, rv_22_0, rv_22_1, rv_22_2, rv_22_3, rv_22_4, rv_29_0, rv_29_1, rv_29_2, rv_34_0, rv_43_0, rv_43_13, rv_43_14, rv_43_15, rv_43_16, rv_43_17, rv_43_18, rv_43_19, rv_43_20, rv_43_21, rv_43_22, rv_43_30, if_true, Option.bind_some, nm, s2], rfl, hI⟩
  rw [if_neg h] at s1 s2
  by_cases hk : k = 40
  · subst hk
    refine ⟨(-103, σ), (-103, σ), ?_, ?_, rfl, hI⟩
    · simp only [fX9_howMany_16, fX9_howMany_0, fX9_howMany, xv_0, xv_1, xv_3, xv_4, xv_12, xv_20, xv_22, xv_27, xv_29, xv_32, xv_34, xv_35, xv_43, rv_0_0, rv_0_1, rv_0_2, rv_0_3, rv_0_4, rv_0_5, rv_0_6, rv_0_7, rv_1_0, rv_4_0, rv_4_1, rv_4_2, rv_4_3, rv_4_4, rv_4_5, rv_4_6, rv_12_0, rv_12_1, rv_12_2, rv_12_3, rv_12_4, rv_12_5, rv_12_6, rv_35_0, rv_35_1, rv_35_2, rv_35_3, rv_35_4, rv_35_5, rv_35_6, rv_20_0, rv_27_0, rv_32_0, rv_22_0, rv_22_1, rv_22_2, rv_22_3, rv_22_4, rv_29_0, rv_29_1, rv_29_2, rv_34_0, rv_43_0, rv_43_13, rv_43_14, rv_43_15, rv_43_16, rv_43_17, rv_43_18, rv_43_19, rv_43_20, rv_43_21, rv_43_22, rv_43_30, if_true, Option.bind_some, nm, s1, d2]
      rfl
    · simp only [fX10_howMany_16, fX10_howMany_0, fX10_howMany, xv_0, xv_1, xv_3, xv_4, xv_12, xv_20, xv_22, xv_27, xv_29, xv_32, xv_34, xv_35, xv_43, rv_0_0, rv_0_1, rv_0_2, rv_0_3, rv_0_4, rv_0_5, rv_0_6, rv_0_7, rv_1_0, rv_4_0, rv_4_1, rv_4_2, rv_4_3, rv_4_4, rv_4_5, rv_4_6, rv_12_0, rv_12_1, rv_12_2, rv_12_3, rv_12_4, rv_12_5, rv_12_6, rv_35_0, rv_35_1, rv_35_2, rv_35_3, rv_35_4, rv_35_5, rv_35_6, rv_20_0, rv_27_0, rv_32_0, rv_22_0, rv_22_1, rv_22_2, rv_22_3, rv_22_4, rv_29_0, rv_29_1, rv_29_2, rv_34_0, rv_43_0, rv_43_13, rv_43_14, rv_43_15, rv_43_16, rv_43_17, rv_43_18, rv_43_19, rv_43_20, rv_43_21, rv_43_22, rv_43_30, if_true, Option.bind_some, nm, s2, d3]
      rfl
  have hC4 := Inv_Cv hW hL (by omega)
  obtain ⟨σ1, e1⟩ : ∃ σ1, σ1 = si σ 0 10 (nI (k + 1)) := ⟨_, rfl⟩
  have g1 : ∀ r, r ≠ 0 → σ1.1 r = σ.1 r := fun r hr => by rw [e1, si_row, if_neg hr]
  have C1 := hC4.congr (τ' := σ1) (fun r a b => g1 r (by omega)) (g1 3 (by omega))
  obtain ⟨σ2, a1, a2, a3⟩ := study_eq (fu := fu) (by omega) C1
  have u1 : fX9_howMany fu 0 σ = some (nI (Cq (decide (¬ σ.1 3 0 = 0)) (decide (¬ σ.1 3 2 = 0)) (nv σ 9) (nv σ 5) n 0 7 false), σ2) := by
    simp only [fX9_howMany_16, fX9_howMany_0, fX9_howMany, xv_0, xv_1, xv_3, xv_4, xv_12, xv_20, xv_22, xv_27, xv_29, xv_32, xv_34, xv_35, xv_43, rv_0_0, rv_0_1, rv_0_2, rv_0_3, rv_0_4, rv_0_5, rv_0_6, rv_0_7, rv_1_0, rv_4_0, rv_4_1, rv_4_2, rv_4_3, rv_4_4, rv_4_5, rv_4_6, rv_12_0, rv_12_1, rv_12_2, rv_12_3, rv_12_4, rv_12_5, rv_12_6, rv_35_0, rv_35_1, rv_35_2, rv_35_3, rv_35_4, rv_35_5, rv_35_6, rv_20_0, rv_27_0, rv_32_0, rv_22_0, rv_22_1, rv_22_2, rv_22_3, rv_22_4, rv_29_0, rv_29_1, rv_29_2, rv_34_0, rv_43_0, rv_43_13, rv_43_14, rv_43_15, rv_43_16, rv_43_17, rv_43_18, rv_43_19, rv_43_20, rv_43_21, rv_43_22, rv_43_30, if_true, Option.bind_some, nm, s1, d2]
    rw [l40, if_pos (nI_lt (show k < 40 by omega) (by omega)), nI_1, ← e1, a1]
    simp only [Option.bind_some]
    rw [found_eq fu a3.2.2.1]
    rfl
  have g2 : ∀ r, r ≠ 0 → (r < 22 ∨ 26 < r) → σ2.1 r = σ.1 r := fun r p q => (a2 r q).trans (g1 r p)
  obtain ⟨τ1, e2⟩ : ∃ τ1, τ1 = si σ2 43 25 (nI (k + 1)) := ⟨_, rfl⟩
  have gs : ∀ j, j ≠ 25 → τ1.1 43 j = σ.1 43 j := fun j hj => by
    rw [e2]
    show upd (σ2.1 43) 25 _ j = _
    rw [upd_ne _ _ hj, g2 43 (by omega) (by omega)]
  have gr : ∀ r, r ≠ 43 → r ≠ 0 → (r < 22 ∨ 26 < r) → τ1.1 r = σ.1 r := fun r x p q => by
    rw [e2, si_row, if_neg x]; exact g2 r p q
  have M1 := (Inv_Mv hW hM hL (by omega)).congr (τ' := τ1) (gr 46 (by omega) (by omega) (by omega)) (gr 47 (by omega) (by omega) (by omega)) (gr 48 (by omega) (by omega) (by omega)) (gr 45 (by omega) (by omega) (by omega)) (gr 50 (by omega) (by omega) (by omega)) (gs 2 (by omega)) (gs 3 (by omega)) (gs 4 (by omega)) (gs 12 (by omega))
  obtain ⟨τ2, f1, f2, f3, f4⟩ := findBest_eq hf M1 (by decide)
  have bs := best_spec (nb := decide (¬ σ.1 3 0 = 0)) (tb := decide (¬ σ.1 3 2 = 0)) (P := nv σ 9) (K := nv σ 5) (n := n) (wIf_le (decide (¬ σ.1 3 1 = 0)) (nv σ 5) (nv σ 6) (nv σ 7) (nv σ 11))
  have s3 := lacks_eq fu hn (show σ2.1 43 12 = nI n by rw [g2 43 (by omega) (by omega)]; exact hM.1)
  rw [if_neg h] at s3
  have u2 : fX10_howMany fu 43 σ2 = some (nI (Cq (decide (¬ σ.1 3 0 = 0)) (decide (¬ σ.1 3 2 = 0)) (nv σ 9) (nv σ 5) n 0 7 false), τ2) := by
    simp only [fX10_howMany_16, fX10_howMany_0, fX10_howMany, xv_0, xv_1, xv_3, xv_4, xv_12, xv_20, xv_22, xv_27, xv_29, xv_32, xv_34, xv_35, xv_43, rv_0_0, rv_0_1, rv_0_2, rv_0_3, rv_0_4, rv_0_5, rv_0_6, rv_0_7, rv_1_0, rv_4_0, rv_4_1, rv_4_2, rv_4_3, rv_4_4, rv_4_5, rv_4_6, rv_12_0, rv_12_1, rv_12_2, rv_12_3, rv_12_4, rv_12_5, rv_12_6, rv_35_0, rv_35_1, rv_35_2, rv_35_3, rv_35_4, rv_35_5, rv_35_6, rv_20_0, rv_27_0, rv_32_0, rv_22_0, rv_22_1, rv_22_2, rv_22_3, rv_22_4, rv_29_0, rv_29_1, rv_29_2, rv_34_0, rv_43_0, rv_43_13, rv_43_14, rv_43_15, rv_43_16, rv_43_17, rv_43_18, rv_43_19, rv_43_20, rv_43_21, rv_43_22, rv_43_30, if_true, Option.bind_some, nm, s3]
    rw [show σ2.1 43 25 = nI k by rw [g2 43 (by omega) (by omega)]; exact d3, l40, if_neg (fun q => hk ((nI_eq (by omega) (by omega)).mp q)), nI_1, ← e2, f1, bs.1]
    rfl
  refine ⟨_, _, u1, u2, rfl, ?_⟩
  refine Inv_Fr ⟨fun r r1 r2 r3 => ?_, fun j j1 j2 j3 j4 => ?_⟩ (Inv_c10 (k := k) hI (by omega))
  · rw [f2.1 r (by omega) r2, e2, si_row, if_neg r2, si_row, if_neg r2, a2 r (by omega), e1]
  · rw [f2.2 j j2 j3, e2]
    show upd (σ2.1 43) 25 _ j = upd (σ.1 43) 25 _ j
    rw [g2 43 (by omega) (by omega)]
theorem sm_best {fu : Nat} (hf : 6000 ≤ fu) : Sm_best fu Inv := by
  intro σ x hI
  obtain ⟨⟨n, hW, hM⟩, hP, hL, hC, hIm⟩ := id hI
  obtain ⟨hn, hz, w1, w2, w3, w4⟩ := id hW
  obtain ⟨c1, ⟨k, d1, d2, d3⟩, c3, c4⟩ := id hC
  have s1 := isTooShort_eq fu hn hz
  have s2 := lacks_eq fu hn hM.1
  by_cases h : n < 2
  · rw [if_pos h] at s1 s2
    exact ⟨(-103, σ), (-103, σ), by simp [fX9_best_95, fX9_best_0, fX9_best, xv_0, xv_1, xv_3, xv_4, xv_12, xv_20, xv_22, xv_27, xv_29, xv_32, xv_34, xv_35, xv_43, rv_0_0, rv_0_1, rv_0_2, rv_0_3, rv_0_4, rv_0_5, rv_0_6, rv_0_7, rv_1_0, rv_4_0, rv_4_1, rv_4_2, rv_4_3, rv_4_4, rv_4_5, rv_4_6, rv_12_0, rv_12_1, rv_12_2, rv_12_3, rv_12_4, rv_12_5, rv_12_6, rv_35_0, rv_35_1, rv_35_2, rv_35_3, rv_35_4, rv_35_5, rv_35_6, rv_20_0, rv_27_0, rv_32_0, rv_22_0, rv_22_1, rv_22_2, rv_22_3, rv_22_4, rv_29_0, rv_29_1, rv_29_2, rv_34_0, rv_43_0, rv_43_13, rv_43_14, rv_43_15, rv_43_16, rv_43_17, rv_43_18, rv_43_19, rv_43_20, rv_43_21, rv_43_22, rv_43_30, if_true, Option.bind_some, nm, s1], by simp [fX10_best_82, fX10_best_71, fX10_best_0, fX10_best, xv_0, xv_1, xv_3, xv_4, xv_12, xv_20, xv_22, xv_27, xv_29, xv_32, xv_34, xv_35, xv_43, rv_0_0, rv_0_1, rv_0_2, rv_0_3, rv_0_4, rv_0_5, rv_0_6, rv_0_7, rv_1_0, rv_4_0, rv_4_1, rv_4_2, rv_4_3, rv_4_4, rv_4_5, rv_4_6, rv_12_0, rv_12_1, rv_12_2, rv_12_3, rv_12_4, rv_12_5, rv_12_6, rv_35_0, rv_35_1, rv_35_2, rv_35_3, rv_35_4, rv_35_5, rv_35_6, rv_20_0, rv_27_0, rv_32_0, rv_22_0, rv_22_1, rv_22_2, rv_22_3, rv_22_4, rv_29_0, rv_29_1, rv_29_2, rv_34_0, rv_43_0, rv_43_13, rv_43_14, rv_43_15, rv_43_16, rv_43_17, rv_43_18, rv_43_19, rv_43_20, rv_43_21, rv_43_22, rv_43_30, if_true, Option.bind_some, nm, s2], rfl, hI⟩
  rw [if_neg h] at s1 s2
  have i1 := isWithin_eq fu x 0 1 σ
  have i2 : ∀ τ : St, fX10_in fu x.toInt64 (0 : Int64) (1 : Int64) τ = _ := fun τ => in_eq32 fu x 0 1 τ
  by_cases hx : x < 0 ∨ 1 < x
  · have i2 := i2 σ
    rw [if_pos hx] at i1 i2
    exact ⟨(-102, σ), (-102, σ), by simp [fX9_best_95, fX9_best_0, fX9_best, xv_0, xv_1, xv_3, xv_4, xv_12, xv_20, xv_22, xv_27, xv_29, xv_32, xv_34, xv_35, xv_43, rv_0_0, rv_0_1, rv_0_2, rv_0_3, rv_0_4, rv_0_5, rv_0_6, rv_0_7, rv_1_0, rv_4_0, rv_4_1, rv_4_2, rv_4_3, rv_4_4, rv_4_5, rv_4_6, rv_12_0, rv_12_1, rv_12_2, rv_12_3, rv_12_4, rv_12_5, rv_12_6, rv_35_0, rv_35_1, rv_35_2, rv_35_3, rv_35_4, rv_35_5, rv_35_6, rv_20_0, rv_27_0, rv_32_0, rv_22_0, rv_22_1, rv_22_2, rv_22_3, rv_22_4, rv_29_0, rv_29_1, rv_29_2, rv_34_0, rv_43_0, rv_43_13, rv_43_14, rv_43_15, rv_43_16, rv_43_17, rv_43_18, rv_43_19, rv_43_20, rv_43_21, rv_43_22, rv_43_30, if_true, Option.bind_some, nm, s1, i1], by simp [fX10_best_82, fX10_best_71, fX10_best_0, fX10_best, xv_0, xv_1, xv_3, xv_4, xv_12, xv_20, xv_22, xv_27, xv_29, xv_32, xv_34, xv_35, xv_43, rv_0_0, rv_0_1, rv_0_2, rv_0_3, rv_0_4, rv_0_5, rv_0_6, rv_0_7, rv_1_0, rv_4_0, rv_4_1, rv_4_2, rv_4_3, rv_4_4, rv_4_5, rv_4_6, rv_12_0, rv_12_1, rv_12_2, rv_12_3, rv_12_4, rv_12_5, rv_12_6, rv_35_0, rv_35_1, rv_35_2, rv_35_3, rv_35_4, rv_35_5, rv_35_6, rv_20_0, rv_27_0, rv_32_0, rv_22_0, rv_22_1, rv_22_2, rv_22_3, rv_22_4, rv_29_0, rv_29_1, rv_29_2, rv_34_0, rv_43_0, rv_43_13, rv_43_14, rv_43_15, rv_43_16, rv_43_17, rv_43_18, rv_43_19, rv_43_20, rv_43_21, rv_43_22, rv_43_30, if_true, Option.bind_some, nm, s2, i2], rfl, hI⟩
  rw [if_neg hx] at i1
  simp only [if_neg hx] at i2
  by_cases hk : k = 40
  · subst hk
    refine ⟨(-103, σ), (-103, σ), ?_, ?_, rfl, hI⟩
    · simp only [fX9_best_95, fX9_best_0, fX9_best, xv_0, xv_1, xv_3, xv_4, xv_12, xv_20, xv_22, xv_27, xv_29, xv_32, xv_34, xv_35, xv_43, rv_0_0, rv_0_1, rv_0_2, rv_0_3, rv_0_4, rv_0_5, rv_0_6, rv_0_7, rv_1_0, rv_4_0, rv_4_1, rv_4_2, rv_4_3, rv_4_4, rv_4_5, rv_4_6, rv_12_0, rv_12_1, rv_12_2, rv_12_3, rv_12_4, rv_12_5, rv_12_6, rv_35_0, rv_35_1, rv_35_2, rv_35_3, rv_35_4, rv_35_5, rv_35_6, rv_20_0, rv_27_0, rv_32_0, rv_22_0, rv_22_1, rv_22_2, rv_22_3, rv_22_4, rv_29_0, rv_29_1, rv_29_2, rv_34_0, rv_43_0, rv_43_13, rv_43_14, rv_43_15, rv_43_16, rv_43_17, rv_43_18, rv_43_19, rv_43_20, rv_43_21, rv_43_22, rv_43_30, if_true, Option.bind_some, nm, s1, i1, d2]
      rfl
    · simp only [fX10_best_82, fX10_best_71, fX10_best_0, fX10_best, xv_0, xv_1, xv_3, xv_4, xv_12, xv_20, xv_22, xv_27, xv_29, xv_32, xv_34, xv_35, xv_43, rv_0_0, rv_0_1, rv_0_2, rv_0_3, rv_0_4, rv_0_5, rv_0_6, rv_0_7, rv_1_0, rv_4_0, rv_4_1, rv_4_2, rv_4_3, rv_4_4, rv_4_5, rv_4_6, rv_12_0, rv_12_1, rv_12_2, rv_12_3, rv_12_4, rv_12_5, rv_12_6, rv_35_0, rv_35_1, rv_35_2, rv_35_3, rv_35_4, rv_35_5, rv_35_6, rv_20_0, rv_27_0, rv_32_0, rv_22_0, rv_22_1, rv_22_2, rv_22_3, rv_22_4, rv_29_0, rv_29_1, rv_29_2, rv_34_0, rv_43_0, rv_43_13, rv_43_14, rv_43_15, rv_43_16, rv_43_17, rv_43_18, rv_43_19, rv_43_20, rv_43_21, rv_43_22, rv_43_30, if_true, Option.bind_some, nm, s2, i2, d3]
      rfl
  have hC4 := Inv_Cv hW hL (by omega)
  obtain ⟨σ1, e1⟩ : ∃ σ1, σ1 = si σ 0 10 (nI (k + 1)) := ⟨_, rfl⟩
  have g1 : ∀ r, r ≠ 0 → σ1.1 r = σ.1 r := fun r hr => by rw [e1, si_row, if_neg hr]
  have C1 := hC4.congr (τ' := σ1) (fun r a b => g1 r (by omega)) (g1 3 (by omega))
  obtain ⟨σ2, a1, a2, a3⟩ := study_eq (fu := fu) (by omega) C1
  obtain ⟨w, ew⟩ : ∃ w, w = wIf (decide (¬ σ.1 3 1 = 0)) (nv σ 5) (nv σ 6) (nv σ 7) (nv σ 11) := ⟨_, rfl⟩
  have hw : ∀ x p, w x p ≤ 999 := by rw [ew]; exact wIf_le _ _ _ _ _
  rw [← ew] at a3
  obtain ⟨b1, b2, b3⟩ := best_spec (nb := decide (¬ σ.1 3 0 = 0)) (tb := decide (¬ σ.1 3 2 = 0)) (P := nv σ 9) (K := nv σ 5) (n := n) hw
  obtain ⟨q, eq⟩ : ∃ q, q = Cq (decide (¬ σ.1 3 0 = 0)) (decide (¬ σ.1 3 2 = 0)) (nv σ 9) (nv σ 5) n 0 7 false := ⟨_, rfl⟩
  have hq : q ≤ 5040 := by
    rw [eq]
    unfold Cq
    rw [cS_0, Nat.sub_zero, cntA_eq]
    exact Nat.le_trans List.countP_le_length (len7 n (by omega))
  have fo := found_eq fu a3.2.2.1
  rw [← eq] at b1 b2 b3 fo
  -- the reference from any state behind the class's
  have ref : ∀ σ3 : St, (∀ r, r ≠ 0 → (r < 22 ∨ 28 < r) → σ3.1 r = σ.1 r) → σ3.1 0 = σ1.1 0 → ∃ τ2, Inv τ2 ∧ τ2.1 43 23 = n23 (fbS (acc (stL (decide (¬ σ.1 3 0 = 0)) (decide (¬ σ.1 3 2 = 0)) (nv σ 9) (nv σ 5)) fnL (7, false) 0) (mxW w 0) (exts n n 0) 0 none 100000).2.1 ∧ τ2.1 43 24 = nI (fbS (acc (stL (decide (¬ σ.1 3 0 = 0)) (decide (¬ σ.1 3 2 = 0)) (nv σ 9) (nv σ 5)) fnL (7, false) 0) (mxW w 0) (exts n n 0) 0 none 100000).2.2 ∧ fX10_best fu 43 x σ3 = some (if q = 0 then τ2.1 43 23 else if x = 1 then τ2.1 43 23 else τ2.1 43 24, τ2) := by
    intro σ3 g3 g0
    obtain ⟨τ1, e2⟩ : ∃ τ1, τ1 = si σ3 43 25 (nI (k + 1)) := ⟨_, rfl⟩
    have gs : ∀ j, j ≠ 25 → τ1.1 43 j = σ.1 43 j := fun j hj => by
      rw [e2]
      show upd (σ3.1 43) 25 _ j = _
      rw [upd_ne _ _ hj, g3 43 (by omega) (by omega)]
    have gr : ∀ r, r ≠ 43 → r ≠ 0 → (r < 22 ∨ 28 < r) → τ1.1 r = σ.1 r := fun r x p q => by
      rw [e2, si_row, if_neg x]; exact g3 r p q
    have M1 := (Inv_Mv hW hM hL (by omega)).congr (τ' := τ1) (gr 46 (by omega) (by omega) (by omega)) (gr 47 (by omega) (by omega) (by omega)) (gr 48 (by omega) (by omega) (by omega)) (gr 45 (by omega) (by omega) (by omega)) (gr 50 (by omega) (by omega) (by omega)) (gs 2 (by omega)) (gs 3 (by omega)) (gs 4 (by omega)) (gs 12 (by omega))
    obtain ⟨τ2, f1, f2, f3, f4⟩ := findBest_eq hf M1 (by decide)
    rw [← ew, b1] at f1
    rw [← ew] at f3 f4
    have s3 := lacks_eq fu hn (show σ3.1 43 12 = nI n by rw [g3 43 (by omega) (by omega)]; exact hM.1)
    rw [if_neg h] at s3
    refine ⟨τ2, ?_, f3, f4, ?_⟩
    · refine Inv_Fr ⟨fun r r1 r2 r3 => ?_, fun j j1 j2 j3 j4 => ?_⟩ (Inv_c10 (k := k) hI (by omega))
      · rw [f2.1 r (by omega) r2, e2, si_row, if_neg r2, si_row, if_neg r2]
        by_cases z : r = 0
        · rw [z, g0, e1]
        · rw [g3 r z (by omega), si_row, if_neg z]
      · rw [f2.2 j j2 j3, e2]
        show upd (σ3.1 43) 25 _ j = upd (σ.1 43) 25 _ j
        rw [g3 43 (by omega) (by omega)]
    · simp only [fX10_best_82, fX10_best_71, fX10_best_0, fX10_best, xv_0, xv_1, xv_3, xv_4, xv_12, xv_20, xv_22, xv_27, xv_29, xv_32, xv_34, xv_35, xv_43, rv_0_0, rv_0_1, rv_0_2, rv_0_3, rv_0_4, rv_0_5, rv_0_6, rv_0_7, rv_1_0, rv_4_0, rv_4_1, rv_4_2, rv_4_3, rv_4_4, rv_4_5, rv_4_6, rv_12_0, rv_12_1, rv_12_2, rv_12_3, rv_12_4, rv_12_5, rv_12_6, rv_35_0, rv_35_1, rv_35_2, rv_35_3, rv_35_4, rv_35_5, rv_35_6, rv_20_0, rv_27_0, rv_32_0, rv_22_0, rv_22_1, rv_22_2, rv_22_3, rv_22_4, rv_29_0, rv_29_1, rv_29_2, rv_34_0, rv_43_0, rv_43_13, rv_43_14, rv_43_15, rv_43_16, rv_43_17, rv_43_18, rv_43_19, rv_43_20, rv_43_21, rv_43_22, rv_43_30, if_true, Option.bind_some, nm, s3, i2]
      rw [if_neg (by decide), show σ3.1 43 25 = nI k by rw [g3 43 (by omega) (by omega)]; exact d3, l40, if_neg (fun q => hk ((nI_eq (by omega) (by omega)).mp q)), nI_1, ← e2, f1]
      simp only [Option.bind_some]
      by_cases z : q = 0
      · rw [if_pos z, z, if_pos (by decide)]
      · rw [if_neg z, if_neg (nI_ne0 (by omega) (by omega))]
        by_cases z2 : x = 1
        · rw [if_pos z2, if_pos z2]
        · rw [if_neg z2, if_neg z2]
  have head : ∀ o : Option (Int32 × St), (if q = 0 then some (-1, σ2) else if x = 0 then (fX5_leastWorst fu 22 σ2).bind fun q114 => some (q114.1, q114.2) else (fX5_bestOrder fu 22 σ2).bind fun q111 => if xk q111.1 = 4 then (fX6_told fu q111.1 q111.2).bind fun q113 => some (q113.1, q113.2) else none) = o → fX9_best fu 0 x σ = o := by
    intro o ho
    simp only [fX9_best_95, fX9_best_0, fX9_best, xv_0, xv_1, xv_3, xv_4, xv_12, xv_20, xv_22, xv_27, xv_29, xv_32, xv_34, xv_35, xv_43, rv_0_0, rv_0_1, rv_0_2, rv_0_3, rv_0_4, rv_0_5, rv_0_6, rv_0_7, rv_1_0, rv_4_0, rv_4_1, rv_4_2, rv_4_3, rv_4_4, rv_4_5, rv_4_6, rv_12_0, rv_12_1, rv_12_2, rv_12_3, rv_12_4, rv_12_5, rv_12_6, rv_35_0, rv_35_1, rv_35_2, rv_35_3, rv_35_4, rv_35_5, rv_35_6, rv_20_0, rv_27_0, rv_32_0, rv_22_0, rv_22_1, rv_22_2, rv_22_3, rv_22_4, rv_29_0, rv_29_1, rv_29_2, rv_34_0, rv_43_0, rv_43_13, rv_43_14, rv_43_15, rv_43_16, rv_43_17, rv_43_18, rv_43_19, rv_43_20, rv_43_21, rv_43_22, rv_43_30, if_true, Option.bind_some, nm, s1, i1, d2]
    rw [if_neg (by decide), l40, if_pos (nI_lt (show k < 40 by omega) (by omega)), nI_1, ← e1, a1]
    simp only [Option.bind_some]
    rw [fo]
    simp only [Option.bind_some]
    by_cases z : q = 0
    · rw [if_pos z] at ho
      rw [z, if_pos (by decide)]
      exact ho
    · rw [if_neg z] at ho
      rw [if_neg (nI_ne0 (by omega) (by omega))]
      exact ho
  have g2 : ∀ r, r ≠ 0 → (r < 22 ∨ 26 < r) → σ2.1 r = σ.1 r := fun r p q => (a2 r q).trans (g1 r p)
  by_cases z : q = 0
  · obtain ⟨τ2, t1, t2, t3, t4⟩ := ref σ2 (fun r p q => g2 r p (by omega)) (a2 0 (by omega))
    rw [if_pos z] at t4
    refine ⟨(-1, σ2), _, head _ (by rw [if_pos z]), t4, ?_, t1⟩
    rw [t2, b2 z]
    rfl
  obtain ⟨v1, v2, F, v3, v4⟩ := b3 (by omega)
  by_cases x0 : x = 0
  · obtain ⟨τ2, t1, t2, t3, t4⟩ := ref σ2 (fun r p q => g2 r p (by omega)) (a2 0 (by omega))
    rw [if_neg z, if_neg (by rw [x0]; decide)] at t4
    refine ⟨(nI (Lq (decide (¬ σ.1 3 0 = 0)) (decide (¬ σ.1 3 2 = 0)) (nv σ 9) (nv σ 5) w n 0 7 false), σ2), _, head _ ?_, t4, ?_, t1⟩
    · rw [if_neg z, if_pos x0, least_eq fu a3.2.2.2]
      rfl
    · rw [t3, v1]
  · have x1 : x = 1 := by
      obtain ⟨j, j1, j2⟩ := in_nI 1 (fun q => hx (Or.inl q)) (by
        rcases Classical.em (x ≤ nI 1) with q | q
        · exact q
        · exact absurd (Or.inr (not_le_lt.mp q)) hx) (by omega)
      have : j = 1 := by
        rcases Nat.lt_or_ge j 1 with q | q
        · exact absurd (by rw [j2, show j = 0 by omega]; rfl) x0
        · omega
      rw [j2, this]
      rfl
    obtain ⟨σ3, y1, y2⟩ := bestOrder_eq (fu := fu) (by omega) hn hw a3 v2 rfl v3
    obtain ⟨τ2, t1, t2, t3, t4⟩ := ref σ3 (fun r p q => (y2.2.1 r (by omega) (by omega)).trans (g2 r p (by omega))) ((y2.2.1 0 (by omega) (by omega)).trans (a2 0 (by omega)))
    rw [if_neg z, if_pos x1] at t4
    have hm := exts_mem n 0 F (List.mem_of_find?_eq_some v3)
    have hb : ∀ p, p < n → gd F p < 8 := fun p hp => by
      have := (okM_gd F 0 hm.2 p (by rw [hm.1]; exact hp)).1
      omega
    refine ⟨(nI (num F), σ3), _, head _ ?_, t4, ?_, t1⟩
    · rw [if_neg z, if_neg x0, y1]
      simp only [Option.bind_some]
      rw [if_pos xv_27, otold_eq (by omega) xv_27 hn (by omega) hm.1 hb y2.2.2.1 y2.2.2.2]
      rfl
    · rw [t2, v4]
      rfl
