/-- laid in full: the street is as it must be -/
theorem WS_Ld {σ τ : St} {o n : Nat} {L : Nat → Nat} {tn : Prop} (hW : WS σ o n) (hpm : isPm n L) (h : Ld σ o (nv σ (o + 1)) L tn n τ) : WS τ o n := by
  obtain ⟨hn, hz, w1, w2, w3, w4⟩ := hW
  obtain ⟨d0, d1, d2, d3⟩ := h
  refine ⟨hn, by rw [d1 o (by omega) (by omega) (by omega) (by omega)]; exact hz, fun j hj => ?_, fun j hj => ?_, fun p hp => ?_, ?_⟩
  · obtain ⟨p, p1, rfl⟩ := hpm.2.1 j hj
    obtain ⟨v1, v2, v3, v4⟩ := w1 _ hj
    rw [d1 (o + 1) (by omega) (by omega) (by omega) (by omega), d1 (o + 4) (by omega) (by omega) (by omega) (by omega)]
    obtain ⟨_, _, y1, y2⟩ := d2 p p1
    by_cases c : tn ∧ nv σ (o + 1) (L p) ≠ 4
    · rw [(y1 c).1, (y1 c).2]; exact ⟨v1, v3, v2, v4⟩
    · rw [(y2 c).1, (y2 c).2]; exact ⟨v1, v2, v3, v4⟩
  · obtain ⟨p, p1, rfl⟩ := hpm.2.1 j hj
    exact ⟨p, p1, (d2 p p1).2.1, (d2 p p1).1⟩
  · exact ⟨L p, hpm.1 p hp, (d2 p hp).1, (d2 p hp).2.1⟩
  · rw [d1 (o + 7) (by omega) (by omega) (by omega) (by omega)]; exact w4
/-- both laid in full: the same street -/
theorem Ld_Md {σ τ υ : St} {o u d b n : Nat} {K L : Nat → Nat} {tn tm : Prop} (hpm : isPm n L) (ht : tn ↔ tm) (hu : ∀ j, j < n → τ.1 u j = σ.1 (o + 2) j) (hd : ∀ j, j < n → τ.1 d j = σ.1 (o + 3) j) {σ' : St} (h : Ld σ o K L tn n σ') (h2 : Md τ u d b K L tm n υ) : ∀ j, j < n → υ.1 u j = σ'.1 (o + 2) j ∧ υ.1 d j = σ'.1 (o + 3) j ∧ υ.1 b j = σ'.1 (o + 5) j := by
  intro j hj
  obtain ⟨p, p1, rfl⟩ := hpm.2.1 j hj
  obtain ⟨_, a1, a2, a3⟩ := h.2.2.1 p p1
  obtain ⟨b1, b2, b3⟩ := h2.2.2.1 p p1
  rw [a1, b1]
  by_cases c : tn ∧ K (L p) ≠ 4
  · have c' : tm ∧ K (L p) ≠ 4 := ⟨ht.mp c.1, c.2⟩
    rw [(a2 c).1, (a2 c).2, (b2 c').1, (b2 c').2, hu _ hj, hd _ hj]
    exact ⟨rfl, rfl, rfl⟩
  · have c' : ¬ (tm ∧ K (L p) ≠ 4) := fun q => c ⟨ht.mpr q.1, q.2⟩
    rw [(a3 c).1, (a3 c).2, (b3 c').1, (b3 c').2, hu _ hj, hd _ hj]
    exact ⟨rfl, rfl, rfl⟩
theorem sm_lay {fu : Nat} (hf : 100 ≤ fu) : Sm_lay fu Inv := by
  intro σ x hI
  obtain ⟨⟨n, hW, hM⟩, hP, hL, hC, hIm⟩ := id hI
  obtain ⟨hn, hz, w1, w2, w3, w4⟩ := id hW
  have s1 := isTooShort_eq fu hn hz
  have s2 := lacks_eq fu hn hM.1
  by_cases h : n < 2
  · rw [if_pos h] at s1 s2
    exact ⟨(-103, σ), (-103, σ), by simp [fX9_lay_0, fX9_lay, xv_0, xv_1, xv_3, xv_4, xv_12, xv_20, xv_22, xv_27, xv_29, xv_32, xv_34, xv_35, xv_43, rv_0_0, rv_0_1, rv_0_2, rv_0_3, rv_0_4, rv_0_5, rv_0_6, rv_0_7, rv_1_0, rv_4_0, rv_4_1, rv_4_2, rv_4_3, rv_4_4, rv_4_5, rv_4_6, rv_12_0, rv_12_1, rv_12_2, rv_12_3, rv_12_4, rv_12_5, rv_12_6, rv_35_0, rv_35_1, rv_35_2, rv_35_3, rv_35_4, rv_35_5, rv_35_6, rv_20_0, rv_27_0, rv_32_0, rv_22_0, rv_22_1, rv_22_2, rv_22_3, rv_22_4, rv_29_0, rv_29_1, rv_29_2, rv_34_0, rv_43_0, rv_43_13, rv_43_14, rv_43_15, rv_43_16, rv_43_17, rv_43_18, rv_43_19, rv_43_20, rv_43_21, rv_43_22, rv_43_30, if_true, Option.bind_some, nm, s1], by simp [fX10_lay_0, fX10_lay, xv_0, xv_1, xv_3, xv_4, xv_12, xv_20, xv_22, xv_27, xv_29, xv_32, xv_34, xv_35, xv_43, rv_0_0, rv_0_1, rv_0_2, rv_0_3, rv_0_4, rv_0_5, rv_0_6, rv_0_7, rv_1_0, rv_4_0, rv_4_1, rv_4_2, rv_4_3, rv_4_4, rv_4_5, rv_4_6, rv_12_0, rv_12_1, rv_12_2, rv_12_3, rv_12_4, rv_12_5, rv_12_6, rv_35_0, rv_35_1, rv_35_2, rv_35_3, rv_35_4, rv_35_5, rv_35_6, rv_20_0, rv_27_0, rv_32_0, rv_22_0, rv_22_1, rv_22_2, rv_22_3, rv_22_4, rv_29_0, rv_29_1, rv_29_2, rv_34_0, rv_43_0, rv_43_13, rv_43_14, rv_43_15, rv_43_16, rv_43_17, rv_43_18, rv_43_19, rv_43_20, rv_43_21, rv_43_22, rv_43_30, if_true, Option.bind_some, nm, s2], rfl, hI⟩
  rw [if_neg h] at s1
  by_cases hx : x < 0
  · have r1 := read_neg hf xv_20 hx hn σ
    have f1 : Fr σ (si σ 20 1 0) := Fr.of 20 21 (by omega) (fun r hr => by rw [si_row, if_neg (by omega)])
    have s3 := lacks_eq fu hn (show (si σ 20 1 0).1 43 12 = nI n from hM.1)
    rw [if_neg h] at s3
    obtain ⟨τ, t1, t2, t3⟩ := readOrder_neg hf hx hn (show (si σ 20 1 0).1 43 12 = nI n from hM.1)
    exact ⟨(-102, si σ 20 1 0), (-102, τ), by simp [fX9_lay_0, fX9_lay, xv_0, xv_1, xv_3, xv_4, xv_12, xv_20, xv_22, xv_27, xv_29, xv_32, xv_34, xv_35, xv_43, rv_0_0, rv_0_1, rv_0_2, rv_0_3, rv_0_4, rv_0_5, rv_0_6, rv_0_7, rv_1_0, rv_4_0, rv_4_1, rv_4_2, rv_4_3, rv_4_4, rv_4_5, rv_4_6, rv_12_0, rv_12_1, rv_12_2, rv_12_3, rv_12_4, rv_12_5, rv_12_6, rv_35_0, rv_35_1, rv_35_2, rv_35_3, rv_35_4, rv_35_5, rv_35_6, rv_20_0, rv_27_0, rv_32_0, rv_22_0, rv_22_1, rv_22_2, rv_22_3, rv_22_4, rv_29_0, rv_29_1, rv_29_2, rv_34_0, rv_43_0, rv_43_13, rv_43_14, rv_43_15, rv_43_16, rv_43_17, rv_43_18, rv_43_19, rv_43_20, rv_43_21, rv_43_22, rv_43_30, if_true, Option.bind_some, nm, s1, size_eq fu xv_4, hz, r1], by simp [fX10_lay_0, fX10_lay, xv_0, xv_1, xv_3, xv_4, xv_12, xv_20, xv_22, xv_27, xv_29, xv_32, xv_34, xv_35, xv_43, rv_0_0, rv_0_1, rv_0_2, rv_0_3, rv_0_4, rv_0_5, rv_0_6, rv_0_7, rv_1_0, rv_4_0, rv_4_1, rv_4_2, rv_4_3, rv_4_4, rv_4_5, rv_4_6, rv_12_0, rv_12_1, rv_12_2, rv_12_3, rv_12_4, rv_12_5, rv_12_6, rv_35_0, rv_35_1, rv_35_2, rv_35_3, rv_35_4, rv_35_5, rv_35_6, rv_20_0, rv_27_0, rv_32_0, rv_22_0, rv_22_1, rv_22_2, rv_22_3, rv_22_4, rv_29_0, rv_29_1, rv_29_2, rv_34_0, rv_43_0, rv_43_13, rv_43_14, rv_43_15, rv_43_16, rv_43_17, rv_43_18, rv_43_19, rv_43_20, rv_43_21, rv_43_22, rv_43_30, if_true, Option.bind_some, nm, s3, t1], rfl, Inv_Fr (f1.tr (Fr.of 51 51 (by omega) (fun r hr => t3 r (by omega)))) hI⟩
  obtain ⟨X, hX, rfl⟩ := nI_of hx
  obtain ⟨σ1, k1, r1, r2, r3, r4, r5, r6⟩ := read_eq hf xv_20 hX hn σ
  have f1 : Fr σ σ1 := Fr.of 20 21 (by omega) (fun r hr => r5 r (by omega) (by omega))
  have g1 : ∀ r, r ≠ 20 → r ≠ 21 → σ1.1 r = σ.1 r := r5
  by_cases ek0 : k1 = 0
  · subst ek0
    have z1 : σ1.1 43 12 = nI n := by rw [g1 43 (by omega) (by omega)]; exact hM.1
    have s3 := lacks_eq fu hn z1
    rw [if_neg h] at s3
    obtain ⟨σ2, k2, t1, t2, t3, t4, t5, t6⟩ := readOrder_eq hf hX hn z1
    have ek : (0 : Int32) = k2 := eq01 (Or.inl rfl) t2 r3 t3
    subst ek
    exact ⟨(-102, σ1), (-102, σ2), by simp [fX9_lay_0, fX9_lay, xv_0, xv_1, xv_3, xv_4, xv_12, xv_20, xv_22, xv_27, xv_29, xv_32, xv_34, xv_35, xv_43, rv_0_0, rv_0_1, rv_0_2, rv_0_3, rv_0_4, rv_0_5, rv_0_6, rv_0_7, rv_1_0, rv_4_0, rv_4_1, rv_4_2, rv_4_3, rv_4_4, rv_4_5, rv_4_6, rv_12_0, rv_12_1, rv_12_2, rv_12_3, rv_12_4, rv_12_5, rv_12_6, rv_35_0, rv_35_1, rv_35_2, rv_35_3, rv_35_4, rv_35_5, rv_35_6, rv_20_0, rv_27_0, rv_32_0, rv_22_0, rv_22_1, rv_22_2, rv_22_3, rv_22_4, rv_29_0, rv_29_1, rv_29_2, rv_34_0, rv_43_0, rv_43_13, rv_43_14, rv_43_15, rv_43_16, rv_43_17, rv_43_18, rv_43_19, rv_43_20, rv_43_21, rv_43_22, rv_43_30, if_true, Option.bind_some, nm, s1, size_eq fu xv_4, hz, r1], by simp [fX10_lay_0, fX10_lay, xv_0, xv_1, xv_3, xv_4, xv_12, xv_20, xv_22, xv_27, xv_29, xv_32, xv_34, xv_35, xv_43, rv_0_0, rv_0_1, rv_0_2, rv_0_3, rv_0_4, rv_0_5, rv_0_6, rv_0_7, rv_1_0, rv_4_0, rv_4_1, rv_4_2, rv_4_3, rv_4_4, rv_4_5, rv_4_6, rv_12_0, rv_12_1, rv_12_2, rv_12_3, rv_12_4, rv_12_5, rv_12_6, rv_35_0, rv_35_1, rv_35_2, rv_35_3, rv_35_4, rv_35_5, rv_35_6, rv_20_0, rv_27_0, rv_32_0, rv_22_0, rv_22_1, rv_22_2, rv_22_3, rv_22_4, rv_29_0, rv_29_1, rv_29_2, rv_34_0, rv_43_0, rv_43_13, rv_43_14, rv_43_15, rv_43_16, rv_43_17, rv_43_18, rv_43_19, rv_43_20, rv_43_21, rv_43_22, rv_43_30, if_true, Option.bind_some, nm, s3, t1], rfl, Inv_Fr (f1.tr (Fr.of 51 51 (by omega) (fun r hr => t5 r (by omega)))) hI⟩
  have ek1 : k1 = 1 := r2.resolve_left ek0
  subst ek1
  obtain ⟨ok, _⟩ := id (r3.mp rfl)
  have hpm := okP_pm hn ok
  obtain ⟨_, _, o3, o4⟩ := r6 rfl
  have v1 : Vw σ1 4 n (nv σ 5) (nv σ 9) := Vw_congr (g1 5 (by omega) (by omega)) (g1 9 (by omega) (by omega)) (WS_Vw hW)
  obtain ⟨a, a1, a2, a3⟩ := allows_eq hf xv_4 xv_20 v1 o3 (fun p hp => ⟨o4 p hp, hpm.1 p hp⟩)
  rw [g1 3 (by omega) (by omega)] at a3
  by_cases ea : a = 0
  · subst ea
    have z1 : σ1.1 43 12 = nI n := by rw [g1 43 (by omega) (by omega)]; exact hM.1
    have s3 := lacks_eq fu hn z1
    rw [if_neg h] at s3
    obtain ⟨σ2, k2, t1, t2, t3, t4, t5, t6⟩ := readOrder_eq hf hX hn z1
    have ek : (1 : Int32) = k2 := eq01 (Or.inr rfl) t2 r3 t3
    subst ek
    have g2 : ∀ r, r ≠ 20 → r ≠ 21 → r ≠ 51 → σ2.1 r = σ.1 r := fun r b1 b2 b3 => (t5 r b3).trans (r5 r b1 b2)
    have v2 : Mw σ2 48 n (nv σ 5) (nv σ 9) := Mw_congr (g2 43 (by omega) (by omega) (by omega)) (g2 45 (by omega) (by omega) (by omega)) (g2 48 (by omega) (by omega) (by omega)) (Mo_Mw hW hM)
    obtain ⟨b, b1, b2, b3⟩ := isLawful_eq hf (show xk 48 = 16 from rfl) v2 (fun p hp => ⟨t6 p hp, hpm.1 p hp⟩)
    rw [g2 43 (by omega) (by omega) (by omega), hL.2.2.2.2.1, hL.2.2.2.2.2.2.1] at b3
    have eab : (0 : Int32) = b := eq01 a2 b2 a3 b3
    subst eab
    exact ⟨(-103, σ1), (-103, σ2), by simp [fX9_lay_0, fX9_lay, xv_0, xv_1, xv_3, xv_4, xv_12, xv_20, xv_22, xv_27, xv_29, xv_32, xv_34, xv_35, xv_43, rv_0_0, rv_0_1, rv_0_2, rv_0_3, rv_0_4, rv_0_5, rv_0_6, rv_0_7, rv_1_0, rv_4_0, rv_4_1, rv_4_2, rv_4_3, rv_4_4, rv_4_5, rv_4_6, rv_12_0, rv_12_1, rv_12_2, rv_12_3, rv_12_4, rv_12_5, rv_12_6, rv_35_0, rv_35_1, rv_35_2, rv_35_3, rv_35_4, rv_35_5, rv_35_6, rv_20_0, rv_27_0, rv_32_0, rv_22_0, rv_22_1, rv_22_2, rv_22_3, rv_22_4, rv_29_0, rv_29_1, rv_29_2, rv_34_0, rv_43_0, rv_43_13, rv_43_14, rv_43_15, rv_43_16, rv_43_17, rv_43_18, rv_43_19, rv_43_20, rv_43_21, rv_43_22, rv_43_30, if_true, Option.bind_some, nm, s1, size_eq fu xv_4, hz, r1, a1], by simp [fX10_lay_0, fX10_lay, xv_0, xv_1, xv_3, xv_4, xv_12, xv_20, xv_22, xv_27, xv_29, xv_32, xv_34, xv_35, xv_43, rv_0_0, rv_0_1, rv_0_2, rv_0_3, rv_0_4, rv_0_5, rv_0_6, rv_0_7, rv_1_0, rv_4_0, rv_4_1, rv_4_2, rv_4_3, rv_4_4, rv_4_5, rv_4_6, rv_12_0, rv_12_1, rv_12_2, rv_12_3, rv_12_4, rv_12_5, rv_12_6, rv_35_0, rv_35_1, rv_35_2, rv_35_3, rv_35_4, rv_35_5, rv_35_6, rv_20_0, rv_27_0, rv_32_0, rv_22_0, rv_22_1, rv_22_2, rv_22_3, rv_22_4, rv_29_0, rv_29_1, rv_29_2, rv_34_0, rv_43_0, rv_43_13, rv_43_14, rv_43_15, rv_43_16, rv_43_17, rv_43_18, rv_43_19, rv_43_20, rv_43_21, rv_43_22, rv_43_30, if_true, Option.bind_some, nm, s3, t1, b1], rfl, Inv_Fr (f1.tr (Fr.of 51 51 (by omega) (fun r hr => t5 r (by omega)))) hI⟩
  have ea1 : a = 1 := a2.resolve_left ea
  subst ea1
  have zo : σ1.1 4 7 = nI n := by rw [g1 4 (by omega) (by omega)]; exact hz
  obtain ⟨σ2, p1, p2⟩ := putDown_eq hf xv_4 xv_20 (by omega) v1 zo o3 o4 hpm (σ.1 3 1)
  have zo2 : σ2.1 4 7 = nI n := by rw [p2.2.1 4 (by omega) (by omega) (by omega) (by omega)]; exact zo
  have hT : fX4_turns fu 3 σ1 = some (σ.1 3 1, σ1) := by
    have e1 : σ1.1 3 1 = σ.1 3 1 := congrFun (g1 3 (by omega) (by omega)) 1
    rw [← e1]
    have h01 : σ1.1 3 1 = 0 ∨ σ1.1 3 1 = 1 := by rw [e1]; exact hL.2.1
    simp only [fX4_turns_0, fX4_turns, xv_0, xv_1, xv_3, xv_4, xv_12, xv_20, xv_22, xv_27, xv_29, xv_32, xv_34, xv_35, xv_43, rv_0_0, rv_0_1, rv_0_2, rv_0_3, rv_0_4, rv_0_5, rv_0_6, rv_0_7, rv_1_0, rv_4_0, rv_4_1, rv_4_2, rv_4_3, rv_4_4, rv_4_5, rv_4_6, rv_12_0, rv_12_1, rv_12_2, rv_12_3, rv_12_4, rv_12_5, rv_12_6, rv_35_0, rv_35_1, rv_35_2, rv_35_3, rv_35_4, rv_35_5, rv_35_6, rv_20_0, rv_27_0, rv_32_0, rv_22_0, rv_22_1, rv_22_2, rv_22_3, rv_22_4, rv_29_0, rv_29_1, rv_29_2, rv_34_0, rv_43_0, rv_43_13, rv_43_14, rv_43_15, rv_43_16, rv_43_17, rv_43_18, rv_43_19, rv_43_20, rv_43_21, rv_43_22, rv_43_30, if_true, Option.bind_some, nm]
    rcases h01 with e | e <;> simp [e]
  have u1 : fX9_lay fu 0 (nI X) σ = some (wst (σ2.1 6) n, σ2) := by
    simp only [fX9_lay_0, fX9_lay, xv_0, xv_1, xv_3, xv_4, xv_12, xv_20, xv_22, xv_27, xv_29, xv_32, xv_34, xv_35, xv_43, rv_0_0, rv_0_1, rv_0_2, rv_0_3, rv_0_4, rv_0_5, rv_0_6, rv_0_7, rv_1_0, rv_4_0, rv_4_1, rv_4_2, rv_4_3, rv_4_4, rv_4_5, rv_4_6, rv_12_0, rv_12_1, rv_12_2, rv_12_3, rv_12_4, rv_12_5, rv_12_6, rv_35_0, rv_35_1, rv_35_2, rv_35_3, rv_35_4, rv_35_5, rv_35_6, rv_20_0, rv_27_0, rv_32_0, rv_22_0, rv_22_1, rv_22_2, rv_22_3, rv_22_4, rv_29_0, rv_29_1, rv_29_2, rv_34_0, rv_43_0, rv_43_13, rv_43_14, rv_43_15, rv_43_16, rv_43_17, rv_43_18, rv_43_19, rv_43_20, rv_43_21, rv_43_22, rv_43_30, if_true, Option.bind_some, nm, s1, size_eq fu xv_4, hz, r1, a1, hT, p1, worstWear_eq hf xv_4 hn zo2]
    rfl
  -- the reference
  have g2 : ∀ r, (r < 4 ∨ 11 < r) → r ≠ 20 → r ≠ 21 → σ2.1 r = σ.1 r := fun r b1 b2 b3 => (p2.2.1 r (by omega) (by omega) (by omega) (by omega)).trans (g1 r b2 b3)
  have z2 : σ2.1 43 12 = nI n := by rw [g2 43 (by omega) (by omega) (by omega)]; exact hM.1
  have s3 := lacks_eq fu hn z2
  rw [if_neg h] at s3
  obtain ⟨σ3, k2, t1, t2, t3, t4, t5, t6⟩ := readOrder_eq hf hX hn z2
  have ek : (1 : Int32) = k2 := eq01 (Or.inr rfl) t2 r3 t3
  subst ek
  have g3 : ∀ r, (r < 4 ∨ 11 < r) → r ≠ 20 → r ≠ 21 → r ≠ 51 → σ3.1 r = σ.1 r := fun r b1 b2 b3 b4 => (t5 r b4).trans (g2 r b1 b2 b3)
  have v3 : Mw σ3 48 n (nv σ 5) (nv σ 9) := Mw_congr (g3 43 (by omega) (by omega) (by omega) (by omega)) (g3 45 (by omega) (by omega) (by omega) (by omega)) (g3 48 (by omega) (by omega) (by omega) (by omega)) (Mo_Mw hW hM)
  obtain ⟨b, b1, b2, b3⟩ := isLawful_eq hf (show xk 48 = 16 from rfl) v3 (fun p hp => ⟨t6 p hp, hpm.1 p hp⟩)
  rw [g3 43 (by omega) (by omega) (by omega) (by omega), hL.2.2.2.2.1, hL.2.2.2.2.2.2.1] at b3
  have eab : (1 : Int32) = b := eq01 a2 b2 a3 b3
  subst eab
  obtain ⟨σ4, q1, q2⟩ := layOn_eq hf (u := 46) (d := 47) (b := 48) rfl rfl rfl (by decide) hn v3.2.1 (fun j hj => ⟨(v3.2.2 j hj).1, (v3.2.2 j hj).2.1⟩) t6 hpm
  have g4 : ∀ r, (r < 4 ∨ 11 < r) → r ≠ 20 → r ≠ 21 → r ≠ 51 → r ≠ 46 → r ≠ 47 → r ≠ 48 → σ4.1 r = σ.1 r := fun r a1 a2 a3 a4 a5 a6 a7 => (q2.2.1 r a5 a6 a7).trans (g3 r a1 a2 a3 a4)
  have k4' : ∀ r, 4 ≤ r → r ≤ 11 → σ4.1 r = σ2.1 r := fun r a1 a2 => (q2.2.1 r (by omega) (by omega) (by omega)).trans (t5 r (by omega))
  have z4 : σ4.1 43 12 = nI n := by rw [g4 43 (by omega) (by omega) (by omega) (by omega) (by omega) (by omega) (by omega)]; exact hM.1
  have u2 : fX10_lay fu 43 (nI X) σ2 = some (wst (σ4.1 46) n, σ4) := by
    simp only [fX10_lay_0, fX10_lay, xv_0, xv_1, xv_3, xv_4, xv_12, xv_20, xv_22, xv_27, xv_29, xv_32, xv_34, xv_35, xv_43, rv_0_0, rv_0_1, rv_0_2, rv_0_3, rv_0_4, rv_0_5, rv_0_6, rv_0_7, rv_1_0, rv_4_0, rv_4_1, rv_4_2, rv_4_3, rv_4_4, rv_4_5, rv_4_6, rv_12_0, rv_12_1, rv_12_2, rv_12_3, rv_12_4, rv_12_5, rv_12_6, rv_35_0, rv_35_1, rv_35_2, rv_35_3, rv_35_4, rv_35_5, rv_35_6, rv_20_0, rv_27_0, rv_32_0, rv_22_0, rv_22_1, rv_22_2, rv_22_3, rv_22_4, rv_29_0, rv_29_1, rv_29_2, rv_34_0, rv_43_0, rv_43_13, rv_43_14, rv_43_15, rv_43_16, rv_43_17, rv_43_18, rv_43_19, rv_43_20, rv_43_21, rv_43_22, rv_43_30, if_true, Option.bind_some, nm, s3, t1, b1, q1, worstOf_eq hf (show xk 46 = 16 from rfl) hn z4]
    rfl
  have htn : (¬ σ.1 3 1 = 0) ↔ σ3.1 43 3 = 1 := by
    rw [g3 43 (by omega) (by omega) (by omega) (by omega), hL.2.2.2.2.2.1]
    rcases hL.2.1 with e | e <;> rw [e] <;> decide
  have hK : nv σ1 5 = nv σ 5 := by unfold nv; rw [g1 5 (by omega) (by omega)]
  have key := Ld_Md (o := 4) (u := 46) (d := 47) (b := 48) (σ := σ1) (τ := σ3) (υ := σ4) hpm htn (fun j hj => by rw [g3 46 (by omega) (by omega) (by omega) (by omega), (hM.2.1 j hj).2.1]; exact (congrFun (g1 6 (by omega) (by omega)) j).symm) (fun j hj => by rw [g3 47 (by omega) (by omega) (by omega) (by omega), (hM.2.1 j hj).2.2.1]; exact (congrFun (g1 7 (by omega) (by omega)) j).symm) p2 q2
  refine ⟨_, _, u1, u2, wst_congr n (fun j hj => (key j hj).1.symm), ?_⟩
  have hW1 : WS σ1 4 n := WS_congr (fun i a b => g1 i (by omega) (by omega)) hW
  have hW2 : WS σ2 4 n := WS_Ld hW1 hpm (by rw [show nv σ1 (4 + 1) = nv σ 5 from hK]; exact p2)
  have gg : ∀ r, r < 4 ∨ (11 < r ∧ r < 20) ∨ (43 < r ∧ r < 46) ∨ r = 49 ∨ r = 50 ∨ r = 55 ∨ r = 43 → σ4.1 r = σ.1 r := fun r hr => g4 r (by omega) (by omega) (by omega) (by omega) (by omega) (by omega) (by omega)
  refine ⟨⟨n, WS_congr (fun i a b => k4' i (by omega) (by omega)) hW2, z4, fun j hj => ⟨?_, ?_, ?_, ?_, ?_⟩, fun p hp => ?_⟩, ?_, ?_, ?_, ?_⟩
  · rw [gg 45 (by omega), k4' 5 (by omega) (by omega), p2.2.1 5 (by omega) (by omega) (by omega) (by omega), g1 5 (by omega) (by omega)]; exact (hM.2.1 j hj).1
  · rw [k4' 6 (by omega) (by omega)]; exact (key j hj).1
  · rw [k4' 7 (by omega) (by omega)]; exact (key j hj).2.1
  · rw [k4' 9 (by omega) (by omega)]; exact (key j hj).2.2
  · rw [gg 49 (by omega), k4' 8 (by omega) (by omega), p2.2.1 8 (by omega) (by omega) (by omega) (by omega), g1 8 (by omega) (by omega)]; exact (hM.2.1 j hj).2.2.2.2
  · rw [gg 50 (by omega), k4' 11 (by omega) (by omega), p2.2.1 11 (by omega) (by omega) (by omega) (by omega), g1 11 (by omega) (by omega)]; exact hM.2.2 p hp
  · unfold Pg; rw [gg 1 (by omega), gg 43 (by omega), gg 44 (by omega), gg 2 (by omega)]; exact hP
  · unfold Lw; rw [gg 3 (by omega), gg 43 (by omega)]; exact hL
  · unfold Cn; rw [gg 0 (by omega), gg 43 (by omega)]; exact hC
  · unfold Im
    rw [gg 0 (by omega), gg 43 (by omega), gg 55 (by omega), gg 13 (by omega), gg 14 (by omega), gg 15 (by omega), gg 16 (by omega), gg 17 (by omega), gg 19 (by omega)]
    rcases hIm with q | ⟨q1, m, q2, q3⟩
    · exact Or.inl q
    · exact Or.inr ⟨q1, m, WS_congr (fun i a b => gg i (by omega)) q2, q3⟩
