theorem WS_pl {σ : St} {o n : Nat} (h : WS σ o n) : ∀ j, j < n → σ.1 (o + 5) j = nI (nv σ (o + 5) j) ∧ nv σ (o + 5) j < n ∧ σ.1 (o + 6) (nv σ (o + 5) j) = nI j := by
  intro j hj
  obtain ⟨p, p1, p2, p3⟩ := h.2.2.2.1 j hj
  have : nv σ (o + 5) j = p := by unfold nv; rw [p2, nI_clamp (by have := h.1; omega)]
  rw [this]
  exact ⟨p2, p1, p3⟩
theorem WS_ly {σ : St} {o n : Nat} (h : WS σ o n) : ∀ p, p < n → σ.1 (o + 6) p = nI (nv σ (o + 6) p) ∧ nv σ (o + 6) p < n ∧ σ.1 (o + 5) (nv σ (o + 6) p) = nI p := by
  intro p hp
  obtain ⟨j, p1, p2, p3⟩ := h.2.2.2.2.1 p hp
  have : nv σ (o + 6) p = j := by unfold nv; rw [p2, nI_clamp (by have := h.1; omega)]
  rw [this]
  exact ⟨p2, p1, p3⟩
theorem yrF_isN {K Vv f : Nat → Int32} {P : Nat → Nat} {n : Nat} (hK : ∀ j, j < n → isN (K j) 4) (hf : ∀ j, j < n → isN (f j) 999) (hV : ∀ p, p < 7 → isN (Vv p) 9) (hP : ∀ j, j < n → P j < 7) : ∀ j, j < n → isN (yrF K P Vv f n j) 999 := by
  intro j hj
  unfold yrF
  rw [if_pos hj]
  exact wornI_isN (hK j hj) (hf j hj) (hV _ (hP j hj))
def yrT (K : Nat → Int32) (P : Nat → Nat) (Vv f : Nat → Int32) (n : Nat) : Nat → Nat → Int32
  | 0 => f
  | t + 1 => yrF K P Vv (yrT K P Vv f n t) n
theorem yrT_isN {K Vv f : Nat → Int32} {P : Nat → Nat} {n : Nat} (hK : ∀ j, j < n → isN (K j) 4) (hf : ∀ j, j < n → isN (f j) 999) (hV : ∀ p, p < 7 → isN (Vv p) 9) (hP : ∀ j, j < n → P j < 7) : ∀ t j, j < n → isN (yrT K P Vv f n t j) 999
  | 0, j, hj => hf j hj
  | t + 1, j, hj => yrF_isN hK (yrT_isN hK hf hV hP t) hV hP j hj
theorem yrT_congr {K K' Vv Vv' f f' : Nat → Int32} {P P' : Nat → Nat} {n : Nat} (hK : ∀ j, j < n → K j = K' j) (hP : ∀ j, j < n → P j = P' j ∧ P j < 7) (hV : ∀ p, p < 7 → Vv p = Vv' p) (hf : ∀ j, j < n → f j = f' j) : ∀ t j, j < n → yrT K P Vv f n t j = yrT K' P' Vv' f' n t j
  | 0, j, hj => hf j hj
  | t + 1, j, hj => by
    show yrF _ _ _ _ _ j = yrF _ _ _ _ _ j
    unfold yrF
    rw [if_pos hj, if_pos hj, hK j hj, yrT_congr hK hP hV hf t j hj, hV _ (hP j hj).2, (hP j hj).1]
theorem years_lp {fu : Nat} (hf : 100 ≤ fu) {n : Nat} {σ : St} (hW : WS σ 4 n) (y : Nat) (hy : y ≤ 99) : ∀ (m i : Nat), i ≤ y → y - i < m → fX9_years_25 fu 0 (nI y) m (nI i) (sc σ 6 (yrT (σ.1 5) (nv σ 9) (σ.1 11) (σ.1 6) n i)) = some (wst (yrT (σ.1 5) (nv σ 9) (σ.1 11) (σ.1 6) n y) n, sc σ 6 (yrT (σ.1 5) (nv σ 9) (σ.1 11) (σ.1 6) n y)) := by
  intro m
  induction m with
  | zero => intro i h1 h2; omega
  | succ m ih =>
    intro i h1 h2
    show fX9_years_25b fu (fX9_years_25 fu 0 (nI y) m) 0 (nI y) (nI i) _ = _
    unfold fX9_years_25b
    rw [rv_0_2]
    by_cases c : i < y
    · rw [if_neg (nI_ge c (by omega))]
      have h := wearForAYear_eq (σ := sc σ 6 (yrT (σ.1 5) (nv σ 9) (σ.1 11) (σ.1 6) n i)) hf xv_4 hW.1 hW.2.1 (fun j hj => ⟨(WS_pl hW j hj).1, Nat.lt_of_lt_of_le (WS_pl hW j hj).2.1 hW.1⟩)
      rw [h]
      simp only [Option.bind_some, nm]
      rw [nI_1, sc_sc]
      exact ih (i + 1) (by omega) (by omega)
    · have : i = y := by omega
      subst this
      rw [if_pos (nI_le (Nat.le_refl _) (by omega)), worstWear_eq hf xv_4 hW.1 (show (sc σ 6 _).1 4 7 = nI n from hW.2.1)]
      rfl
theorem myears_lp {fu : Nat} (hf : 100 ≤ fu) {n : Nat} {σ : St} (hn : n ≤ 7) (hz : σ.1 43 12 = nI n) (hp : ∀ j, j < n → σ.1 48 j = nI (nv σ 48 j) ∧ nv σ 48 j < 7) (y : Nat) (hy : y ≤ 99) : ∀ (m i : Nat), i ≤ y → y - i < m → fX10_years_27 fu 43 (nI y) m (nI i) (sc σ 46 (yrT (σ.1 45) (nv σ 48) (σ.1 50) (σ.1 46) n i)) = some (wst (yrT (σ.1 45) (nv σ 48) (σ.1 50) (σ.1 46) n y) n, sc σ 46 (yrT (σ.1 45) (nv σ 48) (σ.1 50) (σ.1 46) n y)) := by
  intro m
  induction m with
  | zero => intro i h1 h2; omega
  | succ m ih =>
    intro i h1 h2
    show fX10_years_27b fu (fX10_years_27 fu 43 (nI y) m) 43 (nI y) (nI i) _ = _
    unfold fX10_years_27b
    rw [rv_43_14, rv_43_16]
    by_cases c : i < y
    · rw [if_neg (nI_ge c (by omega))]
      have h := yearOn_eq (σ := sc σ 46 (yrT (σ.1 45) (nv σ 48) (σ.1 50) (σ.1 46) n i)) hf (show xk 46 = 16 from rfl) (show xk 48 = 16 from rfl) (by decide) hn hz hp
      rw [h]
      simp only [Option.bind_some, nm]
      rw [nI_1, sc_sc]
      exact ih (i + 1) (by omega) (by omega)
    · have : i = y := by omega
      subst this
      rw [if_pos (nI_le (Nat.le_refl _) (by omega)), worstOf_eq hf (show xk 46 = 16 from rfl) hn (show (sc σ 46 _).1 43 12 = nI n from hz)]
      rfl
theorem sm_years {fu : Nat} (hf : 200 ≤ fu) : Sm_years fu Inv := by
  intro σ a0 hI
  obtain ⟨⟨n, hW, hM⟩, hP, hL, hC, hIm⟩ := id hI
  obtain ⟨hn, hz, w1, w2, w3, w4⟩ := id hW
  have s1 := isTooShort_eq fu hn hz
  have s2 := lacks_eq fu hn hM.1
  by_cases h : n < 2
  · rw [if_pos h] at s1 s2
    exact ⟨(-103, σ), (-103, σ), by simp [fX9_years_25b, fX9_years_25, fX9_years_0, fX9_years, xv_0, xv_1, xv_3, xv_4, xv_12, xv_20, xv_22, xv_27, xv_29, xv_32, xv_34, xv_35, xv_43, rv_0_0, rv_0_1, rv_0_2, rv_0_3, rv_0_4, rv_0_5, rv_0_6, rv_0_7, rv_1_0, rv_4_0, rv_4_1, rv_4_2, rv_4_3, rv_4_4, rv_4_5, rv_4_6, rv_12_0, rv_12_1, rv_12_2, rv_12_3, rv_12_4, rv_12_5, rv_12_6, rv_35_0, rv_35_1, rv_35_2, rv_35_3, rv_35_4, rv_35_5, rv_35_6, rv_20_0, rv_27_0, rv_32_0, rv_22_0, rv_22_1, rv_22_2, rv_22_3, rv_22_4, rv_29_0, rv_29_1, rv_29_2, rv_34_0, rv_43_0, rv_43_13, rv_43_14, rv_43_15, rv_43_16, rv_43_17, rv_43_18, rv_43_19, rv_43_20, rv_43_21, rv_43_22, rv_43_30, if_true, Option.bind_some, nm, s1], by simp [fX10_years_27b, fX10_years_27, fX10_years_0, fX10_years, xv_0, xv_1, xv_3, xv_4, xv_12, xv_20, xv_22, xv_27, xv_29, xv_32, xv_34, xv_35, xv_43, rv_0_0, rv_0_1, rv_0_2, rv_0_3, rv_0_4, rv_0_5, rv_0_6, rv_0_7, rv_1_0, rv_4_0, rv_4_1, rv_4_2, rv_4_3, rv_4_4, rv_4_5, rv_4_6, rv_12_0, rv_12_1, rv_12_2, rv_12_3, rv_12_4, rv_12_5, rv_12_6, rv_35_0, rv_35_1, rv_35_2, rv_35_3, rv_35_4, rv_35_5, rv_35_6, rv_20_0, rv_27_0, rv_32_0, rv_22_0, rv_22_1, rv_22_2, rv_22_3, rv_22_4, rv_29_0, rv_29_1, rv_29_2, rv_34_0, rv_43_0, rv_43_13, rv_43_14, rv_43_15, rv_43_16, rv_43_17, rv_43_18, rv_43_19, rv_43_20, rv_43_21, rv_43_22, rv_43_30, if_true, Option.bind_some, nm, s2], rfl, hI⟩
  rw [if_neg h] at s1 s2
  have j1 := isWithin_eq fu a0 1 99 σ
  have i1 : ∀ τ, fX10_in fu a0.toInt64 1 99 τ = some (if a0 < 1 ∨ 99 < a0 then 0 else 1, τ) := fun τ => in_eq32 fu a0 1 99 τ
  by_cases c : a0 < 1 ∨ 99 < a0
  · rw [if_pos c] at j1
    have i2 := i1 σ
    rw [if_pos c] at i2
    exact ⟨(-102, σ), (-102, σ), by simp [fX9_years, fX9_years_0, xv_0, xv_1, xv_3, xv_4, xv_12, xv_20, xv_22, xv_27, xv_29, xv_32, xv_34, xv_35, xv_43, rv_0_0, rv_0_1, rv_0_2, rv_0_3, rv_0_4, rv_0_5, rv_0_6, rv_0_7, rv_1_0, rv_4_0, rv_4_1, rv_4_2, rv_4_3, rv_4_4, rv_4_5, rv_4_6, rv_12_0, rv_12_1, rv_12_2, rv_12_3, rv_12_4, rv_12_5, rv_12_6, rv_35_0, rv_35_1, rv_35_2, rv_35_3, rv_35_4, rv_35_5, rv_35_6, rv_20_0, rv_27_0, rv_32_0, rv_22_0, rv_22_1, rv_22_2, rv_22_3, rv_22_4, rv_29_0, rv_29_1, rv_29_2, rv_34_0, rv_43_0, rv_43_13, rv_43_14, rv_43_15, rv_43_16, rv_43_17, rv_43_18, rv_43_19, rv_43_20, rv_43_21, rv_43_22, rv_43_30, if_true, Option.bind_some, nm, s1, j1], by simp [fX10_years, fX10_years_0, xv_0, xv_1, xv_3, xv_4, xv_12, xv_20, xv_22, xv_27, xv_29, xv_32, xv_34, xv_35, xv_43, rv_0_0, rv_0_1, rv_0_2, rv_0_3, rv_0_4, rv_0_5, rv_0_6, rv_0_7, rv_1_0, rv_4_0, rv_4_1, rv_4_2, rv_4_3, rv_4_4, rv_4_5, rv_4_6, rv_12_0, rv_12_1, rv_12_2, rv_12_3, rv_12_4, rv_12_5, rv_12_6, rv_35_0, rv_35_1, rv_35_2, rv_35_3, rv_35_4, rv_35_5, rv_35_6, rv_20_0, rv_27_0, rv_32_0, rv_22_0, rv_22_1, rv_22_2, rv_22_3, rv_22_4, rv_29_0, rv_29_1, rv_29_2, rv_34_0, rv_43_0, rv_43_13, rv_43_14, rv_43_15, rv_43_16, rv_43_17, rv_43_18, rv_43_19, rv_43_20, rv_43_21, rv_43_22, rv_43_30, if_true, Option.bind_some, nm, s2, i2], rfl, hI⟩
  rw [if_neg c] at j1
  obtain ⟨y, hy, rfl⟩ := isN_in 99 (by omega) (x := a0) (fun q => c (by
    rcases q with q | q
    · refine Or.inl ?_
      rw [i_lt] at q ⊢
      rw [l0] at q
      rw [l1]
      omega
    · exact Or.inr q))
  have p9 : ∀ j, j < n → nv σ 9 j < 7 := fun j hj => Nat.lt_of_lt_of_le (WS_pl hW j hj).2.1 hn
  have y1 := years_lp (fu := fu) (by omega) hW y hy fu 0 (by omega) (by omega)
  rw [show yrT (σ.1 5) (nv σ 9) (σ.1 11) (σ.1 6) n 0 = σ.1 6 from rfl, sc_self] at y1
  have e48 : ∀ j, j < n → nv σ 48 j = nv σ 9 j := fun j hj => by unfold nv; rw [(hM.2.1 j hj).2.2.2.1]
  have y2 := myears_lp (fu := fu) (by omega) (σ := sc σ 6 (yrT (σ.1 5) (nv σ 9) (σ.1 11) (σ.1 6) n y)) hn hM.1 (fun j hj => ⟨by
    show σ.1 48 j = nI (nv σ 48 j)
    rw [e48 j hj, (hM.2.1 j hj).2.2.2.1]
    exact (WS_pl hW j hj).1, by
    show nv σ 48 j < 7
    rw [e48 j hj]
    exact p9 j hj⟩) y hy fu 0 (by omega) (by omega)
  rw [show yrT ((sc σ 6 (yrT (σ.1 5) (nv σ 9) (σ.1 11) (σ.1 6) n y)).1 45) (nv (sc σ 6 (yrT (σ.1 5) (nv σ 9) (σ.1 11) (σ.1 6) n y)) 48) ((sc σ 6 (yrT (σ.1 5) (nv σ 9) (σ.1 11) (σ.1 6) n y)).1 50) ((sc σ 6 (yrT (σ.1 5) (nv σ 9) (σ.1 11) (σ.1 6) n y)).1 46) n 0 = (sc σ 6 (yrT (σ.1 5) (nv σ 9) (σ.1 11) (σ.1 6) n y)).1 46 from rfl, sc_self] at y2
  have i2 := i1 (sc σ 6 (yrT (σ.1 5) (nv σ 9) (σ.1 11) (σ.1 6) n y))
  rw [if_neg c] at i2
  have s3 := lacks_eq fu hn (show (sc σ 6 (yrT (σ.1 5) (nv σ 9) (σ.1 11) (σ.1 6) n y)).1 43 12 = nI n from hM.1)
  rw [if_neg h] at s3
  have ee : ∀ j, j < n → yrT (σ.1 45) (nv σ 48) (σ.1 50) (σ.1 46) n y j = yrT (σ.1 5) (nv σ 9) (σ.1 11) (σ.1 6) n y j := yrT_congr (fun j hj => (hM.2.1 j hj).1) (fun j hj => ⟨e48 j hj, by rw [e48 j hj]; exact p9 j hj⟩) hM.2.2 (fun j hj => (hM.2.1 j hj).2.1) y
  refine ⟨_, _, Eq.trans ?_ y1, Eq.trans ?_ y2, ?_, ?_⟩
  · simp only [fX9_years, fX9_years_0, xv_0, xv_1, xv_3, xv_4, xv_12, xv_20, xv_22, xv_27, xv_29, xv_32, xv_34, xv_35, xv_43, rv_0_0, rv_0_1, rv_0_2, rv_0_3, rv_0_4, rv_0_5, rv_0_6, rv_0_7, rv_1_0, rv_4_0, rv_4_1, rv_4_2, rv_4_3, rv_4_4, rv_4_5, rv_4_6, rv_12_0, rv_12_1, rv_12_2, rv_12_3, rv_12_4, rv_12_5, rv_12_6, rv_35_0, rv_35_1, rv_35_2, rv_35_3, rv_35_4, rv_35_5, rv_35_6, rv_20_0, rv_27_0, rv_32_0, rv_22_0, rv_22_1, rv_22_2, rv_22_3, rv_22_4, rv_29_0, rv_29_1, rv_29_2, rv_34_0, rv_43_0, rv_43_13, rv_43_14, rv_43_15, rv_43_16, rv_43_17, rv_43_18, rv_43_19, rv_43_20, rv_43_21, rv_43_22, rv_43_30, if_true, Option.bind_some, nm, s1, j1] <;> rfl
  · simp only [fX10_years, fX10_years_0, xv_0, xv_1, xv_3, xv_4, xv_12, xv_20, xv_22, xv_27, xv_29, xv_32, xv_34, xv_35, xv_43, rv_0_0, rv_0_1, rv_0_2, rv_0_3, rv_0_4, rv_0_5, rv_0_6, rv_0_7, rv_1_0, rv_4_0, rv_4_1, rv_4_2, rv_4_3, rv_4_4, rv_4_5, rv_4_6, rv_12_0, rv_12_1, rv_12_2, rv_12_3, rv_12_4, rv_12_5, rv_12_6, rv_35_0, rv_35_1, rv_35_2, rv_35_3, rv_35_4, rv_35_5, rv_35_6, rv_20_0, rv_27_0, rv_32_0, rv_22_0, rv_22_1, rv_22_2, rv_22_3, rv_22_4, rv_29_0, rv_29_1, rv_29_2, rv_34_0, rv_43_0, rv_43_13, rv_43_14, rv_43_15, rv_43_16, rv_43_17, rv_43_18, rv_43_19, rv_43_20, rv_43_21, rv_43_22, rv_43_30, if_true, Option.bind_some, nm, s3, i2] <;> rfl
  · exact wst_congr n (fun j hj => (ee j hj).symm)
  · refine ⟨⟨n, ⟨hn, hz, fun j hj => ⟨(w1 j hj).1, ?_, (w1 j hj).2.2⟩, w2, w3, w4⟩, hM.1, fun j hj => ⟨(hM.2.1 j hj).1, ee j hj, (hM.2.1 j hj).2.2⟩, hM.2.2⟩, hP, hL, hC, hIm⟩
    exact yrT_isN (fun j hj => (w1 j hj).1) (fun j hj => (w1 j hj).2.1) w4 p9 y j hj
