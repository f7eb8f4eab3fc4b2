theorem cpy7 {f g : Nat → Int32} {j : Nat} (h : j < 7) : va_cpy f g 0 0 7 j = f j := by
  unfold va_cpy
  rw [if_pos ⟨by omega, by omega⟩, Nat.sub_zero, Nat.zero_add]
/-- what copyFrom leaves -/
def cpS (σ : St) (o u : Nat) : St := si (sc (sc (sc (sc (sc (sc (sc σ (o + 1) (va_cpy (σ.1 (u + 1)) (σ.1 (o + 1)) 0 0 7)) (o + 2) (va_cpy (σ.1 (u + 2)) (σ.1 (o + 2)) 0 0 7)) (o + 3) (va_cpy (σ.1 (u + 3)) (σ.1 (o + 3)) 0 0 7)) (o + 4) (va_cpy (σ.1 (u + 4)) (σ.1 (o + 4)) 0 0 7)) (o + 5) (va_cpy (σ.1 (u + 5)) (σ.1 (o + 5)) 0 0 7)) (o + 6) (va_cpy (σ.1 (u + 6)) (σ.1 (o + 6)) 0 0 7)) (o + 7) (va_cpy (σ.1 (u + 7)) (σ.1 (o + 7)) 0 0 7)) o 7 (σ.1 u 7)
theorem copy_12_4 (fu : Nat) (σ : St) : fX8_copyFrom fu 12 4 σ = some (cpS σ 12 4) := rfl
theorem copy_4_12 (fu : Nat) (σ : St) : fX8_copyFrom fu 4 12 σ = some (cpS σ 4 12) := rfl
theorem copy_35_4 (fu : Nat) (σ : St) : fX8_copyFrom fu 35 4 σ = some (cpS σ 35 4) := rfl
theorem WS_cp {σ τ : St} {o u n : Nat} (hz : τ.1 o 7 = σ.1 u 7) (h : ∀ k, 1 ≤ k → k ≤ 7 → ∀ j, j < 7 → τ.1 (o + k) j = σ.1 (u + k) j) (hw : WS σ u n) : WS τ o n := by
  obtain ⟨h1, h2, h3, h4, h5, h6⟩ := hw
  refine ⟨h1, by rw [hz]; exact h2, fun j hj => ?_, fun j hj => ?_, fun p hp => ?_, fun p hp => ?_⟩
  · rw [h 1 (by omega) (by omega) j (by omega), h 2 (by omega) (by omega) j (by omega), h 3 (by omega) (by omega) j (by omega), h 4 (by omega) (by omega) j (by omega)]
    exact h3 j hj
  · obtain ⟨p, p1, p2, p3⟩ := h4 j hj
    exact ⟨p, p1, by rw [h 5 (by omega) (by omega) j (by omega)]; exact p2, by rw [h 6 (by omega) (by omega) p (by omega)]; exact p3⟩
  · obtain ⟨j, p1, p2, p3⟩ := h5 p hp
    exact ⟨j, p1, by rw [h 6 (by omega) (by omega) p (by omega)]; exact p2, by rw [h 5 (by omega) (by omega) j (by omega)]; exact p3⟩
  · rw [h 7 (by omega) (by omega) p (by omega)]
    exact h6 p hp
theorem k17 {k : Nat} (h1 : 1 ≤ k) (h2 : k ≤ 7) : k = 1 ∨ k = 2 ∨ k = 3 ∨ k = 4 ∨ k = 5 ∨ k = 6 ∨ k = 7 := by omega
/-- the reference's image row -/
def kr (σ : St) (x : Nat) : Int32 := if x % 6 = 0 then σ.1 45 (x / 6) else if x % 6 = 1 then σ.1 46 (x / 6) else if x % 6 = 2 then σ.1 47 (x / 6) else if x % 6 = 3 then σ.1 48 (x / 6) else if x % 6 = 4 then σ.1 49 (x / 6) else σ.1 50 (x / 6)
def kf (σ : St) (i : Nat) : Nat → Int32 := fun x => if x < 6 * i then kr σ x else σ.1 55 x
theorem kf_s (σ : St) (i : Nat) : upd (upd (upd (upd (upd (upd (kf σ i) (6 * i) (σ.1 45 i)) (6 * i + 1) (σ.1 46 i)) (6 * i + 2) (σ.1 47 i)) (6 * i + 3) (σ.1 48 i)) (6 * i + 4) (σ.1 49 i)) (6 * i + 5) (σ.1 50 i) = kf σ (i + 1) := by
  funext x
  simp only [upd]
  by_cases c5 : x = 6 * i + 5
  · rw [if_pos c5]
    unfold kf kr
    rw [if_pos (by omega), if_neg (by omega), if_neg (by omega), if_neg (by omega), if_neg (by omega), if_neg (by omega), show x / 6 = i by omega]
  rw [if_neg c5]
  by_cases c4 : x = 6 * i + 4
  · rw [if_pos c4]
    unfold kf kr
    rw [if_pos (by omega), if_neg (by omega), if_neg (by omega), if_neg (by omega), if_neg (by omega), if_pos (by omega), show x / 6 = i by omega]
  rw [if_neg c4]
  by_cases c3 : x = 6 * i + 3
  · rw [if_pos c3]
    unfold kf kr
    rw [if_pos (by omega), if_neg (by omega), if_neg (by omega), if_neg (by omega), if_pos (by omega), show x / 6 = i by omega]
  rw [if_neg c3]
  by_cases c2 : x = 6 * i + 2
  · rw [if_pos c2]
    unfold kf kr
    rw [if_pos (by omega), if_neg (by omega), if_neg (by omega), if_pos (by omega), show x / 6 = i by omega]
  rw [if_neg c2]
  by_cases c1 : x = 6 * i + 1
  · rw [if_pos c1]
    unfold kf kr
    rw [if_pos (by omega), if_neg (by omega), if_pos (by omega), show x / 6 = i by omega]
  rw [if_neg c1]
  by_cases c0 : x = 6 * i
  · rw [if_pos c0]
    unfold kf kr
    rw [if_pos (by omega), if_pos (by omega), show x / 6 = i by omega]
  rw [if_neg c0]
  unfold kf
  by_cases c : x < 6 * i
  · rw [if_pos c, if_pos (by omega)]
  · rw [if_neg c, if_neg (by omega)]
theorem six (i k : Nat) : (6 : Int32) * nI i + nI k = nI (6 * i + k) := by
  rw [show (6 : Int32) = nI 6 from rfl, pk_mul, nI_add]
theorem six0 (i : Nat) : (6 : Int32) * nI i = nI (6 * i) := by
  rw [show (6 : Int32) = nI 6 from rfl, pk_mul]
theorem mimage_lp (fu : Nat) (σ : St) : ∀ (m i : Nat), i ≤ 7 → 7 - i < m → fX10_image_2 fu 43 m (nI i) (sc σ 55 (kf σ i)) = some (σ.1 43 12, si (sc σ 55 (kf σ 7)) 43 29 (σ.1 43 12)) := by
  intro m
  induction m with
  | zero => intro i h1 h2; omega
  | succ m ih =>
    intro i h1 h2
    show fX10_image_2b fu (fX10_image_2 fu 43 m) 43 (nI i) _ = _
    unfold fX10_image_2b
    by_cases c : i < 7
    · rw [if_neg (show ¬ (7 : Int32) ≤ nI i from nI_ge (b := 7) c (by omega))]
      have q0 : ∀ (τ : St) a, ald τ a 7 (nI i) = some (τ.1 a i) := fun τ a => ald_nI c (by omega)
      have q1 : ∀ (τ : St) t x, t < 6 → ast τ 55 42 (nI (6 * i + t)) x = some (si τ 55 (6 * i + t) x) := fun τ t x ht => ast_nI (by omega) (by omega)
      have q2 : ∀ (τ : St) x, ast τ 55 42 (nI (6 * i)) x = some (si τ 55 (6 * i) x) := fun τ x => ast_nI (by omega) (by omega)
      simp only [xv_0, xv_1, xv_3, xv_4, xv_12, xv_20, xv_22, xv_27, xv_29, xv_32, xv_34, xv_35, xv_43, rv_0_0, rv_0_1, rv_0_2, rv_0_3, rv_0_4, rv_0_5, rv_0_6, rv_0_7, rv_1_0, rv_4_0, rv_4_1, rv_4_2, rv_4_3, rv_4_4, rv_4_5, rv_4_6, rv_12_0, rv_12_1, rv_12_2, rv_12_3, rv_12_4, rv_12_5, rv_12_6, rv_35_0, rv_35_1, rv_35_2, rv_35_3, rv_35_4, rv_35_5, rv_35_6, rv_20_0, rv_27_0, rv_32_0, rv_22_0, rv_22_1, rv_22_2, rv_22_3, rv_22_4, rv_29_0, rv_29_1, rv_29_2, rv_34_0, rv_43_0, rv_43_13, rv_43_14, rv_43_15, rv_43_16, rv_43_17, rv_43_18, rv_43_19, rv_43_20, rv_43_21, rv_43_22, rv_43_30, if_true, Option.bind_some, nm, q0, six0]
      rw [show (1 : Int32) = nI 1 from rfl, show (2 : Int32) = nI 2 from rfl, show (3 : Int32) = nI 3 from rfl, show (4 : Int32) = nI 4 from rfl, show (5 : Int32) = nI 5 from rfl]
      simp only [nI_add, q2, q1 _ 1 _ (by omega), q1 _ 2 _ (by omega), q1 _ 3 _ (by omega), q1 _ 4 _ (by omega), q1 _ 5 _ (by omega), Option.bind_some]
      have e := ih (i + 1) (by omega) (by omega)
      rw [← kf_s] at e
      refine Eq.trans ?_ e
      congr 1
      simp only [si_sc, sc_sc]
      simp only [sc_row, if_true]
      simp
    · have : i = 7 := by omega
      subst this
      rw [if_pos (show (7 : Int32) ≤ nI 7 from nI_le (Nat.le_refl _) (by omega))]
      rfl
theorem sm_image {fu : Nat} (hf : 100 ≤ fu) : Sm_image fu Inv := by
  intro σ hI
  obtain ⟨⟨n, hW, hM⟩, hP, hL, hC, hIm⟩ := id hI
  obtain ⟨hn, hz, w1, w2, w3, w4⟩ := id hW
  have e1 := mimage_lp fu (si (cpS σ 12 4) 0 8 1) fu 0 (by omega) (by omega)
  rw [show kf (si (cpS σ 12 4) 0 8 1) 0 = (si (cpS σ 12 4) 0 8 1).1 55 from by funext x; exact if_neg (by omega), sc_self] at e1
  refine ⟨(nI n, si (cpS σ 12 4) 0 8 1), _, ?_, Eq.trans ?_ e1, hM.1.symm, ?_⟩
  · simp only [fX9_image_0, fX9_image, xv_0, xv_1, xv_3, xv_4, xv_12, xv_20, xv_22, xv_27, xv_29, xv_32, xv_34, xv_35, xv_43, rv_0_0, rv_0_1, rv_0_2, rv_0_3, rv_0_4, rv_0_5, rv_0_6, rv_0_7, rv_1_0, rv_4_0, rv_4_1, rv_4_2, rv_4_3, rv_4_4, rv_4_5, rv_4_6, rv_12_0, rv_12_1, rv_12_2, rv_12_3, rv_12_4, rv_12_5, rv_12_6, rv_35_0, rv_35_1, rv_35_2, rv_35_3, rv_35_4, rv_35_5, rv_35_6, rv_20_0, rv_27_0, rv_32_0, rv_22_0, rv_22_1, rv_22_2, rv_22_3, rv_22_4, rv_29_0, rv_29_1, rv_29_2, rv_34_0, rv_43_0, rv_43_13, rv_43_14, rv_43_15, rv_43_16, rv_43_17, rv_43_18, rv_43_19, rv_43_20, rv_43_21, rv_43_22, rv_43_30, if_true, Option.bind_some, nm, copy_12_4, size_eq fu xv_4]
    rw [show (si (cpS σ 12 4) 0 8 1).1 4 7 = nI n from hz]
  · simp only [fX10_image, fX10_image_0, xv_0, xv_1, xv_3, xv_4, xv_12, xv_20, xv_22, xv_27, xv_29, xv_32, xv_34, xv_35, xv_43, rv_0_0, rv_0_1, rv_0_2, rv_0_3, rv_0_4, rv_0_5, rv_0_6, rv_0_7, rv_1_0, rv_4_0, rv_4_1, rv_4_2, rv_4_3, rv_4_4, rv_4_5, rv_4_6, rv_12_0, rv_12_1, rv_12_2, rv_12_3, rv_12_4, rv_12_5, rv_12_6, rv_35_0, rv_35_1, rv_35_2, rv_35_3, rv_35_4, rv_35_5, rv_35_6, rv_20_0, rv_27_0, rv_32_0, rv_22_0, rv_22_1, rv_22_2, rv_22_3, rv_22_4, rv_29_0, rv_29_1, rv_29_2, rv_34_0, rv_43_0, rv_43_13, rv_43_14, rv_43_15, rv_43_16, rv_43_17, rv_43_18, rv_43_19, rv_43_20, rv_43_21, rv_43_22, rv_43_30, if_true, Option.bind_some, nm] <;> rfl
  · refine ⟨⟨n, hW, hM⟩, hP, hL, hC, Or.inr ⟨rfl, n, WS_cp (σ := σ) (u := 4) rfl (fun k h1 h2 j hj => ?_) hW, hM.1, fun j hj => ?_, fun p hp => ?_⟩⟩
    · rcases k17 h1 h2 with rfl | rfl | rfl | rfl | rfl | rfl | rfl <;> exact cpy7 hj
    · obtain ⟨m1, m2, m3, m4, m5⟩ := hM.2.1 j hj
      have hk : ∀ t, t < 6 → kf (si (cpS σ 12 4) 0 8 1) 7 (6 * j + t) = kr σ (6 * j + t) := fun t ht => if_pos (by omega)
      refine ⟨Eq.trans (hk 0 (by omega)) ?_, Eq.trans (hk 1 (by omega)) ?_, Eq.trans (hk 2 (by omega)) ?_, Eq.trans (hk 3 (by omega)) ?_, Eq.trans (hk 4 (by omega)) ?_⟩
      · refine Eq.trans ?_ (m1.trans (cpy7 (f := σ.1 5) (g := σ.1 13) (by omega)).symm)
        unfold kr; rw [if_pos (by omega), show (6 * j + 0) / 6 = j by omega]
      · refine Eq.trans ?_ (m2.trans (cpy7 (f := σ.1 6) (g := σ.1 14) (by omega)).symm)
        unfold kr; rw [if_neg (by omega), if_pos (by omega), show (6 * j + 1) / 6 = j by omega]
      · refine Eq.trans ?_ (m3.trans (cpy7 (f := σ.1 7) (g := σ.1 15) (by omega)).symm)
        unfold kr; rw [if_neg (by omega), if_neg (by omega), if_pos (by omega), show (6 * j + 2) / 6 = j by omega]
      · refine Eq.trans ?_ (m4.trans (cpy7 (f := σ.1 9) (g := σ.1 17) (by omega)).symm)
        unfold kr; rw [if_neg (by omega), if_neg (by omega), if_neg (by omega), if_pos (by omega), show (6 * j + 3) / 6 = j by omega]
      · refine Eq.trans ?_ (m5.trans (cpy7 (f := σ.1 8) (g := σ.1 16) (by omega)).symm)
        unfold kr; rw [if_neg (by omega), if_neg (by omega), if_neg (by omega), if_neg (by omega), if_pos (by omega), show (6 * j + 4) / 6 = j by omega]
    · have hk : kf (si (cpS σ 12 4) 0 8 1) 7 (6 * p + 5) = kr σ (6 * p + 5) := if_pos (by omega)
      refine Eq.trans hk (Eq.trans ?_ ((hM.2.2 p hp).trans (cpy7 (f := σ.1 11) (g := σ.1 19) hp).symm))
      unfold kr; rw [if_neg (by omega), if_neg (by omega), if_neg (by omega), if_neg (by omega), if_neg (by omega), show (6 * p + 5) / 6 = p by omega]
