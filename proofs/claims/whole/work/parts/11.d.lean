theorem rs0 {o : Nat} (h : xk o = 6) : rf o 0 = o + 1 := rf_st h 0
theorem rs1 {o : Nat} (h : xk o = 6) : rf o 1 = o + 2 := rf_st h 1
theorem rs2 {o : Nat} (h : xk o = 6) : rf o 2 = o + 3 := rf_st h 2
theorem rs3 {o : Nat} (h : xk o = 6) : rf o 3 = o + 4 := rf_st h 3
theorem rs4 {o : Nat} (h : xk o = 6) : rf o 4 = o + 5 := rf_st h 4
theorem rs5 {o : Nat} (h : xk o = 6) : rf o 5 = o + 6 := rf_st h 5
theorem rs6 {o : Nat} (h : xk o = 6) : rf o 6 = o + 7 := rf_st h 6
def sumF (f : Nat → Int32) : Nat → Int32
  | 0 => 0
  | n + 1 => sumF f n + f n
theorem sumF_congr {f g : Nat → Int32} : ∀ n, (∀ j, j < n → f j = g j) → sumF f n = sumF g n
  | 0, _ => rfl
  | n + 1, h => by
    show sumF f n + f n = sumF g n + g n
    rw [sumF_congr n (fun j hj => h j (by omega)), h n (by omega)]
theorem wheelsInUse_lp (fu : Nat) {o n : Nat} (ho : xk o = 6) {σ : St} (hn : n ≤ 7) (hz : σ.1 o 7 = nI n) : ∀ (m i : Nat) (x1 : Int32), i ≤ n → n - i < m → x1 = sumF (σ.1 (o + 7)) i → fX8_wheelsInUse_4 fu o m x1 (nI i) σ = some (sumF (σ.1 (o + 7)) n, σ) := by
  intro m
  induction m with
  | zero => intro i x1 h1 h2; omega
  | succ m ih =>
    intro i x1 h1 h2 h3
    show fX8_wheelsInUse_4b fu (fX8_wheelsInUse_4 fu o m) o x1 (nI i) σ = _
    unfold fX8_wheelsInUse_4b
    rw [hz]
    by_cases c : i < n
    · rw [if_neg (nI_ge c (by omega)), rs6 ho, ald_nI (by omega) (by omega)]
      simp only [Option.bind_some, nm]
      rw [nI_1]
      exact ih (i + 1) _ (by omega) (by omega) (by rw [h3]; rfl)
    · have : i = n := by omega
      subst this
      rw [if_pos (nI_le (Nat.le_refl _) (by omega)), h3]
theorem wheelsInUse_eq {fu : Nat} (hf : 100 ≤ fu) {o n : Nat} (ho : xk o = 6) {σ : St} (hn : n ≤ 7) (hz : σ.1 o 7 = nI n) : fX8_wheelsInUse fu o σ = some (sumF (σ.1 (o + 7)) n, σ) := by
  unfold fX8_wheelsInUse fX8_wheelsInUse_0
  rw [if_pos ho]
  exact wheelsInUse_lp fu ho hn hz fu 0 0 (by omega) (by omega) rfl
theorem wheelsOf_lp (fu : Nat) {n : Nat} {σ : St} (hn : n ≤ 7) (hz : σ.1 43 12 = nI n) : ∀ (m i : Nat) (x1 : Int32), i ≤ n → n - i < m → x1 = sumF (σ.1 50) i → fX10_wheelsOf_4 fu 43 m x1 (nI i) σ = some (sumF (σ.1 50) n, σ) := by
  intro m
  induction m with
  | zero => intro i x1 h1 h2; omega
  | succ m ih =>
    intro i x1 h1 h2 h3
    show fX10_wheelsOf_4b fu (fX10_wheelsOf_4 fu 43 m) 43 x1 (nI i) σ = _
    unfold fX10_wheelsOf_4b
    rw [hz]
    by_cases c : i < n
    · rw [if_neg (nI_ge c (by omega)), rv_43_18, ald_nI (by omega) (by omega)]
      simp only [Option.bind_some, nm]
      rw [nI_1]
      exact ih (i + 1) _ (by omega) (by omega) (by rw [h3]; rfl)
    · have : i = n := by omega
      subst this
      rw [if_pos (nI_le (Nat.le_refl _) (by omega)), h3]
theorem wheelsOf_eq {fu : Nat} (hf : 100 ≤ fu) {n : Nat} {σ : St} (hn : n ≤ 7) (hz : σ.1 43 12 = nI n) : fX10_wheelsOf fu 43 σ = some (sumF (σ.1 50) n, σ) := by
  unfold fX10_wheelsOf fX10_wheelsOf_0
  rw [if_pos xv_43]
  exact wheelsOf_lp fu hn hz fu 0 0 (by omega) (by omega) rfl
def wst (f : Nat → Int32) : Nat → Int32
  | 0 => 0
  | n + 1 => if wst f n < f n then f n else wst f n
theorem wst_congr {f g : Nat → Int32} : ∀ n, (∀ j, j < n → f j = g j) → wst f n = wst g n
  | 0, _ => rfl
  | n + 1, h => by
    show (if wst f n < f n then f n else wst f n) = (if wst g n < g n then g n else wst g n)
    rw [wst_congr n (fun j hj => h j (by omega)), h n (by omega)]
theorem worstWear_lp (fu : Nat) {o n : Nat} (ho : xk o = 6) {σ : St} (hn : n ≤ 7) (hz : σ.1 o 7 = nI n) : ∀ (m i : Nat) (x1 : Int32), i ≤ n → n - i < m → x1 = wst (σ.1 (o + 2)) i → fX8_worstWear_4 fu o m x1 (nI i) σ = some (wst (σ.1 (o + 2)) n, σ) := by
  intro m
  induction m with
  | zero => intro i x1 h1 h2; omega
  | succ m ih =>
    intro i x1 h1 h2 h3
    show fX8_worstWear_4b fu (fX8_worstWear_4 fu o m) o x1 (nI i) σ = _
    unfold fX8_worstWear_4b
    rw [hz]
    by_cases c : i < n
    · rw [if_neg (nI_ge c (by omega)), rs1 ho, ald_nI (by omega) (by omega)]
      simp only [Option.bind_some, nm]
      rw [nI_1]
      exact ih (i + 1) _ (by omega) (by omega) (by rw [h3]; rfl)
    · have : i = n := by omega
      subst this
      rw [if_pos (nI_le (Nat.le_refl _) (by omega)), h3]
theorem worstWear_eq {fu : Nat} (hf : 100 ≤ fu) {o n : Nat} (ho : xk o = 6) {σ : St} (hn : n ≤ 7) (hz : σ.1 o 7 = nI n) : fX8_worstWear fu o σ = some (wst (σ.1 (o + 2)) n, σ) := by
  unfold fX8_worstWear fX8_worstWear_0
  rw [if_pos ho]
  exact worstWear_lp fu ho hn hz fu 0 0 (by omega) (by omega) rfl
theorem not_le_lt {a b : Int32} : ¬ a ≤ b ↔ b < a := by
  rw [i_le, i_lt]; omega
theorem worstOf_lp (fu : Nat) {a n : Nat} {σ : St} (hn : n ≤ 7) (hz : σ.1 43 12 = nI n) : ∀ (m i : Nat) (x1 : Int32), i ≤ n → n - i < m → x1 = wst (σ.1 a) i → fX10_worstOf_4 fu 43 a m x1 (nI i) σ = some (wst (σ.1 a) n, σ) := by
  intro m
  induction m with
  | zero => intro i x1 h1 h2; omega
  | succ m ih =>
    intro i x1 h1 h2 h3
    show fX10_worstOf_4b fu (fX10_worstOf_4 fu 43 a m) 43 a x1 (nI i) σ = _
    unfold fX10_worstOf_4b fX10_worstOf_26
    rw [hz]
    by_cases c : i < n
    · rw [if_neg (nI_ge c (by omega)), ald_nI (by omega) (by omega)]
      simp only [Option.bind_some, nm]
      rw [nI_1]
      by_cases d : σ.1 a i ≤ x1
      · rw [if_pos d]
        refine ih (i + 1) _ (by omega) (by omega) ?_
        show x1 = if wst (σ.1 a) i < σ.1 a i then σ.1 a i else wst (σ.1 a) i
        rw [← h3, if_neg (fun q => not_le_lt.mpr q d)]
      · rw [if_neg d]
        refine ih (i + 1) _ (by omega) (by omega) ?_
        show σ.1 a i = if wst (σ.1 a) i < σ.1 a i then σ.1 a i else wst (σ.1 a) i
        rw [← h3, if_pos (not_le_lt.mp d)]
    · have : i = n := by omega
      subst this
      rw [if_pos (nI_le (Nat.le_refl _) (by omega)), h3]
theorem worstOf_eq {fu : Nat} (hf : 100 ≤ fu) {a n : Nat} (ha : xk a = 16) {σ : St} (hn : n ≤ 7) (hz : σ.1 43 12 = nI n) : fX10_worstOf fu 43 a σ = some (wst (σ.1 a) n, σ) := by
  unfold fX10_worstOf fX10_worstOf_0
  rw [if_pos xv_43, if_pos ha]
  exact worstOf_lp fu hn hz fu 0 0 (by omega) (by omega) rfl
theorem size_eq (fu : Nat) {o : Nat} (ho : xk o = 6) (σ : St) : fX8_size fu o σ = some (σ.1 o 7, σ) := by
  unfold fX8_size fX8_size_0
  rw [if_pos ho]
theorem isTooShort_eq (fu : Nat) {σ : St} {n : Nat} (hn : n ≤ 7) (hz : σ.1 4 7 = nI n) : fX9_isTooShort fu 0 σ = some (if n < 2 then 1 else 0, σ) := by
  simp only [fX9_isTooShort_16, fX9_isTooShort_0, fX9_isTooShort, xv_0, xv_1, xv_3, xv_4, xv_12, xv_20, xv_22, xv_27, xv_29, xv_32, xv_34, xv_35, xv_43, rv_0_0, rv_0_1, rv_0_2, rv_0_3, rv_0_4, rv_0_5, rv_0_6, rv_0_7, rv_1_0, rv_4_0, rv_4_1, rv_4_2, rv_4_3, rv_4_4, rv_4_5, rv_4_6, rv_12_0, rv_12_1, rv_12_2, rv_12_3, rv_12_4, rv_12_5, rv_12_6, rv_35_0, rv_35_1, rv_35_2, rv_35_3, rv_35_4, rv_35_5, rv_35_6, rv_20_0, rv_27_0, rv_32_0, rv_22_0, rv_22_1, rv_22_2, rv_22_3, rv_22_4, rv_29_0, rv_29_1, rv_29_2, rv_34_0, rv_43_0, rv_43_13, rv_43_14, rv_43_15, rv_43_16, rv_43_17, rv_43_18, rv_43_19, rv_43_20, rv_43_21, rv_43_22, rv_43_30, if_true, Option.bind_some, nm, size_eq fu xv_4, hz]
  by_cases h : n < 2
  · have : ¬ (2 : Int32) ≤ nI n := nI_ge (b := 2) h (by omega)
    simp [this, h]
  · have : (2 : Int32) ≤ nI n := nI_le (a := 2) (by omega) (by omega)
    simp [this, h]
theorem lacks_eq (fu : Nat) {σ : St} {n : Nat} (hn : n ≤ 7) (hz : σ.1 43 12 = nI n) : fX10_lacks fu 43 σ = some (if n < 2 then 1 else 0, σ) := by
  simp only [fX10_lacks_13, fX10_lacks_0, fX10_lacks, xv_0, xv_1, xv_3, xv_4, xv_12, xv_20, xv_22, xv_27, xv_29, xv_32, xv_34, xv_35, xv_43, rv_0_0, rv_0_1, rv_0_2, rv_0_3, rv_0_4, rv_0_5, rv_0_6, rv_0_7, rv_1_0, rv_4_0, rv_4_1, rv_4_2, rv_4_3, rv_4_4, rv_4_5, rv_4_6, rv_12_0, rv_12_1, rv_12_2, rv_12_3, rv_12_4, rv_12_5, rv_12_6, rv_35_0, rv_35_1, rv_35_2, rv_35_3, rv_35_4, rv_35_5, rv_35_6, rv_20_0, rv_27_0, rv_32_0, rv_22_0, rv_22_1, rv_22_2, rv_22_3, rv_22_4, rv_29_0, rv_29_1, rv_29_2, rv_34_0, rv_43_0, rv_43_13, rv_43_14, rv_43_15, rv_43_16, rv_43_17, rv_43_18, rv_43_19, rv_43_20, rv_43_21, rv_43_22, rv_43_30, if_true, Option.bind_some, nm, hz]
  by_cases h : n < 2
  · have : ¬ (2 : Int32) ≤ nI n := nI_ge (b := 2) h (by omega)
    simp [this, h]
  · have : (2 : Int32) ≤ nI n := nI_le (a := 2) (by omega) (by omega)
    simp [this, h]
theorem sm_worst {fu : Nat} (hf : 100 ≤ fu) : Sm_worst fu Inv := by
  intro σ hI
  obtain ⟨⟨n, hW, hM⟩, hP, hL, hC, hIm⟩ := id hI
  obtain ⟨hn, hz, w1, w2, w3, w4⟩ := id hW
  have s1 := isTooShort_eq fu hn hz
  have s2 := lacks_eq fu hn hM.1
  by_cases h : n < 2
  · rw [if_pos h] at s1 s2
    exact ⟨(-103, σ), (-103, σ), by simp [fX9_worst_19, fX9_worst_0, fX9_worst, xv_0, xv_1, xv_3, xv_4, xv_12, xv_20, xv_22, xv_27, xv_29, xv_32, xv_34, xv_35, xv_43, rv_0_0, rv_0_1, rv_0_2, rv_0_3, rv_0_4, rv_0_5, rv_0_6, rv_0_7, rv_1_0, rv_4_0, rv_4_1, rv_4_2, rv_4_3, rv_4_4, rv_4_5, rv_4_6, rv_12_0, rv_12_1, rv_12_2, rv_12_3, rv_12_4, rv_12_5, rv_12_6, rv_35_0, rv_35_1, rv_35_2, rv_35_3, rv_35_4, rv_35_5, rv_35_6, rv_20_0, rv_27_0, rv_32_0, rv_22_0, rv_22_1, rv_22_2, rv_22_3, rv_22_4, rv_29_0, rv_29_1, rv_29_2, rv_34_0, rv_43_0, rv_43_13, rv_43_14, rv_43_15, rv_43_16, rv_43_17, rv_43_18, rv_43_19, rv_43_20, rv_43_21, rv_43_22, rv_43_30, if_true, Option.bind_some, nm, s1], by simp [fX10_worst_20, fX10_worst_0, fX10_worst, xv_0, xv_1, xv_3, xv_4, xv_12, xv_20, xv_22, xv_27, xv_29, xv_32, xv_34, xv_35, xv_43, rv_0_0, rv_0_1, rv_0_2, rv_0_3, rv_0_4, rv_0_5, rv_0_6, rv_0_7, rv_1_0, rv_4_0, rv_4_1, rv_4_2, rv_4_3, rv_4_4, rv_4_5, rv_4_6, rv_12_0, rv_12_1, rv_12_2, rv_12_3, rv_12_4, rv_12_5, rv_12_6, rv_35_0, rv_35_1, rv_35_2, rv_35_3, rv_35_4, rv_35_5, rv_35_6, rv_20_0, rv_27_0, rv_32_0, rv_22_0, rv_22_1, rv_22_2, rv_22_3, rv_22_4, rv_29_0, rv_29_1, rv_29_2, rv_34_0, rv_43_0, rv_43_13, rv_43_14, rv_43_15, rv_43_16, rv_43_17, rv_43_18, rv_43_19, rv_43_20, rv_43_21, rv_43_22, rv_43_30, if_true, Option.bind_some, nm, s2], rfl, hI⟩
  · rw [if_neg h] at s1 s2
    refine ⟨(wst (σ.1 6) n, σ), (wst (σ.1 46) n, σ), by simp [fX9_worst_19, fX9_worst_0, fX9_worst, xv_0, xv_1, xv_3, xv_4, xv_12, xv_20, xv_22, xv_27, xv_29, xv_32, xv_34, xv_35, xv_43, rv_0_0, rv_0_1, rv_0_2, rv_0_3, rv_0_4, rv_0_5, rv_0_6, rv_0_7, rv_1_0, rv_4_0, rv_4_1, rv_4_2, rv_4_3, rv_4_4, rv_4_5, rv_4_6, rv_12_0, rv_12_1, rv_12_2, rv_12_3, rv_12_4, rv_12_5, rv_12_6, rv_35_0, rv_35_1, rv_35_2, rv_35_3, rv_35_4, rv_35_5, rv_35_6, rv_20_0, rv_27_0, rv_32_0, rv_22_0, rv_22_1, rv_22_2, rv_22_3, rv_22_4, rv_29_0, rv_29_1, rv_29_2, rv_34_0, rv_43_0, rv_43_13, rv_43_14, rv_43_15, rv_43_16, rv_43_17, rv_43_18, rv_43_19, rv_43_20, rv_43_21, rv_43_22, rv_43_30, if_true, Option.bind_some, nm, s1, worstWear_eq hf xv_4 hn hz], by simp [fX10_worst_20, fX10_worst_0, fX10_worst, xv_0, xv_1, xv_3, xv_4, xv_12, xv_20, xv_22, xv_27, xv_29, xv_32, xv_34, xv_35, xv_43, rv_0_0, rv_0_1, rv_0_2, rv_0_3, rv_0_4, rv_0_5, rv_0_6, rv_0_7, rv_1_0, rv_4_0, rv_4_1, rv_4_2, rv_4_3, rv_4_4, rv_4_5, rv_4_6, rv_12_0, rv_12_1, rv_12_2, rv_12_3, rv_12_4, rv_12_5, rv_12_6, rv_35_0, rv_35_1, rv_35_2, rv_35_3, rv_35_4, rv_35_5, rv_35_6, rv_20_0, rv_27_0, rv_32_0, rv_22_0, rv_22_1, rv_22_2, rv_22_3, rv_22_4, rv_29_0, rv_29_1, rv_29_2, rv_34_0, rv_43_0, rv_43_13, rv_43_14, rv_43_15, rv_43_16, rv_43_17, rv_43_18, rv_43_19, rv_43_20, rv_43_21, rv_43_22, rv_43_30, if_true, Option.bind_some, nm, s2, worstOf_eq hf (show xk 46 = 16 from rfl) hn hM.1], ?_, hI⟩
    exact wst_congr n (fun j hj => (hM.2.1 j hj).2.1.symm)
theorem nin6 {x : Int32} (h0 : ¬ x = 0) (h1 : ¬ x = 1) (h2 : ¬ x = 2) (h3 : ¬ x = 3) (h4 : ¬ x = 4) (h5 : ¬ x = 5) (h6 : ¬ x = 6) : x < 0 ∨ 6 < x := by
  have l5 : (5 : Int32).toInt = 5 := rfl
  simp only [i_eq, i_lt, l0, l1, l2, l3, l4, l5, l6] at *
  omega
theorem sm_count {fu : Nat} (hf : 100 ≤ fu) : Sm_count fu Inv := by
  intro σ a0 hI
  obtain ⟨⟨n, hW, hM⟩, ⟨k, hk, hk1, hk2, hk3⟩, hL, ⟨c1, ⟨k1, d1, d2, d3⟩, ⟨k2, d4, d5, d6⟩, ⟨k3, d7, d8, d9⟩⟩, hIm⟩ := id hI
  obtain ⟨hn, hz, w1, w2, w3, w4⟩ := id hW
  have u1 : fX8_wheelsInUse fu 4 σ = some (sumF (σ.1 11) n, σ) := wheelsInUse_eq hf xv_4 hn hz
  have u2 := wheelsOf_eq hf hn hM.1
  have u3 : sumF (σ.1 11) n = sumF (σ.1 50) n := sumF_congr n (fun j hj => (hM.2.2 j (by omega)).symm)
  by_cases e0 : a0 = 0
  · subst e0; exact ⟨(nI n, σ), (nI n, σ), by simp [fX9_count_0, fX9_count, xv_0, xv_1, xv_3, xv_4, xv_12, xv_20, xv_22, xv_27, xv_29, xv_32, xv_34, xv_35, xv_43, rv_0_0, rv_0_1, rv_0_2, rv_0_3, rv_0_4, rv_0_5, rv_0_6, rv_0_7, rv_1_0, rv_4_0, rv_4_1, rv_4_2, rv_4_3, rv_4_4, rv_4_5, rv_4_6, rv_12_0, rv_12_1, rv_12_2, rv_12_3, rv_12_4, rv_12_5, rv_12_6, rv_35_0, rv_35_1, rv_35_2, rv_35_3, rv_35_4, rv_35_5, rv_35_6, rv_20_0, rv_27_0, rv_32_0, rv_22_0, rv_22_1, rv_22_2, rv_22_3, rv_22_4, rv_29_0, rv_29_1, rv_29_2, rv_34_0, rv_43_0, rv_43_13, rv_43_14, rv_43_15, rv_43_16, rv_43_17, rv_43_18, rv_43_19, rv_43_20, rv_43_21, rv_43_22, rv_43_30, if_true, Option.bind_some, nm, size_eq fu xv_4, hz], by simp [fX10_count_0, fX10_count, fX10_countOf_0, fX10_countOf, xv_0, xv_1, xv_3, xv_4, xv_12, xv_20, xv_22, xv_27, xv_29, xv_32, xv_34, xv_35, xv_43, rv_0_0, rv_0_1, rv_0_2, rv_0_3, rv_0_4, rv_0_5, rv_0_6, rv_0_7, rv_1_0, rv_4_0, rv_4_1, rv_4_2, rv_4_3, rv_4_4, rv_4_5, rv_4_6, rv_12_0, rv_12_1, rv_12_2, rv_12_3, rv_12_4, rv_12_5, rv_12_6, rv_35_0, rv_35_1, rv_35_2, rv_35_3, rv_35_4, rv_35_5, rv_35_6, rv_20_0, rv_27_0, rv_32_0, rv_22_0, rv_22_1, rv_22_2, rv_22_3, rv_22_4, rv_29_0, rv_29_1, rv_29_2, rv_34_0, rv_43_0, rv_43_13, rv_43_14, rv_43_15, rv_43_16, rv_43_17, rv_43_18, rv_43_19, rv_43_20, rv_43_21, rv_43_22, rv_43_30, if_true, Option.bind_some, nm, hM.1], rfl, hI⟩
  by_cases e1 : a0 = 1
  · subst e1; exact ⟨(nI k, σ), (nI k, σ), by simp [fX9_count_0, fX9_count, fX7_length_0, fX7_length, xv_0, xv_1, xv_3, xv_4, xv_12, xv_20, xv_22, xv_27, xv_29, xv_32, xv_34, xv_35, xv_43, rv_0_0, rv_0_1, rv_0_2, rv_0_3, rv_0_4, rv_0_5, rv_0_6, rv_0_7, rv_1_0, rv_4_0, rv_4_1, rv_4_2, rv_4_3, rv_4_4, rv_4_5, rv_4_6, rv_12_0, rv_12_1, rv_12_2, rv_12_3, rv_12_4, rv_12_5, rv_12_6, rv_35_0, rv_35_1, rv_35_2, rv_35_3, rv_35_4, rv_35_5, rv_35_6, rv_20_0, rv_27_0, rv_32_0, rv_22_0, rv_22_1, rv_22_2, rv_22_3, rv_22_4, rv_29_0, rv_29_1, rv_29_2, rv_34_0, rv_43_0, rv_43_13, rv_43_14, rv_43_15, rv_43_16, rv_43_17, rv_43_18, rv_43_19, rv_43_20, rv_43_21, rv_43_22, rv_43_30, if_true, Option.bind_some, nm, hk1], by simp [fX10_count_0, fX10_count, fX10_countOf_0, fX10_countOf, xv_0, xv_1, xv_3, xv_4, xv_12, xv_20, xv_22, xv_27, xv_29, xv_32, xv_34, xv_35, xv_43, rv_0_0, rv_0_1, rv_0_2, rv_0_3, rv_0_4, rv_0_5, rv_0_6, rv_0_7, rv_1_0, rv_4_0, rv_4_1, rv_4_2, rv_4_3, rv_4_4, rv_4_5, rv_4_6, rv_12_0, rv_12_1, rv_12_2, rv_12_3, rv_12_4, rv_12_5, rv_12_6, rv_35_0, rv_35_1, rv_35_2, rv_35_3, rv_35_4, rv_35_5, rv_35_6, rv_20_0, rv_27_0, rv_32_0, rv_22_0, rv_22_1, rv_22_2, rv_22_3, rv_22_4, rv_29_0, rv_29_1, rv_29_2, rv_34_0, rv_43_0, rv_43_13, rv_43_14, rv_43_15, rv_43_16, rv_43_17, rv_43_18, rv_43_19, rv_43_20, rv_43_21, rv_43_22, rv_43_30, if_true, Option.bind_some, nm, hk2], rfl, hI⟩
  by_cases e2 : a0 = 2
  · subst e2; exact ⟨(σ.1 0 9, σ), (σ.1 0 9, σ), by simp [fX9_count_0, fX9_count, xv_0, xv_1, xv_3, xv_4, xv_12, xv_20, xv_22, xv_27, xv_29, xv_32, xv_34, xv_35, xv_43, rv_0_0, rv_0_1, rv_0_2, rv_0_3, rv_0_4, rv_0_5, rv_0_6, rv_0_7, rv_1_0, rv_4_0, rv_4_1, rv_4_2, rv_4_3, rv_4_4, rv_4_5, rv_4_6, rv_12_0, rv_12_1, rv_12_2, rv_12_3, rv_12_4, rv_12_5, rv_12_6, rv_35_0, rv_35_1, rv_35_2, rv_35_3, rv_35_4, rv_35_5, rv_35_6, rv_20_0, rv_27_0, rv_32_0, rv_22_0, rv_22_1, rv_22_2, rv_22_3, rv_22_4, rv_29_0, rv_29_1, rv_29_2, rv_34_0, rv_43_0, rv_43_13, rv_43_14, rv_43_15, rv_43_16, rv_43_17, rv_43_18, rv_43_19, rv_43_20, rv_43_21, rv_43_22, rv_43_30, if_true, Option.bind_some, nm], by simp [fX10_count_0, fX10_count, fX10_countOf_0, fX10_countOf, xv_0, xv_1, xv_3, xv_4, xv_12, xv_20, xv_22, xv_27, xv_29, xv_32, xv_34, xv_35, xv_43, rv_0_0, rv_0_1, rv_0_2, rv_0_3, rv_0_4, rv_0_5, rv_0_6, rv_0_7, rv_1_0, rv_4_0, rv_4_1, rv_4_2, rv_4_3, rv_4_4, rv_4_5, rv_4_6, rv_12_0, rv_12_1, rv_12_2, rv_12_3, rv_12_4, rv_12_5, rv_12_6, rv_35_0, rv_35_1, rv_35_2, rv_35_3, rv_35_4, rv_35_5, rv_35_6, rv_20_0, rv_27_0, rv_32_0, rv_22_0, rv_22_1, rv_22_2, rv_22_3, rv_22_4, rv_29_0, rv_29_1, rv_29_2, rv_34_0, rv_43_0, rv_43_13, rv_43_14, rv_43_15, rv_43_16, rv_43_17, rv_43_18, rv_43_19, rv_43_20, rv_43_21, rv_43_22, rv_43_30, if_true, Option.bind_some, nm, c1], rfl, hI⟩
  by_cases e3 : a0 = 3
  · subst e3; exact ⟨(nI k1, σ), (nI k1, σ), by simp [fX9_count_0, fX9_count, xv_0, xv_1, xv_3, xv_4, xv_12, xv_20, xv_22, xv_27, xv_29, xv_32, xv_34, xv_35, xv_43, rv_0_0, rv_0_1, rv_0_2, rv_0_3, rv_0_4, rv_0_5, rv_0_6, rv_0_7, rv_1_0, rv_4_0, rv_4_1, rv_4_2, rv_4_3, rv_4_4, rv_4_5, rv_4_6, rv_12_0, rv_12_1, rv_12_2, rv_12_3, rv_12_4, rv_12_5, rv_12_6, rv_35_0, rv_35_1, rv_35_2, rv_35_3, rv_35_4, rv_35_5, rv_35_6, rv_20_0, rv_27_0, rv_32_0, rv_22_0, rv_22_1, rv_22_2, rv_22_3, rv_22_4, rv_29_0, rv_29_1, rv_29_2, rv_34_0, rv_43_0, rv_43_13, rv_43_14, rv_43_15, rv_43_16, rv_43_17, rv_43_18, rv_43_19, rv_43_20, rv_43_21, rv_43_22, rv_43_30, if_true, Option.bind_some, nm, d2], by simp [fX10_count_0, fX10_count, fX10_countOf_0, fX10_countOf, xv_0, xv_1, xv_3, xv_4, xv_12, xv_20, xv_22, xv_27, xv_29, xv_32, xv_34, xv_35, xv_43, rv_0_0, rv_0_1, rv_0_2, rv_0_3, rv_0_4, rv_0_5, rv_0_6, rv_0_7, rv_1_0, rv_4_0, rv_4_1, rv_4_2, rv_4_3, rv_4_4, rv_4_5, rv_4_6, rv_12_0, rv_12_1, rv_12_2, rv_12_3, rv_12_4, rv_12_5, rv_12_6, rv_35_0, rv_35_1, rv_35_2, rv_35_3, rv_35_4, rv_35_5, rv_35_6, rv_20_0, rv_27_0, rv_32_0, rv_22_0, rv_22_1, rv_22_2, rv_22_3, rv_22_4, rv_29_0, rv_29_1, rv_29_2, rv_34_0, rv_43_0, rv_43_13, rv_43_14, rv_43_15, rv_43_16, rv_43_17, rv_43_18, rv_43_19, rv_43_20, rv_43_21, rv_43_22, rv_43_30, if_true, Option.bind_some, nm, d3], rfl, hI⟩
  by_cases e4 : a0 = 4
  · subst e4; exact ⟨(nI k2, σ), (nI k2, σ), by simp [fX9_count_0, fX9_count, xv_0, xv_1, xv_3, xv_4, xv_12, xv_20, xv_22, xv_27, xv_29, xv_32, xv_34, xv_35, xv_43, rv_0_0, rv_0_1, rv_0_2, rv_0_3, rv_0_4, rv_0_5, rv_0_6, rv_0_7, rv_1_0, rv_4_0, rv_4_1, rv_4_2, rv_4_3, rv_4_4, rv_4_5, rv_4_6, rv_12_0, rv_12_1, rv_12_2, rv_12_3, rv_12_4, rv_12_5, rv_12_6, rv_35_0, rv_35_1, rv_35_2, rv_35_3, rv_35_4, rv_35_5, rv_35_6, rv_20_0, rv_27_0, rv_32_0, rv_22_0, rv_22_1, rv_22_2, rv_22_3, rv_22_4, rv_29_0, rv_29_1, rv_29_2, rv_34_0, rv_43_0, rv_43_13, rv_43_14, rv_43_15, rv_43_16, rv_43_17, rv_43_18, rv_43_19, rv_43_20, rv_43_21, rv_43_22, rv_43_30, if_true, Option.bind_some, nm, d5], by simp [fX10_count_0, fX10_count, fX10_countOf_0, fX10_countOf, xv_0, xv_1, xv_3, xv_4, xv_12, xv_20, xv_22, xv_27, xv_29, xv_32, xv_34, xv_35, xv_43, rv_0_0, rv_0_1, rv_0_2, rv_0_3, rv_0_4, rv_0_5, rv_0_6, rv_0_7, rv_1_0, rv_4_0, rv_4_1, rv_4_2, rv_4_3, rv_4_4, rv_4_5, rv_4_6, rv_12_0, rv_12_1, rv_12_2, rv_12_3, rv_12_4, rv_12_5, rv_12_6, rv_35_0, rv_35_1, rv_35_2, rv_35_3, rv_35_4, rv_35_5, rv_35_6, rv_20_0, rv_27_0, rv_32_0, rv_22_0, rv_22_1, rv_22_2, rv_22_3, rv_22_4, rv_29_0, rv_29_1, rv_29_2, rv_34_0, rv_43_0, rv_43_13, rv_43_14, rv_43_15, rv_43_16, rv_43_17, rv_43_18, rv_43_19, rv_43_20, rv_43_21, rv_43_22, rv_43_30, if_true, Option.bind_some, nm, d6], rfl, hI⟩
  by_cases e5 : a0 = 5
  · subst e5; exact ⟨(nI k3, σ), (nI k3, σ), by simp [fX9_count_0, fX9_count, xv_0, xv_1, xv_3, xv_4, xv_12, xv_20, xv_22, xv_27, xv_29, xv_32, xv_34, xv_35, xv_43, rv_0_0, rv_0_1, rv_0_2, rv_0_3, rv_0_4, rv_0_5, rv_0_6, rv_0_7, rv_1_0, rv_4_0, rv_4_1, rv_4_2, rv_4_3, rv_4_4, rv_4_5, rv_4_6, rv_12_0, rv_12_1, rv_12_2, rv_12_3, rv_12_4, rv_12_5, rv_12_6, rv_35_0, rv_35_1, rv_35_2, rv_35_3, rv_35_4, rv_35_5, rv_35_6, rv_20_0, rv_27_0, rv_32_0, rv_22_0, rv_22_1, rv_22_2, rv_22_3, rv_22_4, rv_29_0, rv_29_1, rv_29_2, rv_34_0, rv_43_0, rv_43_13, rv_43_14, rv_43_15, rv_43_16, rv_43_17, rv_43_18, rv_43_19, rv_43_20, rv_43_21, rv_43_22, rv_43_30, if_true, Option.bind_some, nm, d8], by simp [fX10_count_0, fX10_count, fX10_countOf_0, fX10_countOf, xv_0, xv_1, xv_3, xv_4, xv_12, xv_20, xv_22, xv_27, xv_29, xv_32, xv_34, xv_35, xv_43, rv_0_0, rv_0_1, rv_0_2, rv_0_3, rv_0_4, rv_0_5, rv_0_6, rv_0_7, rv_1_0, rv_4_0, rv_4_1, rv_4_2, rv_4_3, rv_4_4, rv_4_5, rv_4_6, rv_12_0, rv_12_1, rv_12_2, rv_12_3, rv_12_4, rv_12_5, rv_12_6, rv_35_0, rv_35_1, rv_35_2, rv_35_3, rv_35_4, rv_35_5, rv_35_6, rv_20_0, rv_27_0, rv_32_0, rv_22_0, rv_22_1, rv_22_2, rv_22_3, rv_22_4, rv_29_0, rv_29_1, rv_29_2, rv_34_0, rv_43_0, rv_43_13, rv_43_14, rv_43_15, rv_43_16, rv_43_17, rv_43_18, rv_43_19, rv_43_20, rv_43_21, rv_43_22, rv_43_30, if_true, Option.bind_some, nm, d9], rfl, hI⟩
  by_cases e6 : a0 = 6
  · subst e6; exact ⟨(sumF (σ.1 11) n, σ), (sumF (σ.1 50) n, σ), by simp [fX9_count_0, fX9_count, xv_0, xv_1, xv_3, xv_4, xv_12, xv_20, xv_22, xv_27, xv_29, xv_32, xv_34, xv_35, xv_43, rv_0_0, rv_0_1, rv_0_2, rv_0_3, rv_0_4, rv_0_5, rv_0_6, rv_0_7, rv_1_0, rv_4_0, rv_4_1, rv_4_2, rv_4_3, rv_4_4, rv_4_5, rv_4_6, rv_12_0, rv_12_1, rv_12_2, rv_12_3, rv_12_4, rv_12_5, rv_12_6, rv_35_0, rv_35_1, rv_35_2, rv_35_3, rv_35_4, rv_35_5, rv_35_6, rv_20_0, rv_27_0, rv_32_0, rv_22_0, rv_22_1, rv_22_2, rv_22_3, rv_22_4, rv_29_0, rv_29_1, rv_29_2, rv_34_0, rv_43_0, rv_43_13, rv_43_14, rv_43_15, rv_43_16, rv_43_17, rv_43_18, rv_43_19, rv_43_20, rv_43_21, rv_43_22, rv_43_30, if_true, Option.bind_some, nm, u1], by simp [fX10_count_0, fX10_count, fX10_countOf_0, fX10_countOf, xv_0, xv_1, xv_3, xv_4, xv_12, xv_20, xv_22, xv_27, xv_29, xv_32, xv_34, xv_35, xv_43, rv_0_0, rv_0_1, rv_0_2, rv_0_3, rv_0_4, rv_0_5, rv_0_6, rv_0_7, rv_1_0, rv_4_0, rv_4_1, rv_4_2, rv_4_3, rv_4_4, rv_4_5, rv_4_6, rv_12_0, rv_12_1, rv_12_2, rv_12_3, rv_12_4, rv_12_5, rv_12_6, rv_35_0, rv_35_1, rv_35_2, rv_35_3, rv_35_4, rv_35_5, rv_35_6, rv_20_0, rv_27_0, rv_32_0, rv_22_0, rv_22_1, rv_22_2, rv_22_3, rv_22_4, rv_29_0, rv_29_1, rv_29_2, rv_34_0, rv_43_0, rv_43_13, rv_43_14, rv_43_15, rv_43_16, rv_43_17, rv_43_18, rv_43_19, rv_43_20, rv_43_21, rv_43_22, rv_43_30, if_true, Option.bind_some, nm, u2], u3, hI⟩
  · exact ⟨(-102, σ), (-102, σ), by simp [fX9_count_0, fX9_count, xv_0, xv_1, xv_3, xv_4, xv_12, xv_20, xv_22, xv_27, xv_29, xv_32, xv_34, xv_35, xv_43, rv_0_0, rv_0_1, rv_0_2, rv_0_3, rv_0_4, rv_0_5, rv_0_6, rv_0_7, rv_1_0, rv_4_0, rv_4_1, rv_4_2, rv_4_3, rv_4_4, rv_4_5, rv_4_6, rv_12_0, rv_12_1, rv_12_2, rv_12_3, rv_12_4, rv_12_5, rv_12_6, rv_35_0, rv_35_1, rv_35_2, rv_35_3, rv_35_4, rv_35_5, rv_35_6, rv_20_0, rv_27_0, rv_32_0, rv_22_0, rv_22_1, rv_22_2, rv_22_3, rv_22_4, rv_29_0, rv_29_1, rv_29_2, rv_34_0, rv_43_0, rv_43_13, rv_43_14, rv_43_15, rv_43_16, rv_43_17, rv_43_18, rv_43_19, rv_43_20, rv_43_21, rv_43_22, rv_43_30, if_true, Option.bind_some, nm, e0, e1, e2, e3, e4, e5, e6], by simp [fX10_count_0, fX10_count, fX10_countOf_0, fX10_countOf, xv_0, xv_1, xv_3, xv_4, xv_12, xv_20, xv_22, xv_27, xv_29, xv_32, xv_34, xv_35, xv_43, rv_0_0, rv_0_1, rv_0_2, rv_0_3, rv_0_4, rv_0_5, rv_0_6, rv_0_7, rv_1_0, rv_4_0, rv_4_1, rv_4_2, rv_4_3, rv_4_4, rv_4_5, rv_4_6, rv_12_0, rv_12_1, rv_12_2, rv_12_3, rv_12_4, rv_12_5, rv_12_6, rv_35_0, rv_35_1, rv_35_2, rv_35_3, rv_35_4, rv_35_5, rv_35_6, rv_20_0, rv_27_0, rv_32_0, rv_22_0, rv_22_1, rv_22_2, rv_22_3, rv_22_4, rv_29_0, rv_29_1, rv_29_2, rv_34_0, rv_43_0, rv_43_13, rv_43_14, rv_43_15, rv_43_16, rv_43_17, rv_43_18, rv_43_19, rv_43_20, rv_43_21, rv_43_22, rv_43_30, if_true, Option.bind_some, nm, e0, e1, e2, e3, e4, e5, e6], rfl, hI⟩
