/-! digest -/
def fM (g : Nat → Int64) (h : Int64) : Nat → Int64
  | 0 => h
  | k + 1 => (31 : Int64) * fM g h k + g k
theorem say_eq (fu : Nat) (x : Int64) (τ : St) : fX10_say fu 43 x τ = some (sl τ ((31 : Int64) * τ.2 + x)) := by
  unfold fX10_say fX10_say_0
  rw [if_pos xv_43]
  rfl
theorem mix_eq (fu : Nat) (h x : Int64) (σ : St) : fX9_mix fu h x σ = some ((31 : Int64) * h + x, σ) := rfl
theorem k4c {k : Nat} (h : k < 4) : k = 0 ∨ k = 1 ∨ k = 2 ∨ k = 3 := by omega
theorem k5c {k : Nat} (h : k < 5) : k = 0 ∨ k = 1 ∨ k = 2 ∨ k = 3 ∨ k = 4 := by omega
theorem k7c {k : Nat} (h : k < 7) : k = 0 ∨ k = 1 ∨ k = 2 ∨ k = 3 ∨ k = 4 ∨ k = 5 ∨ k = 6 := by omega
/-- counts -/
def cvl (β : St) (n k : Nat) : Int32 := if k = 0 then β.1 4 7 else if k = 1 then β.1 1 1 else if k = 2 then β.1 0 9 else if k = 3 then β.1 0 10 else if k = 4 then β.1 0 11 else if k = 5 then β.1 0 12 else sumF (β.1 11) n
theorem Fr_lo {σ τ : St} (h : Fr σ τ) (r : Nat) (hr : r < 20 ∨ (43 < r ∧ r < 51) ∨ r = 55) : τ.1 r = σ.1 r := h.1 r (by omega) (by omega) (by omega)
theorem count_c {fu : Nat} (hf : 100 ≤ fu) {β σ : St} {n k : Nat} (hW : WS β 4 n) (hF : Fr β σ) (hk : k < 7) : fX9_count fu 0 (nI k) σ = some (cvl β n k, σ) := by
  have r0 := Fr_lo hF 0 (by omega)
  have r1 := Fr_lo hF 1 (by omega)
  have r4 := Fr_lo hF 4 (by omega)
  have r11 := Fr_lo hF 11 (by omega)
  have u : fX8_wheelsInUse fu 4 σ = some (sumF (β.1 11) n, σ) := by
    have := wheelsInUse_eq hf xv_4 hW.1 (σ := σ) (by rw [r4]; exact hW.2.1)
    rw [show (4 + 7 : Nat) = 11 from rfl, r11] at this
    exact this
  rcases k7c hk with rfl | rfl | rfl | rfl | rfl | rfl | rfl
  · simp [fX9_count_0, fX9_count, xv_0, xv_1, xv_3, xv_4, xv_12, xv_20, xv_22, xv_27, xv_29, xv_32, xv_34, xv_35, xv_43, rv_0_0, rv_0_1, rv_0_2, rv_0_3, rv_0_4, rv_0_5, rv_0_6, rv_0_7, rv_1_0, rv_4_0, rv_4_1, rv_4_2, rv_4_3, rv_4_4, rv_4_5, rv_4_6, rv_12_0, rv_12_1, rv_12_2, rv_12_3, rv_12_4, rv_12_5, rv_12_6, rv_35_0, rv_35_1, rv_35_2, rv_35_3, rv_35_4, rv_35_5, rv_35_6, rv_20_0, rv_27_0, rv_32_0, rv_22_0, rv_22_1, rv_22_2, rv_22_3, rv_22_4, rv_29_0, rv_29_1, rv_29_2, rv_34_0, rv_43_0, rv_43_13, rv_43_14, rv_43_15, rv_43_16, rv_43_17, rv_43_18, rv_43_19, rv_43_20, rv_43_21, rv_43_22, rv_43_30, if_true, Option.bind_some, nm, size_eq fu xv_4, cvl, r4, show nI 0 = 0 from rfl]
  · simp [fX9_count_0, fX9_count, fX7_length_0, fX7_length, xv_0, xv_1, xv_3, xv_4, xv_12, xv_20, xv_22, xv_27, xv_29, xv_32, xv_34, xv_35, xv_43, rv_0_0, rv_0_1, rv_0_2, rv_0_3, rv_0_4, rv_0_5, rv_0_6, rv_0_7, rv_1_0, rv_4_0, rv_4_1, rv_4_2, rv_4_3, rv_4_4, rv_4_5, rv_4_6, rv_12_0, rv_12_1, rv_12_2, rv_12_3, rv_12_4, rv_12_5, rv_12_6, rv_35_0, rv_35_1, rv_35_2, rv_35_3, rv_35_4, rv_35_5, rv_35_6, rv_20_0, rv_27_0, rv_32_0, rv_22_0, rv_22_1, rv_22_2, rv_22_3, rv_22_4, rv_29_0, rv_29_1, rv_29_2, rv_34_0, rv_43_0, rv_43_13, rv_43_14, rv_43_15, rv_43_16, rv_43_17, rv_43_18, rv_43_19, rv_43_20, rv_43_21, rv_43_22, rv_43_30, if_true, Option.bind_some, nm, cvl, r1, show nI 1 = 1 from rfl]
  · simp [fX9_count_0, fX9_count, xv_0, xv_1, xv_3, xv_4, xv_12, xv_20, xv_22, xv_27, xv_29, xv_32, xv_34, xv_35, xv_43, rv_0_0, rv_0_1, rv_0_2, rv_0_3, rv_0_4, rv_0_5, rv_0_6, rv_0_7, rv_1_0, rv_4_0, rv_4_1, rv_4_2, rv_4_3, rv_4_4, rv_4_5, rv_4_6, rv_12_0, rv_12_1, rv_12_2, rv_12_3, rv_12_4, rv_12_5, rv_12_6, rv_35_0, rv_35_1, rv_35_2, rv_35_3, rv_35_4, rv_35_5, rv_35_6, rv_20_0, rv_27_0, rv_32_0, rv_22_0, rv_22_1, rv_22_2, rv_22_3, rv_22_4, rv_29_0, rv_29_1, rv_29_2, rv_34_0, rv_43_0, rv_43_13, rv_43_14, rv_43_15, rv_43_16, rv_43_17, rv_43_18, rv_43_19, rv_43_20, rv_43_21, rv_43_22, rv_43_30, if_true, Option.bind_some, nm, cvl, r0, show nI 2 = 2 from rfl]
  · simp [fX9_count_0, fX9_count, xv_0, xv_1, xv_3, xv_4, xv_12, xv_20, xv_22, xv_27, xv_29, xv_32, xv_34, xv_35, xv_43, rv_0_0, rv_0_1, rv_0_2, rv_0_3, rv_0_4, rv_0_5, rv_0_6, rv_0_7, rv_1_0, rv_4_0, rv_4_1, rv_4_2, rv_4_3, rv_4_4, rv_4_5, rv_4_6, rv_12_0, rv_12_1, rv_12_2, rv_12_3, rv_12_4, rv_12_5, rv_12_6, rv_35_0, rv_35_1, rv_35_2, rv_35_3, rv_35_4, rv_35_5, rv_35_6, rv_20_0, rv_27_0, rv_32_0, rv_22_0, rv_22_1, rv_22_2, rv_22_3, rv_22_4, rv_29_0, rv_29_1, rv_29_2, rv_34_0, rv_43_0, rv_43_13, rv_43_14, rv_43_15, rv_43_16, rv_43_17, rv_43_18, rv_43_19, rv_43_20, rv_43_21, rv_43_22, rv_43_30, if_true, Option.bind_some, nm, cvl, r0, show nI 3 = 3 from rfl]
  · simp [fX9_count_0, fX9_count, xv_0, xv_1, xv_3, xv_4, xv_12, xv_20, xv_22, xv_27, xv_29, xv_32, xv_34, xv_35, xv_43, rv_0_0, rv_0_1, rv_0_2, rv_0_3, rv_0_4, rv_0_5, rv_0_6, rv_0_7, rv_1_0, rv_4_0, rv_4_1, rv_4_2, rv_4_3, rv_4_4, rv_4_5, rv_4_6, rv_12_0, rv_12_1, rv_12_2, rv_12_3, rv_12_4, rv_12_5, rv_12_6, rv_35_0, rv_35_1, rv_35_2, rv_35_3, rv_35_4, rv_35_5, rv_35_6, rv_20_0, rv_27_0, rv_32_0, rv_22_0, rv_22_1, rv_22_2, rv_22_3, rv_22_4, rv_29_0, rv_29_1, rv_29_2, rv_34_0, rv_43_0, rv_43_13, rv_43_14, rv_43_15, rv_43_16, rv_43_17, rv_43_18, rv_43_19, rv_43_20, rv_43_21, rv_43_22, rv_43_30, if_true, Option.bind_some, nm, cvl, r0, show nI 4 = 4 from rfl]
  · simp [fX9_count_0, fX9_count, xv_0, xv_1, xv_3, xv_4, xv_12, xv_20, xv_22, xv_27, xv_29, xv_32, xv_34, xv_35, xv_43, rv_0_0, rv_0_1, rv_0_2, rv_0_3, rv_0_4, rv_0_5, rv_0_6, rv_0_7, rv_1_0, rv_4_0, rv_4_1, rv_4_2, rv_4_3, rv_4_4, rv_4_5, rv_4_6, rv_12_0, rv_12_1, rv_12_2, rv_12_3, rv_12_4, rv_12_5, rv_12_6, rv_35_0, rv_35_1, rv_35_2, rv_35_3, rv_35_4, rv_35_5, rv_35_6, rv_20_0, rv_27_0, rv_32_0, rv_22_0, rv_22_1, rv_22_2, rv_22_3, rv_22_4, rv_29_0, rv_29_1, rv_29_2, rv_34_0, rv_43_0, rv_43_13, rv_43_14, rv_43_15, rv_43_16, rv_43_17, rv_43_18, rv_43_19, rv_43_20, rv_43_21, rv_43_22, rv_43_30, if_true, Option.bind_some, nm, cvl, r0, show nI 5 = 5 from rfl]
  · simp [fX9_count_0, fX9_count, xv_0, xv_1, xv_3, xv_4, xv_12, xv_20, xv_22, xv_27, xv_29, xv_32, xv_34, xv_35, xv_43, rv_0_0, rv_0_1, rv_0_2, rv_0_3, rv_0_4, rv_0_5, rv_0_6, rv_0_7, rv_1_0, rv_4_0, rv_4_1, rv_4_2, rv_4_3, rv_4_4, rv_4_5, rv_4_6, rv_12_0, rv_12_1, rv_12_2, rv_12_3, rv_12_4, rv_12_5, rv_12_6, rv_35_0, rv_35_1, rv_35_2, rv_35_3, rv_35_4, rv_35_5, rv_35_6, rv_20_0, rv_27_0, rv_32_0, rv_22_0, rv_22_1, rv_22_2, rv_22_3, rv_22_4, rv_29_0, rv_29_1, rv_29_2, rv_34_0, rv_43_0, rv_43_13, rv_43_14, rv_43_15, rv_43_16, rv_43_17, rv_43_18, rv_43_19, rv_43_20, rv_43_21, rv_43_22, rv_43_30, if_true, Option.bind_some, nm, cvl, u, show nI 6 = 6 from rfl]
theorem count_m {fu : Nat} (hf : 100 ≤ fu) {β τ : St} {n k : Nat} (hW : WS β 4 n) (hM : Mo β n) (hP : Pg β) (hC : Cn β) (hF : Fr β τ) (hk : k < 7) : fX10_countOf fu 43 (nI k) τ = some (cvl β n k, τ) := by
  obtain ⟨l, hl, hl1, hl2, hl3⟩ := hP
  obtain ⟨c1, ⟨k1, d1, d2, d3⟩, ⟨k2, d4, d5, d6⟩, ⟨k3, d7, d8, d9⟩⟩ := hC
  have r50 := Fr_lo hF 50 (by omega)
  have u : fX10_wheelsOf fu 43 τ = some (sumF (β.1 11) n, τ) := by
    have := wheelsOf_eq hf hW.1 (σ := τ) (by rw [hF.2 12 (by omega) (by omega) (by omega) (by omega)]; exact hM.1)
    rw [r50, show sumF (β.1 50) n = sumF (β.1 11) n from sumF_congr n (fun j hj => hM.2.2 j (by have := hW.1; omega))] at this
    exact this
  rcases k7c hk with rfl | rfl | rfl | rfl | rfl | rfl | rfl
  · simp [fX10_countOf_0, fX10_countOf, xv_0, xv_1, xv_3, xv_4, xv_12, xv_20, xv_22, xv_27, xv_29, xv_32, xv_34, xv_35, xv_43, rv_0_0, rv_0_1, rv_0_2, rv_0_3, rv_0_4, rv_0_5, rv_0_6, rv_0_7, rv_1_0, rv_4_0, rv_4_1, rv_4_2, rv_4_3, rv_4_4, rv_4_5, rv_4_6, rv_12_0, rv_12_1, rv_12_2, rv_12_3, rv_12_4, rv_12_5, rv_12_6, rv_35_0, rv_35_1, rv_35_2, rv_35_3, rv_35_4, rv_35_5, rv_35_6, rv_20_0, rv_27_0, rv_32_0, rv_22_0, rv_22_1, rv_22_2, rv_22_3, rv_22_4, rv_29_0, rv_29_1, rv_29_2, rv_34_0, rv_43_0, rv_43_13, rv_43_14, rv_43_15, rv_43_16, rv_43_17, rv_43_18, rv_43_19, rv_43_20, rv_43_21, rv_43_22, rv_43_30, if_true, Option.bind_some, nm, cvl, hF.2 12 (by omega) (by omega) (by omega) (by omega), hM.1, hW.2.1, show nI 0 = 0 from rfl]
  · simp [fX10_countOf_0, fX10_countOf, xv_0, xv_1, xv_3, xv_4, xv_12, xv_20, xv_22, xv_27, xv_29, xv_32, xv_34, xv_35, xv_43, rv_0_0, rv_0_1, rv_0_2, rv_0_3, rv_0_4, rv_0_5, rv_0_6, rv_0_7, rv_1_0, rv_4_0, rv_4_1, rv_4_2, rv_4_3, rv_4_4, rv_4_5, rv_4_6, rv_12_0, rv_12_1, rv_12_2, rv_12_3, rv_12_4, rv_12_5, rv_12_6, rv_35_0, rv_35_1, rv_35_2, rv_35_3, rv_35_4, rv_35_5, rv_35_6, rv_20_0, rv_27_0, rv_32_0, rv_22_0, rv_22_1, rv_22_2, rv_22_3, rv_22_4, rv_29_0, rv_29_1, rv_29_2, rv_34_0, rv_43_0, rv_43_13, rv_43_14, rv_43_15, rv_43_16, rv_43_17, rv_43_18, rv_43_19, rv_43_20, rv_43_21, rv_43_22, rv_43_30, if_true, Option.bind_some, nm, cvl, hF.2 1 (by omega) (by omega) (by omega) (by omega), hl1, hl2, show nI 1 = 1 from rfl]
  · simp [fX10_countOf_0, fX10_countOf, xv_0, xv_1, xv_3, xv_4, xv_12, xv_20, xv_22, xv_27, xv_29, xv_32, xv_34, xv_35, xv_43, rv_0_0, rv_0_1, rv_0_2, rv_0_3, rv_0_4, rv_0_5, rv_0_6, rv_0_7, rv_1_0, rv_4_0, rv_4_1, rv_4_2, rv_4_3, rv_4_4, rv_4_5, rv_4_6, rv_12_0, rv_12_1, rv_12_2, rv_12_3, rv_12_4, rv_12_5, rv_12_6, rv_35_0, rv_35_1, rv_35_2, rv_35_3, rv_35_4, rv_35_5, rv_35_6, rv_20_0, rv_27_0, rv_32_0, rv_22_0, rv_22_1, rv_22_2, rv_22_3, rv_22_4, rv_29_0, rv_29_1, rv_29_2, rv_34_0, rv_43_0, rv_43_13, rv_43_14, rv_43_15, rv_43_16, rv_43_17, rv_43_18, rv_43_19, rv_43_20, rv_43_21, rv_43_22, rv_43_30, if_true, Option.bind_some, nm, cvl, hF.2 6 (by omega) (by omega) (by omega) (by omega), c1, show nI 2 = 2 from rfl]
  · simp [fX10_countOf_0, fX10_countOf, xv_0, xv_1, xv_3, xv_4, xv_12, xv_20, xv_22, xv_27, xv_29, xv_32, xv_34, xv_35, xv_43, rv_0_0, rv_0_1, rv_0_2, rv_0_3, rv_0_4, rv_0_5, rv_0_6, rv_0_7, rv_1_0, rv_4_0, rv_4_1, rv_4_2, rv_4_3, rv_4_4, rv_4_5, rv_4_6, rv_12_0, rv_12_1, rv_12_2, rv_12_3, rv_12_4, rv_12_5, rv_12_6, rv_35_0, rv_35_1, rv_35_2, rv_35_3, rv_35_4, rv_35_5, rv_35_6, rv_20_0, rv_27_0, rv_32_0, rv_22_0, rv_22_1, rv_22_2, rv_22_3, rv_22_4, rv_29_0, rv_29_1, rv_29_2, rv_34_0, rv_43_0, rv_43_13, rv_43_14, rv_43_15, rv_43_16, rv_43_17, rv_43_18, rv_43_19, rv_43_20, rv_43_21, rv_43_22, rv_43_30, if_true, Option.bind_some, nm, cvl, hF.2 25 (by omega) (by omega) (by omega) (by omega), d2, d3, show nI 3 = 3 from rfl]
  · simp [fX10_countOf_0, fX10_countOf, xv_0, xv_1, xv_3, xv_4, xv_12, xv_20, xv_22, xv_27, xv_29, xv_32, xv_34, xv_35, xv_43, rv_0_0, rv_0_1, rv_0_2, rv_0_3, rv_0_4, rv_0_5, rv_0_6, rv_0_7, rv_1_0, rv_4_0, rv_4_1, rv_4_2, rv_4_3, rv_4_4, rv_4_5, rv_4_6, rv_12_0, rv_12_1, rv_12_2, rv_12_3, rv_12_4, rv_12_5, rv_12_6, rv_35_0, rv_35_1, rv_35_2, rv_35_3, rv_35_4, rv_35_5, rv_35_6, rv_20_0, rv_27_0, rv_32_0, rv_22_0, rv_22_1, rv_22_2, rv_22_3, rv_22_4, rv_29_0, rv_29_1, rv_29_2, rv_34_0, rv_43_0, rv_43_13, rv_43_14, rv_43_15, rv_43_16, rv_43_17, rv_43_18, rv_43_19, rv_43_20, rv_43_21, rv_43_22, rv_43_30, if_true, Option.bind_some, nm, cvl, hF.2 27 (by omega) (by omega) (by omega) (by omega), d5, d6, show nI 4 = 4 from rfl]
  · simp [fX10_countOf_0, fX10_countOf, xv_0, xv_1, xv_3, xv_4, xv_12, xv_20, xv_22, xv_27, xv_29, xv_32, xv_34, xv_35, xv_43, rv_0_0, rv_0_1, rv_0_2, rv_0_3, rv_0_4, rv_0_5, rv_0_6, rv_0_7, rv_1_0, rv_4_0, rv_4_1, rv_4_2, rv_4_3, rv_4_4, rv_4_5, rv_4_6, rv_12_0, rv_12_1, rv_12_2, rv_12_3, rv_12_4, rv_12_5, rv_12_6, rv_35_0, rv_35_1, rv_35_2, rv_35_3, rv_35_4, rv_35_5, rv_35_6, rv_20_0, rv_27_0, rv_32_0, rv_22_0, rv_22_1, rv_22_2, rv_22_3, rv_22_4, rv_29_0, rv_29_1, rv_29_2, rv_34_0, rv_43_0, rv_43_13, rv_43_14, rv_43_15, rv_43_16, rv_43_17, rv_43_18, rv_43_19, rv_43_20, rv_43_21, rv_43_22, rv_43_30, if_true, Option.bind_some, nm, cvl, hF.2 28 (by omega) (by omega) (by omega) (by omega), d8, d9, show nI 5 = 5 from rfl]
  · simp [fX10_countOf_0, fX10_countOf, xv_0, xv_1, xv_3, xv_4, xv_12, xv_20, xv_22, xv_27, xv_29, xv_32, xv_34, xv_35, xv_43, rv_0_0, rv_0_1, rv_0_2, rv_0_3, rv_0_4, rv_0_5, rv_0_6, rv_0_7, rv_1_0, rv_4_0, rv_4_1, rv_4_2, rv_4_3, rv_4_4, rv_4_5, rv_4_6, rv_12_0, rv_12_1, rv_12_2, rv_12_3, rv_12_4, rv_12_5, rv_12_6, rv_35_0, rv_35_1, rv_35_2, rv_35_3, rv_35_4, rv_35_5, rv_35_6, rv_20_0, rv_27_0, rv_32_0, rv_22_0, rv_22_1, rv_22_2, rv_22_3, rv_22_4, rv_29_0, rv_29_1, rv_29_2, rv_34_0, rv_43_0, rv_43_13, rv_43_14, rv_43_15, rv_43_16, rv_43_17, rv_43_18, rv_43_19, rv_43_20, rv_43_21, rv_43_22, rv_43_30, if_true, Option.bind_some, nm, cvl, u, show nI 6 = 6 from rfl]
def gC (β : St) (n : Nat) (k : Nat) : Int64 := (cvl β n k).toInt64
theorem dg113 {fu : Nat} (hf : 100 ≤ fu) {β σ : St} {n : Nat} (hW : WS β 4 n) (hF : Fr β σ) (h : Int64) : ∀ (m k : Nat), k ≤ 7 → 7 - k < m → fX9_digest_113 fu 0 m (fM (gC β n) h k) (nI k) σ = some (fM (gC β n) h 7, σ) := by
  intro m
  induction m with
  | zero => intro k _ h; omega
  | succ m ih =>
    intro k hk hm
    show fX9_digest_113b fu (fX9_digest_113 fu 0 m) 0 _ (nI k) σ = _
    unfold fX9_digest_113b
    by_cases c : k < 7
    · rw [if_neg (show ¬ (6 : Int32) < nI k from nI_nlt (a := 6) (by omega) (by omega)), count_c hf hW hF c]
      simp only [Option.bind_some, nm, mix_eq]
      rw [nI_1]
      exact ih (k + 1) (by omega) (by omega)
    · have : k = 7 := by omega
      subst this
      rw [if_pos (show (6 : Int32) < nI 7 by decide)]
theorem dg135 {fu : Nat} (hf : 100 ≤ fu) {β τ : St} {n : Nat} (hW : WS β 4 n) (hM : Mo β n) (hP : Pg β) (hC : Cn β) (hF : Fr β τ) (h : Int64) : ∀ (m k : Nat), k ≤ 7 → 7 - k < m → fX10_digest_135 fu 43 m (nI k) (sl τ (fM (gC β n) h k)) = some (fM (gC β n) h 7, sl τ (fM (gC β n) h 7)) := by
  intro m
  induction m with
  | zero => intro k _ h; omega
  | succ m ih =>
    intro k hk hm
    show fX10_digest_135b fu (fX10_digest_135 fu 43 m) 43 (nI k) _ = _
    unfold fX10_digest_135b
    by_cases c : k < 7
    · rw [if_neg (show ¬ (7 : Int32) ≤ nI k from nI_ge (b := 7) c (by omega)), count_m hf hW hM hP hC (show Fr β (sl τ (fM (gC β n) h k)) from hF) c]
      simp only [Option.bind_some, nm, say_eq]
      rw [nI_1]
      exact ih (k + 1) (by omega) (by omega)
    · have : k = 7 := by omega
      subst this
      rw [if_pos (show (7 : Int32) ≤ nI 7 by decide)]
      rfl
/-- letters -/
theorem dg80 (fu : Nat) {β σ : St} {l : Nat} (hl : l ≤ 16) (h1 : β.1 1 1 = nI l) (hF : Fr β σ) (h : Int64) : ∀ (m k : Nat), k ≤ l → l - k < m → fX9_digest_80 fu 0 m (fM (fun i => (β.1 2 i).toInt64) h k) (nI k) σ = fX9_digest_113 fu 0 fu (fM (fun i => (β.1 2 i).toInt64) h l) 0 σ := by
  have z : σ.1 1 1 = nI l := by rw [Fr_lo hF 1 (by omega)]; exact h1
  have ln : fX7_length fu 1 σ = some (nI l, σ) := by
    unfold fX7_length fX7_length_0
    rw [if_pos xv_1, z]
  intro m
  induction m with
  | zero => intro k _ h; omega
  | succ m ih =>
    intro k hk hm
    show fX9_digest_80b fu (fX9_digest_80 fu 0 m) 0 _ (nI k) σ = _
    unfold fX9_digest_80b
    rw [rv_0_0, ln]
    simp only [Option.bind_some, nm, mix_eq]
    by_cases c : k < l
    · rw [if_neg (nI_ge c (by omega)), letterAt_eq fu hl z c]
      simp only [Option.bind_some]
      rw [nI_1, Fr_lo hF 2 (by omega)]
      exact ih (k + 1) (by omega) (by omega)
    · have : k = l := by omega
      subst this
      rw [if_pos (nI_le (Nat.le_refl _) (by omega))]
theorem dg108 (fu : Nat) {β τ : St} (g : Nat → Int64) {l : Nat} (hl : l ≤ 16) (h1 : β.1 43 1 = nI l) (hg : ∀ j, j < l → (β.1 44 j).toInt64 = g j) (hF : Fr β τ) (h : Int64) : ∀ (m k : Nat), k ≤ l → l - k < m → fX10_digest_108 fu 43 m (nI k) (sl τ (fM g h k)) = fX10_digest_135 fu 43 fu 0 (sl τ (fM g h l)) := by
  have z : τ.1 43 1 = nI l := by rw [hF.2 1 (by omega) (by omega) (by omega) (by omega)]; exact h1
  intro m
  induction m with
  | zero => intro k _ h; omega
  | succ m ih =>
    intro k hk hm
    show fX10_digest_108b fu (fX10_digest_108 fu 43 m) 43 (nI k) _ = _
    unfold fX10_digest_108b
    rw [show (sl τ (fM g h k)).1 43 1 = nI l from z]
    by_cases c : k < l
    · rw [if_neg (nI_ge c (by omega)), rv_43_0, ald_nI (by omega) (by omega), show (sl τ (fM g h k)).1 44 k = β.1 44 k from congrFun (Fr_lo hF 44 (by omega)) k]
      simp only [Option.bind_some, nm, say_eq]
      rw [nI_1, hg k c]
      exact ih (k + 1) (by omega) (by omega)
    · have : k = l := by omega
      subst this
      rw [if_pos (nI_le (Nat.le_refl _) (by omega))]
/-- the laying turned round -/
theorem dec70 : nI 0 + (-1) = -1 := by decide +kernel
theorem turnRound_lp (fu : Nat) {β : St} {n : Nat} (hn : n ≤ 7) (L : Nat → Nat) (hL : ∀ p, p < n → β.1 10 p = nI (L p)) : ∀ (m k : Nat) (x : Int32) (τ : St), k ≤ n → n - k < m → x = (if k < n then nI (n - 1 - k) else -1) → Or_ β 20 k (fun p => L (n - 1 - p)) τ → ∃ τ', fX6_turnRound_11 fu 20 4 m x τ = some τ' ∧ Or_ β 20 n (fun p => L (n - 1 - p)) τ' := by
  intro m
  induction m with
  | zero => intro k _ _ _ h; omega
  | succ m ih =>
    intro k x τ hk hm hx hO
    show ∃ τ', fX6_turnRound_11b fu (fX6_turnRound_11 fu 20 4 m) 20 4 x τ = _ ∧ _
    unfold fX6_turnRound_11b
    by_cases c : k < n
    · rw [if_pos c] at hx
      rw [hx, if_neg (nI_pos (by omega))]
      have bi : fX8_blockIn fu 4 (nI (n - 1 - k)) τ = some (nI (L (n - 1 - k)), τ) := by
        unfold fX8_blockIn fX8_blockIn_0
        rw [if_pos xv_4, rv_4_5, ald_nI (by omega) (by omega), hO.2.1 10 (by omega) (by omega), hL _ (by omega)]
        rfl
      rw [bi]
      simp only [Option.bind_some, nm]
      rw [append_eq fu xv_20 (show k < 7 by omega) hO.2.2.1]
      simp only [Option.bind_some]
      refine ih (k + 1) _ _ (by omega) (by omega) ?_ (Or_app hO)
      by_cases d : k + 1 < n
      · rw [if_pos d, show n - 1 - k = (n - 1 - (k + 1)) + 1 by omega]; exact dec7 _ (by omega)
      · rw [if_neg d, show n - 1 - k = 0 by omega]; exact dec70
    · have : k = n := by omega
      subst this
      rw [if_neg c] at hx
      rw [hx, if_pos (by decide)]
      exact ⟨τ, rfl, hO⟩
theorem turnRound_eq {fu : Nat} (hf : 100 ≤ fu) {β : St} {n : Nat} (hn : n ≤ 7) (h1 : 1 ≤ n) (hz : β.1 4 7 = nI n) (L : Nat → Nat) (hL : ∀ p, p < n → β.1 10 p = nI (L p)) : ∃ τ', fX6_turnRound fu 20 4 β = some τ' ∧ Or_ β 20 n (fun p => L (n - 1 - p)) τ' := by
  unfold fX6_turnRound fX6_turnRound_0
  rw [if_pos xv_20, if_pos xv_4, clear_eq fu xv_20]
  simp only [Option.bind_some, nm]
  rw [size_eq fu xv_4]
  simp only [Option.bind_some]
  rw [show (si β 20 1 0).1 4 7 = nI n from hz, nI_s1 h1]
  exact turnRound_lp fu hn L hL fu 0 _ _ (by omega) (by omega) (by rw [if_pos (by omega)]; rfl) (Or_0 β 20 _)
/-- what the street adds -/
def gT (n : Nat) (k : Nat) : Int64 := (tlC (fun p => n - 1 - p) n (nI k)).toInt64
def hS (β : St) (n : Nat) (a : Prop) [Decidable a] (h : Int64) : Int64 := fM (gT n) ((31 : Int64) * ((31 : Int64) * ((31 : Int64) * h + (wst (β.1 6) n).toInt64) + (nI (lk (nv β 5) n)).toInt64) + if a then 1 else 0) 3
theorem ml68 {fu : Nat} (hf : 100 ≤ fu) {σ : St} {n : Nat} (hF : Fw σ 4 20 n (fun p => n - 1 - p)) (x h : Int64) : ∀ (m k : Nat), k ≤ 3 → 3 - k < m → fX9_mixLaying_68 fu 0 x m (fM (gT n) h k) (nI k) σ = some (fM (gT n) h 3, σ) := by
  intro m
  induction m with
  | zero => intro k _ h; omega
  | succ m ih =>
    intro k hk hm
    show fX9_mixLaying_68b fu (fX9_mixLaying_68 fu 0 x m) 0 x _ (nI k) σ = _
    unfold fX9_mixLaying_68b
    by_cases c : k < 3
    · rw [if_neg (show ¬ (2 : Int32) < nI k from nI_nlt (a := 2) (by omega) (by omega)), rv_0_2, rv_0_4, told_eq hf xv_4 xv_20 hF]
      simp only [Option.bind_some, nm, mix_eq]
      rw [nI_1]
      exact ih (k + 1) (by omega) (by omega)
    · have : k = 3 := by omega
      subst this
      rw [if_pos (show (2 : Int32) < nI 3 by decide)]
theorem ss78 {fu : Nat} (hf : 100 ≤ fu) {τ : St} {n : Nat} (hF : Fm τ n (fun p => n - 1 - p)) (h : Int64) : ∀ (m k : Nat), k ≤ 3 → 3 - k < m → fX10_sayStreet_78 fu 43 m (nI k) (sl τ (fM (gT n) h k)) = some (sl τ (fM (gT n) h 3)) := by
  intro m
  induction m with
  | zero => intro k _ h; omega
  | succ m ih =>
    intro k hk hm
    show fX10_sayStreet_78b fu (fX10_sayStreet_78 fu 43 m) 43 (nI k) _ = _
    unfold fX10_sayStreet_78b
    by_cases c : k < 3
    · rw [if_neg (show ¬ (3 : Int32) ≤ nI k from nI_ge (b := 3) c (by omega)), tellCarried_eq hf (show Fm (sl τ (fM (gT n) h k)) n (fun p => n - 1 - p) from hF)]
      simp only [Option.bind_some, nm, say_eq]
      rw [nI_1]
      exact ih (k + 1) (by omega) (by omega)
    · have : k = 3 := by omega
      subst this
      rw [if_pos (show (3 : Int32) ≤ nI 3 by decide)]
theorem ss24_lp {fu : Nat} (hf : 100 ≤ fu) {β τ0 : St} {n : Nat} (hW : WS β 4 n) (hR : Rl β τ0 n) (L : Nat → Nat) (hL : ∀ p, p < n → β.1 10 p = nI (L p)) : ∀ (m k : Nat) (τ : St), k ≤ n → n - k < m → (∀ r, r ≠ 51 → τ.1 r = τ0.1 r) → τ.2 = τ0.2 → (∀ p, p < k → τ.1 51 p = nI (L (n - 1 - p))) → ∃ τ', fX10_sayStreet_24 fu 43 m (nI k) τ = ((fX10_isLawful fu 43 48 τ').bind fun q102 => if q102.1 = 0 then fX10_sayStreet_73 fu 43 43 (0 : Int64) q102.2 else fX10_sayStreet_73 fu 43 43 (1 : Int64) q102.2) ∧ (∀ r, r ≠ 51 → τ'.1 r = τ0.1 r) ∧ τ'.2 = τ0.2 ∧ ∀ p, p < n → τ'.1 51 p = nI (L (n - 1 - p)) := by
  have hn := hW.1
  intro m
  induction m with
  | zero => intro k _ _ h; omega
  | succ m ih =>
    intro k τ hk hm h1 h2 h3
    show ∃ τ', fX10_sayStreet_24b fu (fX10_sayStreet_24 fu 43 m) 43 (nI k) τ = _ ∧ _ ∧ _ ∧ _
    unfold fX10_sayStreet_24b
    have z : τ.1 43 12 = nI n := by rw [h1 43 (by omega)]; exact hR.2.1
    rw [z]
    by_cases c : k < n
    · have hR' : Rl β τ n := ⟨hR.1, z, fun j hj => by rw [h1 46 (by omega), h1 47 (by omega), h1 48 (by omega)]; exact hR.2.2 j hj⟩
      obtain ⟨b, hb, b1, b2, b3⟩ := blockAt_R hf hR' (show n - 1 - k < n by omega)
      rw [if_neg (nI_ge c (by omega)), nI_s1 (by omega), pk_sub (by omega), b3]
      simp only [Option.bind_some, nm]
      rw [rv_43_19, ast_nI (by omega) (by omega)]
      simp only [Option.bind_some]
      rw [nI_1]
      refine ih (k + 1) _ (by omega) (by omega) (fun r hr => by rw [si_row, if_neg hr]; exact h1 r hr) h2 (fun p hp => ?_)
      show upd (τ.1 51) k (nI b) p = _
      rw [upd_app]
      by_cases e : p = k
      · rw [if_pos e, e, ← b1, hL _ (by omega)]
      · rw [if_neg e]; exact h3 p (by omega)
    · have : k = n := by omega
      subst this
      rw [if_pos (nI_le (Nat.le_refl _) (by omega)), rv_43_16]
      exact ⟨τ, rfl, h1, h2, h3⟩
theorem street_eq {fu : Nat} (hf : 100 ≤ fu) {β : St} {n : Nat} (hn2 : 2 ≤ n) (hW : WS β 4 n) (hM : Mo β n) (hL : Lw β) (h : Int64) (x : Int64) : ∃ h' σ', fX9_mixLaying fu 0 h β = some (h', σ') ∧ Fr β σ' ∧ ∀ τ, Fr β τ → τ.2 = h → ∃ τ', fX10_sayStreet fu 43 τ = some τ' ∧ τ'.2 = h' ∧ Fr β τ' := by
  obtain ⟨hn, hz, w1, w2, w3, w4⟩ := id hW
  have hly := WS_ly hW
  obtain ⟨L, eL⟩ : ∃ L, L = nv β 10 := ⟨_, rfl⟩
  have hL10 : ∀ p, p < n → β.1 10 p = nI (L p) := fun p hp => by rw [eL]; exact (hly p hp).1
  have hLn : ∀ p, p < n → L p < n := fun p hp => by rw [eL]; exact (hly p hp).2.1
  have hLP : ∀ p, p < n → β.1 9 (L p) = nI p := fun p hp => by rw [eL]; exact (hly p hp).2.2
  obtain ⟨σ1, k1, k2⟩ := turnRound_eq hf hn (by omega) hz L hL10
  have g1 : ∀ r, r ≠ 20 → r ≠ 21 → σ1.1 r = β.1 r := k2.2.1
  have f1 : Fr β σ1 := Fr.of 20 21 (by omega) (fun r hr => g1 r (by omega) (by omega))
  have v1 : Vw σ1 4 n (nv β 5) (nv β 9) := Vw_congr (g1 5 (by omega) (by omega)) (g1 9 (by omega) (by omega)) (WS_Vw hW)
  have o4 : ∀ p, p < n → σ1.1 21 p = nI (L (n - 1 - p)) ∧ L (n - 1 - p) < n := fun p hp => ⟨k2.2.2.2 p hp, hLn _ (by omega)⟩
  obtain ⟨a, a1, a2, a3⟩ := allows_eq hf xv_4 xv_20 v1 k2.2.2.1 o4
  rw [g1 3 (by omega) (by omega)] at a3
  have hFw : Fw σ1 4 20 n (fun p => n - 1 - p) := ⟨hn, k2.2.2.1, fun p hp => ⟨L (n - 1 - p), by have := hLn (n - 1 - p) (by omega); omega, (o4 p hp).1, by rw [g1 9 (by omega) (by omega)]; exact hLP _ (by omega)⟩, fun p hp => (show n - 1 - p < n by omega)⟩
  have c1 := worstWear_eq hf xv_4 hn hz
  have c2 := looksNeeded_eq hf xv_4 hn hz (fun j hj => ⟨((WS_Vw hW).2 j hj).1, ((WS_Vw hW).2 j hj).2.1⟩)
  obtain ⟨h2, eh2⟩ : ∃ h2, h2 = (31 : Int64) * ((31 : Int64) * h + (wst (β.1 6) n).toInt64) + (nI (lk (nv β 5) n)).toInt64 := ⟨_, rfl⟩
  obtain ⟨h3, eh3⟩ : ∃ h3, h3 = (31 : Int64) * h2 + (if a = 0 then 0 else 1) := ⟨_, rfl⟩
  refine ⟨fM (gT n) h3 3, σ1, ?_, f1, fun τ hF hh => ?_⟩
  · have l68 := ml68 hf hFw h h3 fu 0 (by omega) (by omega)
    simp only [fX9_mixLaying_68b, fX9_mixLaying_68, fX9_mixLaying_61, fX9_mixLaying_0, fX9_mixLaying, xv_0, xv_1, xv_3, xv_4, xv_12, xv_20, xv_22, xv_27, xv_29, xv_32, xv_34, xv_35, xv_43, rv_0_0, rv_0_1, rv_0_2, rv_0_3, rv_0_4, rv_0_5, rv_0_6, rv_0_7, rv_1_0, rv_4_0, rv_4_1, rv_4_2, rv_4_3, rv_4_4, rv_4_5, rv_4_6, rv_12_0, rv_12_1, rv_12_2, rv_12_3, rv_12_4, rv_12_5, rv_12_6, rv_35_0, rv_35_1, rv_35_2, rv_35_3, rv_35_4, rv_35_5, rv_35_6, rv_20_0, rv_27_0, rv_32_0, rv_22_0, rv_22_1, rv_22_2, rv_22_3, rv_22_4, rv_29_0, rv_29_1, rv_29_2, rv_34_0, rv_43_0, rv_43_13, rv_43_14, rv_43_15, rv_43_16, rv_43_17, rv_43_18, rv_43_19, rv_43_20, rv_43_21, rv_43_22, rv_43_30, if_true, Option.bind_some, nm, mix_eq]
    rw [c1]
    simp only [Option.bind_some]
    rw [c2]
    simp only [Option.bind_some]
    rw [k1]
    simp only [Option.bind_some]
    rw [a1]
    simp only [Option.bind_some]
    unfold fX9_mixLaying_68 at l68
    have l68' := l68
    rw [eh3] at l68
    by_cases ca : a = 0
    · rw [if_pos ca] at l68 ⊢
      rw [eh2] at l68
      rw [← l68', eh3, eh2, if_pos ca]
      rfl
    · rw [if_neg ca] at l68 ⊢
      rw [← l68', eh3, eh2, if_neg ca]
      rfl
  · have z43 : τ.1 43 12 = nI n := by rw [hF.2 12 (by omega) (by omega) (by omega) (by omega)]; exact hM.1
    have q46 := Fr_lo hF 46 (by omega)
    have d1 := worstOf_eq hf (show xk 46 = 16 from rfl) hn z43
    rw [q46, show wst (β.1 46) n = wst (β.1 6) n from wst_congr n (fun j hj => (hM.2.1 j hj).2.1)] at d1
    have hK : ∀ υ : St, υ.1 45 = τ.1 45 → ∀ j, j < n → υ.1 45 j = nI (nv β 5 j) ∧ nv β 5 j ≤ 4 := fun υ hυ j hj => by
      rw [hυ, Fr_lo hF 45 (by omega)]
      exact ⟨((Mo_Mw hW hM).2.2 j hj).1, ((Mo_Mw hW hM).2.2 j hj).2.1⟩
    obtain ⟨τ1, e1⟩ : ∃ τ1, τ1 = sl τ ((31 : Int64) * h + (wst (β.1 6) n).toInt64) := ⟨_, rfl⟩
    have d2 := looksOf_eq hf hn (σ := τ1) (by rw [e1]; exact z43) (hK τ1 (by rw [e1]; rfl))
    obtain ⟨τ2, e2⟩ : ∃ τ2, τ2 = sl τ h2 := ⟨_, rfl⟩
    have hR2 : Rl β τ2 n := by
      rw [e2]
      refine ⟨hW, z43, fun j hj => ?_⟩
      show τ.1 46 j = _ ∧ τ.1 47 j = _ ∧ τ.1 48 j = _
      rw [q46, Fr_lo hF 47 (by omega), Fr_lo hF 48 (by omega)]
      exact ⟨(hM.2.1 j hj).2.1, (hM.2.1 j hj).2.2.1, (hM.2.1 j hj).2.2.2.1⟩
    obtain ⟨τ3, t1, t2, t3, t4⟩ := ss24_lp hf hW hR2 L hL10 fu 0 τ2 (by omega) (by omega) (fun _ _ => rfl) rfl (fun p hp => by omega)
    have g3 : ∀ r, r ≠ 51 → τ3.1 r = τ.1 r := fun r hr => by rw [t2 r hr, e2]; rfl
    have fr3 : Fr τ τ3 := Fr.of 51 51 (by omega) (fun r hr => g3 r (by omega))
    have v3 : Mw τ3 48 n (nv β 5) (nv β 9) := by
      refine ⟨hn, by rw [g3 43 (by omega)]; exact z43, fun j hj => ?_⟩
      rw [g3 45 (by omega), g3 48 (by omega), Fr_lo hF 45 (by omega), Fr_lo hF 48 (by omega)]
      exact (Mo_Mw hW hM).2.2 j hj
    obtain ⟨b, b1, b2, b3⟩ := isLawful_eq hf (show xk 48 = 16 from rfl) v3 (fun p hp => ⟨t4 p hp, hLn _ (by omega)⟩)
    rw [g3 43 (by omega), hF.2 2 (by omega) (by omega) (by omega) (by omega), hF.2 4 (by omega) (by omega) (by omega) (by omega), hL.2.2.2.2.1, hL.2.2.2.2.2.2.1] at b3
    have eab : a = b := eq01 a2 b2 a3 b3
    subst eab
    have hFm : Fm τ3 n (fun p => n - 1 - p) := ⟨hn, by rw [g3 43 (by omega)]; exact z43, fun p hp => ⟨L (n - 1 - p), by have := hLn (n - 1 - p) (by omega); omega, t4 p hp, by rw [g3 48 (by omega), Fr_lo hF 48 (by omega), (hM.2.1 _ (hLn (n - 1 - p) (by omega))).2.2.2.1]; exact hLP _ (by omega)⟩, fun p hp => (show n - 1 - p < n by omega)⟩
    have l78 := ss78 hf hFm h3 fu 0 (by omega) (by omega)
    refine ⟨sl τ3 (fM (gT n) h3 3), ?_, rfl, hF.tr fr3⟩
    unfold fX10_sayStreet fX10_sayStreet_0
    rw [if_pos xv_43, rv_43_14, d1]
    simp only [Option.bind_some, say_eq]
    rw [hh, ← e1, d2]
    simp only [Option.bind_some]
    rw [show sl τ1 ((31 : Int64) * τ1.2 + (nI (lk (nv β 5) n)).toInt64) = τ2 by rw [e1, e2, eh2]; rfl]
    rw [show fX10_sayStreet_24 fu 43 fu 0 τ2 = _ from t1, b1]
    simp only [Option.bind_some]
    have h32 : τ3.2 = h2 := by rw [t3, e2]; rfl
    unfold fX10_sayStreet_73
    simp only [say_eq, Option.bind_some]
    rw [h32]
    rw [eh3] at l78 ⊢
    by_cases ca : a = 0
    · rw [if_pos ca] at l78 ⊢
      rw [if_pos ca]
      exact l78
    · rw [if_neg ca] at l78 ⊢
      rw [if_neg ca]
      exact l78
