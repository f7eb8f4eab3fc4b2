theorem eq01 {a b : Int32} {p : Prop} (ha : a = 0 ∨ a = 1) (hb : b = 0 ∨ b = 1) (h1 : a = 1 ↔ p) (h2 : b = 1 ↔ p) : a = b := by
  rcases ha with rfl | rfl <;> rcases hb with rfl | rfl
  · rfl
  · exact absurd (h1.mpr (h2.mp rfl)) (by decide)
  · exact absurd (h2.mpr (h1.mp rfl)) (by decide)
  · rfl
theorem WS_Vw {σ : St} {o n : Nat} (h : WS σ o n) : Vw σ o n (nv σ (o + 1)) (nv σ (o + 5)) := by
  refine ⟨h.1, fun j hj => ?_⟩
  obtain ⟨a1, a2⟩ := isN_nv (h.2.2.1 j hj).1 (by omega)
  obtain ⟨b1, b2, _⟩ := WS_pl h j hj
  exact ⟨a1, a2, b1, Nat.lt_of_lt_of_le b2 h.1⟩
theorem Vw_congr {σ τ : St} {o n : Nat} {K P : Nat → Nat} (h1 : τ.1 (o + 1) = σ.1 (o + 1)) (h5 : τ.1 (o + 5) = σ.1 (o + 5)) (h : Vw σ o n K P) : Vw τ o n K P := by
  unfold Vw
  rw [h1, h5]
  exact h
theorem Mo_Mw {σ : St} {n : Nat} (hW : WS σ 4 n) (hM : Mo σ n) : Mw σ 48 n (nv σ 5) (nv σ 9) := by
  refine ⟨hW.1, hM.1, fun j hj => ?_⟩
  obtain ⟨a1, a2, a3, a4⟩ := (WS_Vw hW).2 j hj
  rw [(hM.2.1 j hj).1, (hM.2.1 j hj).2.2.2.1]
  exact ⟨a1, a2, a3, a4⟩
theorem Mw_congr {σ τ : St} {b n : Nat} {K P : Nat → Nat} (h1 : τ.1 43 = σ.1 43) (h2 : τ.1 45 = σ.1 45) (h3 : τ.1 b = σ.1 b) (h : Mw σ b n K P) : Mw τ b n K P := by
  unfold Mw
  rw [h1, h2, h3]
  exact h
theorem LawN_iff {a b c d : Prop} {P K : Nat → Nat} {n : Nat} {L : Nat → Nat} (h1 : a ↔ c) (h2 : b ↔ d) : LawN a b P K n L ↔ LawN c d P K n L := by
  rw [show a = c from propext h1, show b = d from propext h2]
theorem sm_lawful {fu : Nat} (hf : 100 ≤ fu) : Sm_lawful fu Inv := by
  intro σ x hI
  obtain ⟨⟨n, hW, hM⟩, hP, hL, hC, hIm⟩ := id hI
  obtain ⟨hn, hz, w1, w2, w3, w4⟩ := id hW
  have s1 := isTooShort_eq fu hn hz
  have s2 := lacks_eq fu hn hM.1
  by_cases h : n < 2
  · rw [if_pos h] at s1 s2
    exact ⟨(-103, σ), (-103, σ), by simp [fX9_lawful_54, fX9_lawful_0, fX9_lawful, xv_0, xv_1, xv_3, xv_4, xv_12, xv_20, xv_22, xv_27, xv_29, xv_32, xv_34, xv_35, xv_43, rv_0_0, rv_0_1, rv_0_2, rv_0_3, rv_0_4, rv_0_5, rv_0_6, rv_0_7, rv_1_0, rv_4_0, rv_4_1, rv_4_2, rv_4_3, rv_4_4, rv_4_5, rv_4_6, rv_12_0, rv_12_1, rv_12_2, rv_12_3, rv_12_4, rv_12_5, rv_12_6, rv_35_0, rv_35_1, rv_35_2, rv_35_3, rv_35_4, rv_35_5, rv_35_6, rv_20_0, rv_27_0, rv_32_0, rv_22_0, rv_22_1, rv_22_2, rv_22_3, rv_22_4, rv_29_0, rv_29_1, rv_29_2, rv_34_0, rv_43_0, rv_43_13, rv_43_14, rv_43_15, rv_43_16, rv_43_17, rv_43_18, rv_43_19, rv_43_20, rv_43_21, rv_43_22, rv_43_30, if_true, Option.bind_some, nm, s1], by simp [fX10_lawful_37, fX10_lawful_0, fX10_lawful, xv_0, xv_1, xv_3, xv_4, xv_12, xv_20, xv_22, xv_27, xv_29, xv_32, xv_34, xv_35, xv_43, rv_0_0, rv_0_1, rv_0_2, rv_0_3, rv_0_4, rv_0_5, rv_0_6, rv_0_7, rv_1_0, rv_4_0, rv_4_1, rv_4_2, rv_4_3, rv_4_4, rv_4_5, rv_4_6, rv_12_0, rv_12_1, rv_12_2, rv_12_3, rv_12_4, rv_12_5, rv_12_6, rv_35_0, rv_35_1, rv_35_2, rv_35_3, rv_35_4, rv_35_5, rv_35_6, rv_20_0, rv_27_0, rv_32_0, rv_22_0, rv_22_1, rv_22_2, rv_22_3, rv_22_4, rv_29_0, rv_29_1, rv_29_2, rv_34_0, rv_43_0, rv_43_13, rv_43_14, rv_43_15, rv_43_16, rv_43_17, rv_43_18, rv_43_19, rv_43_20, rv_43_21, rv_43_22, rv_43_30, if_true, Option.bind_some, nm, s2], rfl, hI⟩
  rw [if_neg h] at s1
  by_cases hx : x < 0
  · have r1 := read_neg hf xv_20 hx hn σ
    have f1 : Fr σ (si σ 20 1 0) := Fr.of 20 21 (by omega) (fun r hr => by rw [si_row, if_neg (by omega)])
    have s3 := lacks_eq fu hn (show (si σ 20 1 0).1 43 12 = nI n from hM.1)
    rw [if_neg h] at s3
    obtain ⟨τ, t1, t2, t3⟩ := readOrder_neg hf hx hn (show (si σ 20 1 0).1 43 12 = nI n from hM.1)
    exact ⟨(-102, si σ 20 1 0), (-102, τ), by simp [fX9_lawful_54, fX9_lawful_0, fX9_lawful, xv_0, xv_1, xv_3, xv_4, xv_12, xv_20, xv_22, xv_27, xv_29, xv_32, xv_34, xv_35, xv_43, rv_0_0, rv_0_1, rv_0_2, rv_0_3, rv_0_4, rv_0_5, rv_0_6, rv_0_7, rv_1_0, rv_4_0, rv_4_1, rv_4_2, rv_4_3, rv_4_4, rv_4_5, rv_4_6, rv_12_0, rv_12_1, rv_12_2, rv_12_3, rv_12_4, rv_12_5, rv_12_6, rv_35_0, rv_35_1, rv_35_2, rv_35_3, rv_35_4, rv_35_5, rv_35_6, rv_20_0, rv_27_0, rv_32_0, rv_22_0, rv_22_1, rv_22_2, rv_22_3, rv_22_4, rv_29_0, rv_29_1, rv_29_2, rv_34_0, rv_43_0, rv_43_13, rv_43_14, rv_43_15, rv_43_16, rv_43_17, rv_43_18, rv_43_19, rv_43_20, rv_43_21, rv_43_22, rv_43_30, if_true, Option.bind_some, nm, s1, size_eq fu xv_4, hz, r1], by simp [fX10_lawful_37, fX10_lawful_0, fX10_lawful, xv_0, xv_1, xv_3, xv_4, xv_12, xv_20, xv_22, xv_27, xv_29, xv_32, xv_34, xv_35, xv_43, rv_0_0, rv_0_1, rv_0_2, rv_0_3, rv_0_4, rv_0_5, rv_0_6, rv_0_7, rv_1_0, rv_4_0, rv_4_1, rv_4_2, rv_4_3, rv_4_4, rv_4_5, rv_4_6, rv_12_0, rv_12_1, rv_12_2, rv_12_3, rv_12_4, rv_12_5, rv_12_6, rv_35_0, rv_35_1, rv_35_2, rv_35_3, rv_35_4, rv_35_5, rv_35_6, rv_20_0, rv_27_0, rv_32_0, rv_22_0, rv_22_1, rv_22_2, rv_22_3, rv_22_4, rv_29_0, rv_29_1, rv_29_2, rv_34_0, rv_43_0, rv_43_13, rv_43_14, rv_43_15, rv_43_16, rv_43_17, rv_43_18, rv_43_19, rv_43_20, rv_43_21, rv_43_22, rv_43_30, if_true, Option.bind_some, nm, s3, t1], rfl, Inv_Fr (f1.tr (Fr.of 51 51 (by omega) (fun r hr => t3 r (by omega)))) hI⟩
  obtain ⟨X, hX, rfl⟩ := nI_of hx
  obtain ⟨σ1, k1, r1, r2, r3, r4, r5, r6⟩ := read_eq hf xv_20 hX hn σ
  have f1 : Fr σ σ1 := Fr.of 20 21 (by omega) (fun r hr => r5 r (by omega) (by omega))
  have z1 : σ1.1 43 12 = nI n := by rw [r5 43 (by omega) (by omega)]; exact hM.1
  have s3 := lacks_eq fu hn z1
  rw [if_neg h] at s3
  obtain ⟨σ2, k2, t1, t2, t3, t4, t5, t6⟩ := readOrder_eq hf hX hn z1
  have f2 : Fr σ σ2 := f1.tr (Fr.of 51 51 (by omega) (fun r hr => t5 r (by omega)))
  have ek : k1 = k2 := eq01 r2 t2 r3 t3
  subst ek
  rcases r2 with e | e
  · subst e
    exact ⟨(-102, σ1), (-102, σ2), by simp [fX9_lawful_54, fX9_lawful_0, fX9_lawful, xv_0, xv_1, xv_3, xv_4, xv_12, xv_20, xv_22, xv_27, xv_29, xv_32, xv_34, xv_35, xv_43, rv_0_0, rv_0_1, rv_0_2, rv_0_3, rv_0_4, rv_0_5, rv_0_6, rv_0_7, rv_1_0, rv_4_0, rv_4_1, rv_4_2, rv_4_3, rv_4_4, rv_4_5, rv_4_6, rv_12_0, rv_12_1, rv_12_2, rv_12_3, rv_12_4, rv_12_5, rv_12_6, rv_35_0, rv_35_1, rv_35_2, rv_35_3, rv_35_4, rv_35_5, rv_35_6, rv_20_0, rv_27_0, rv_32_0, rv_22_0, rv_22_1, rv_22_2, rv_22_3, rv_22_4, rv_29_0, rv_29_1, rv_29_2, rv_34_0, rv_43_0, rv_43_13, rv_43_14, rv_43_15, rv_43_16, rv_43_17, rv_43_18, rv_43_19, rv_43_20, rv_43_21, rv_43_22, rv_43_30, if_true, Option.bind_some, nm, s1, size_eq fu xv_4, hz, r1], by simp [fX10_lawful_37, fX10_lawful_0, fX10_lawful, xv_0, xv_1, xv_3, xv_4, xv_12, xv_20, xv_22, xv_27, xv_29, xv_32, xv_34, xv_35, xv_43, rv_0_0, rv_0_1, rv_0_2, rv_0_3, rv_0_4, rv_0_5, rv_0_6, rv_0_7, rv_1_0, rv_4_0, rv_4_1, rv_4_2, rv_4_3, rv_4_4, rv_4_5, rv_4_6, rv_12_0, rv_12_1, rv_12_2, rv_12_3, rv_12_4, rv_12_5, rv_12_6, rv_35_0, rv_35_1, rv_35_2, rv_35_3, rv_35_4, rv_35_5, rv_35_6, rv_20_0, rv_27_0, rv_32_0, rv_22_0, rv_22_1, rv_22_2, rv_22_3, rv_22_4, rv_29_0, rv_29_1, rv_29_2, rv_34_0, rv_43_0, rv_43_13, rv_43_14, rv_43_15, rv_43_16, rv_43_17, rv_43_18, rv_43_19, rv_43_20, rv_43_21, rv_43_22, rv_43_30, if_true, Option.bind_some, nm, s3, t1], rfl, Inv_Fr f2 hI⟩
  subst e
  obtain ⟨ok, _⟩ := r3.mp rfl
  have hpm := okP_pm hn ok
  obtain ⟨_, _, o3, o4⟩ := r6 rfl
  have v1 : Vw σ1 4 n (nv σ 5) (nv σ 9) := Vw_congr (r5 5 (by omega) (by omega)) (r5 9 (by omega) (by omega)) (WS_Vw hW)
  obtain ⟨a, a1, a2, a3⟩ := allows_eq hf xv_4 xv_20 v1 o3 (fun p hp => ⟨o4 p hp, hpm.1 p hp⟩)
  have g2 : ∀ r, r ≠ 20 → r ≠ 21 → r ≠ 51 → σ2.1 r = σ.1 r := fun r b1 b2 b3 => (t5 r b3).trans (r5 r b1 b2)
  have v2 : Mw σ2 48 n (nv σ 5) (nv σ 9) := Mw_congr (g2 43 (by omega) (by omega) (by omega)) (g2 45 (by omega) (by omega) (by omega)) (g2 48 (by omega) (by omega) (by omega)) (Mo_Mw hW hM)
  obtain ⟨b, b1, b2, b3⟩ := isLawful_eq hf (show xk 48 = 16 from rfl) v2 (fun p hp => ⟨t6 p hp, hpm.1 p hp⟩)
  have eab : a = b := eq01 a2 b2 a3 (b3.trans (LawN_iff (by rw [g2 43 (by omega) (by omega) (by omega), hL.2.2.2.2.1, r5 3 (by omega) (by omega)]) (by rw [g2 43 (by omega) (by omega) (by omega), hL.2.2.2.2.2.2.1, r5 3 (by omega) (by omega)])))
  subst eab
  refine ⟨(a, σ1), (a, σ2), ?_, ?_, rfl, Inv_Fr f2 hI⟩
  · simp only [fX9_lawful_54, fX9_lawful_0, fX9_lawful, xv_0, xv_1, xv_3, xv_4, xv_12, xv_20, xv_22, xv_27, xv_29, xv_32, xv_34, xv_35, xv_43, rv_0_0, rv_0_1, rv_0_2, rv_0_3, rv_0_4, rv_0_5, rv_0_6, rv_0_7, rv_1_0, rv_4_0, rv_4_1, rv_4_2, rv_4_3, rv_4_4, rv_4_5, rv_4_6, rv_12_0, rv_12_1, rv_12_2, rv_12_3, rv_12_4, rv_12_5, rv_12_6, rv_35_0, rv_35_1, rv_35_2, rv_35_3, rv_35_4, rv_35_5, rv_35_6, rv_20_0, rv_27_0, rv_32_0, rv_22_0, rv_22_1, rv_22_2, rv_22_3, rv_22_4, rv_29_0, rv_29_1, rv_29_2, rv_34_0, rv_43_0, rv_43_13, rv_43_14, rv_43_15, rv_43_16, rv_43_17, rv_43_18, rv_43_19, rv_43_20, rv_43_21, rv_43_22, rv_43_30, if_true, Option.bind_some, nm, s1, size_eq fu xv_4, hz, r1, a1]
    rcases a2 with e | e <;> subst e <;> rfl
  · simp only [fX10_lawful_37, fX10_lawful_0, fX10_lawful, xv_0, xv_1, xv_3, xv_4, xv_12, xv_20, xv_22, xv_27, xv_29, xv_32, xv_34, xv_35, xv_43, rv_0_0, rv_0_1, rv_0_2, rv_0_3, rv_0_4, rv_0_5, rv_0_6, rv_0_7, rv_1_0, rv_4_0, rv_4_1, rv_4_2, rv_4_3, rv_4_4, rv_4_5, rv_4_6, rv_12_0, rv_12_1, rv_12_2, rv_12_3, rv_12_4, rv_12_5, rv_12_6, rv_35_0, rv_35_1, rv_35_2, rv_35_3, rv_35_4, rv_35_5, rv_35_6, rv_20_0, rv_27_0, rv_32_0, rv_22_0, rv_22_1, rv_22_2, rv_22_3, rv_22_4, rv_29_0, rv_29_1, rv_29_2, rv_34_0, rv_43_0, rv_43_13, rv_43_14, rv_43_15, rv_43_16, rv_43_17, rv_43_18, rv_43_19, rv_43_20, rv_43_21, rv_43_22, rv_43_30, if_true, Option.bind_some, nm, s3, t1, b1]
    rcases a2 with e | e <;> subst e <;> rfl
/-- laid up to i: which rows changed, and how -/
def Ld (σ : St) (o : Nat) (K L : Nat → Nat) (tn : Prop) (i : Nat) (τ : St) : Prop := τ.2 = σ.2 ∧ (∀ r, r ≠ o + 2 → r ≠ o + 3 → r ≠ o + 5 → r ≠ o + 6 → τ.1 r = σ.1 r) ∧ (∀ p, p < i → τ.1 (o + 6) p = nI (L p) ∧ τ.1 (o + 5) (L p) = nI p ∧ (tn ∧ K (L p) ≠ 4 → τ.1 (o + 2) (L p) = σ.1 (o + 3) (L p) ∧ τ.1 (o + 3) (L p) = σ.1 (o + 2) (L p)) ∧ (¬ (tn ∧ K (L p) ≠ 4) → τ.1 (o + 2) (L p) = σ.1 (o + 2) (L p) ∧ τ.1 (o + 3) (L p) = σ.1 (o + 3) (L p))) ∧ ∀ j, (∀ p, p < i → L p ≠ j) → τ.1 (o + 2) j = σ.1 (o + 2) j ∧ τ.1 (o + 3) j = σ.1 (o + 3) j
theorem k4 {k : Nat} (h : k ≤ 4) : nI k = 4 ↔ k = 4 := nI_eq (b := 4) (by omega) (by omega)
theorem putDown_lp (fu : Nat) {o r n : Nat} (ho : xk o = 6) (hr : xk r = 4) (hro : r + 1 < o ∨ o + 7 < r) {K P L : Nat → Nat} {σ : St} (hv : Vw σ o n K P) (hzo : σ.1 o 7 = nI n) (hz : σ.1 r 1 = nI n) (hL : ∀ p, p < n → σ.1 (r + 1) p = nI (L p)) (hpm : isPm n L) (t : Int32) : ∀ (m i : Nat) (τ : St), i ≤ n → n - i < m → Ld σ o K L (¬ t = 0) i τ → ∃ τ', fX8_putDown_2 fu o r t m (nI i) τ = some τ' ∧ Ld σ o K L (¬ t = 0) n τ' := by
  intro m
  induction m with
  | zero => intro i τ h1 h2; omega
  | succ m ih =>
    intro i τ h1 h2 hd
    show ∃ τ', fX8_putDown_2b fu (fX8_putDown_2 fu o r t m) o r t (nI i) τ = _ ∧ _
    obtain ⟨d0, d1, d2, d3⟩ := id hd
    have hn := hv.1
    have zo : τ.1 o 7 = nI n := by rw [d1 o (by omega) (by omega) (by omega) (by omega)]; exact hzo
    have zr : τ.1 r 1 = nI n := by rw [d1 r (by omega) (by omega) (by omega) (by omega)]; exact hz
    unfold fX8_putDown_2b fX8_putDown_45
    rw [zo]
    by_cases c : i < n
    · have l2 := hpm.1 i c
      have fresh : ∀ p, p < i → L p ≠ L i := fun p hp e => by have := hpm.2.2 p i (by omega) c e; omega
      rw [if_neg (nI_ge c (by omega)), blockIn_eq fu hr hn c zr, d1 (r + 1) (by omega) (by omega) (by omega) (by omega), hL i c]
      simp only [Option.bind_some, put_eq fu ho (show L i < 7 by omega) (show i < 7 by omega), nm]
      rw [nI_1, rs0 ho, ald_nI (by omega) (by omega)]
      simp only [Option.bind_some]
      have ek : (si (si τ (o + 5) (L i) (nI i)) (o + 6) i (nI (L i))).1 (o + 1) (L i) = nI (K (L i)) := by
        rw [si_row, if_neg (by omega), si_row, if_neg (by omega), d1 (o + 1) (by omega) (by omega) (by omega) (by omega)]
        exact (hv.2 _ l2).1
      rw [ek]
      simp only [k4 (hv.2 _ l2).2.1]
      obtain ⟨u2, u3⟩ := d3 (L i) fresh
      have base : ∀ r', r' ≠ o + 2 → r' ≠ o + 3 → r' ≠ o + 5 → r' ≠ o + 6 → (si (si τ (o + 5) (L i) (nI i)) (o + 6) i (nI (L i))).1 r' = σ.1 r' := fun r' a b c' d => by
        rw [si_row, if_neg d, si_row, if_neg c']; exact d1 r' a b c' d
      have r6 : ∀ p, p < i + 1 → (si (si τ (o + 5) (L i) (nI i)) (o + 6) i (nI (L i))).1 (o + 6) p = nI (L p) := fun p hp => by
        rw [si_row, if_pos rfl, si_row, if_neg (by omega)]
        by_cases e : p = i
        · rw [e, upd_same]
        · rw [upd_ne _ _ e]; exact (d2 p (by omega)).1
      have r5 : ∀ p, p < i + 1 → (si (si τ (o + 5) (L i) (nI i)) (o + 6) i (nI (L i))).1 (o + 5) (L p) = nI p := fun p hp => by
        rw [si_row, if_neg (by omega), si_row, if_pos rfl]
        by_cases e : p = i
        · rw [e, upd_same]
        · rw [upd_ne _ _ (fresh p (by omega))]; exact (d2 p (by omega)).2.1
      have r2 : (si (si τ (o + 5) (L i) (nI i)) (o + 6) i (nI (L i))).1 (o + 2) = τ.1 (o + 2) := by rw [si_row, if_neg (by omega), si_row, if_neg (by omega)]
      have r3 : (si (si τ (o + 5) (L i) (nI i)) (o + 6) i (nI (L i))).1 (o + 3) = τ.1 (o + 3) := by rw [si_row, if_neg (by omega), si_row, if_neg (by omega)]
      have same : ¬ (¬ t = 0 ∧ K (L i) ≠ 4) → Ld σ o K L (¬ t = 0) (i + 1) (si (si τ (o + 5) (L i) (nI i)) (o + 6) i (nI (L i))) := by
        intro hno
        refine ⟨d0, base, fun p hp => ⟨r6 p hp, r5 p hp, ?_⟩, fun j hj => ?_⟩
        · rw [r2, r3]
          by_cases e : p = i
          · subst e
            exact ⟨fun q => absurd q hno, fun _ => ⟨u2, u3⟩⟩
          · exact (d2 p (by omega)).2.2
        · rw [r2, r3]
          exact d3 j (fun p hp => hj p (by omega))
      by_cases t0 : t = 0
      · rw [if_pos t0]
        exact ih (i + 1) _ (by omega) (by omega) (same (fun q => q.1 t0))
      rw [if_neg t0]
      by_cases k4' : K (L i) = 4
      · rw [if_pos k4']
        exact ih (i + 1) _ (by omega) (by omega) (same (fun q => q.2 k4'))
      · rw [if_neg k4', turnOver_eq fu ho (show L i < 7 by omega)]
        simp only [Option.bind_some]
        rw [r2, r3]
        refine ih (i + 1) _ (by omega) (by omega) ?_
        have q2 : ∀ τ0 : St, ∀ v w : Int32, (si (si τ0 (o + 2) (L i) v) (o + 3) (L i) w).1 (o + 2) = upd (τ0.1 (o + 2)) (L i) v := fun τ0 v w => by rw [si_row, if_neg (by omega), si_row, if_pos rfl]
        have q3 : ∀ τ0 : St, ∀ v w : Int32, (si (si τ0 (o + 2) (L i) v) (o + 3) (L i) w).1 (o + 3) = upd (τ0.1 (o + 3)) (L i) w := fun τ0 v w => by rw [si_row, if_pos rfl, si_row, if_neg (by omega)]
        have qo : ∀ τ0 : St, ∀ v w : Int32, ∀ r', r' ≠ o + 2 → r' ≠ o + 3 → (si (si τ0 (o + 2) (L i) v) (o + 3) (L i) w).1 r' = τ0.1 r' := fun τ0 v w r' a b => by rw [si_row, if_neg b, si_row, if_neg a]
        refine ⟨d0, fun r' a b c' d => ?_, fun p hp => ⟨?_, ?_, ?_⟩, fun j hj => ?_⟩
        · rw [qo _ _ _ r' a b]; exact base r' a b c' d
        · rw [qo _ _ _ (o + 6) (by omega) (by omega)]; exact r6 p hp
        · rw [qo _ _ _ (o + 5) (by omega) (by omega)]; exact r5 p hp
        · rw [q2, q3, r2, r3]
          by_cases e : p = i
          · subst e
            rw [upd_same, upd_same]
            exact ⟨fun _ => ⟨u3, u2⟩, fun q => absurd ⟨t0, k4'⟩ q⟩
          · rw [upd_ne _ _ (fresh p (by omega)), upd_ne _ _ (fresh p (by omega))]
            exact (d2 p (by omega)).2.2
        · rw [q2, q3, r2, r3]
          have hj' : j ≠ L i := fun e => hj i (by omega) e.symm
          rw [upd_ne _ _ hj', upd_ne _ _ hj']
          exact d3 j (fun p hp => hj p (by omega))
    · have : i = n := by omega
      subst this
      rw [if_pos (nI_le (Nat.le_refl _) (by omega))]
      exact ⟨τ, rfl, hd⟩
theorem putDown_eq {fu : Nat} (hf : 100 ≤ fu) {o r n : Nat} (ho : xk o = 6) (hr : xk r = 4) (hro : r + 1 < o ∨ o + 7 < r) {K P L : Nat → Nat} {σ : St} (hv : Vw σ o n K P) (hzo : σ.1 o 7 = nI n) (hz : σ.1 r 1 = nI n) (hL : ∀ p, p < n → σ.1 (r + 1) p = nI (L p)) (hpm : isPm n L) (t : Int32) : ∃ τ', fX8_putDown fu o r t σ = some τ' ∧ Ld σ o K L (¬ t = 0) n τ' := by
  have hn := hv.1
  unfold fX8_putDown fX8_putDown_0
  rw [if_pos ho, if_pos hr]
  exact putDown_lp fu ho hr hro hv hzo hz hL hpm t fu 0 σ (by omega) (by omega) ⟨rfl, fun _ _ _ _ _ => rfl, fun p hp => by omega, fun _ _ => ⟨rfl, rfl⟩⟩
/-- the same in the reference: rows u (above), d (below), b (lie) -/
def Md (σ : St) (u d b : Nat) (K L : Nat → Nat) (tn : Prop) (i : Nat) (τ : St) : Prop := τ.2 = σ.2 ∧ (∀ r, r ≠ u → r ≠ d → r ≠ b → τ.1 r = σ.1 r) ∧ (∀ p, p < i → τ.1 b (L p) = nI p ∧ (tn ∧ K (L p) ≠ 4 → τ.1 u (L p) = σ.1 d (L p) ∧ τ.1 d (L p) = σ.1 u (L p)) ∧ (¬ (tn ∧ K (L p) ≠ 4) → τ.1 u (L p) = σ.1 u (L p) ∧ τ.1 d (L p) = σ.1 d (L p))) ∧ ∀ j, (∀ p, p < i → L p ≠ j) → τ.1 u j = σ.1 u j ∧ τ.1 d j = σ.1 d j
theorem layOn_lp (fu : Nat) {u d b n : Nat} (hu : xk u = 16) (hd' : xk d = 16) (hne : u ≠ d ∧ u ≠ b ∧ d ≠ b ∧ u ≠ 43 ∧ d ≠ 43 ∧ b ≠ 43 ∧ u ≠ 45 ∧ d ≠ 45 ∧ b ≠ 45 ∧ u ≠ 51 ∧ d ≠ 51 ∧ b ≠ 51) {K L : Nat → Nat} {σ : St} (hn : n ≤ 7) (hz : σ.1 43 12 = nI n) (hK : ∀ j, j < n → σ.1 45 j = nI (K j) ∧ K j ≤ 4) (hL : ∀ p, p < n → σ.1 51 p = nI (L p)) (hpm : isPm n L) : ∀ (m i : Nat) (τ : St), i ≤ n → n - i < m → Md σ u d b K L (σ.1 43 3 = 1) i τ → ∃ τ', fX10_layOn_3 fu 43 u d b m (nI i) τ = some τ' ∧ Md σ u d b K L (σ.1 43 3 = 1) n τ' := by
  obtain ⟨n1, n2, n3, n4, n5, n6, n7, n8, n9, n10, n11, n12⟩ := hne
  intro m
  induction m with
  | zero => intro i τ h1 h2; omega
  | succ m ih =>
    intro i τ h1 h2 hd
    show ∃ τ', fX10_layOn_3b fu (fX10_layOn_3 fu 43 u d b m) 43 u d b (nI i) τ = _ ∧ _
    obtain ⟨d0, d1, d2, d3⟩ := id hd
    have e43 : τ.1 43 = σ.1 43 := d1 43 (Ne.symm n4) (Ne.symm n5) (Ne.symm n6)
    unfold fX10_layOn_3b fX10_layOn_53
    rw [e43, hz]
    by_cases c : i < n
    · have l2 := hpm.1 i c
      have fresh : ∀ p, p < i → L p ≠ L i := fun p hp e => by have := hpm.2.2 p i (by omega) c e; omega
      rw [if_neg (nI_ge c (by omega)), rv_43_19, ald_nI (by omega) (by omega), d1 51 (Ne.symm n10) (Ne.symm n11) (Ne.symm n12), hL i c]
      simp only [Option.bind_some]
      rw [ast_nI (by omega) (by omega)]
      simp only [Option.bind_some, nm]
      rw [nI_1, rv_43_13, ald_nI (by omega) (by omega)]
      simp only [Option.bind_some]
      rw [show (si τ b (L i) (nI i)).1 43 = σ.1 43 from by rw [si_row, if_neg (Ne.symm n6)]; exact e43]
      rw [show (si τ b (L i) (nI i)).1 45 (L i) = nI (K (L i)) from by rw [si_row, if_neg (Ne.symm n9), d1 45 (Ne.symm n7) (Ne.symm n8) (Ne.symm n9)]; exact (hK _ l2).1]
      simp only [k4 (hK _ l2).2]
      obtain ⟨u2, u3⟩ := d3 (L i) fresh
      have base : ∀ r', r' ≠ u → r' ≠ d → r' ≠ b → (si τ b (L i) (nI i)).1 r' = σ.1 r' := fun r' a a2 a3 => by
        rw [si_row, if_neg a3]; exact d1 r' a a2 a3
      have r5 : ∀ p, p < i + 1 → (si τ b (L i) (nI i)).1 b (L p) = nI p := fun p hp => by
        rw [si_row, if_pos rfl]
        by_cases e : p = i
        · rw [e, upd_same]
        · rw [upd_ne _ _ (fresh p (by omega))]; exact (d2 p (by omega)).1
      have r2 : (si τ b (L i) (nI i)).1 u = τ.1 u := by rw [si_row, if_neg n2]
      have r3 : (si τ b (L i) (nI i)).1 d = τ.1 d := by rw [si_row, if_neg n3]
      have same : ¬ (σ.1 43 3 = 1 ∧ K (L i) ≠ 4) → Md σ u d b K L (σ.1 43 3 = 1) (i + 1) (si τ b (L i) (nI i)) := by
        intro hno
        refine ⟨d0, base, fun p hp => ⟨r5 p hp, ?_⟩, fun j hj => ?_⟩
        · rw [r2, r3]
          by_cases e : p = i
          · subst e
            exact ⟨fun q => absurd q hno, fun _ => ⟨u2, u3⟩⟩
          · exact (d2 p (by omega)).2
        · rw [r2, r3]
          exact d3 j (fun p hp => hj p (by omega))
      by_cases t1 : σ.1 43 3 = 1
      · rw [if_pos t1]
        by_cases k4' : K (L i) = 4
        · rw [if_pos k4']
          exact ih (i + 1) _ (by omega) (by omega) (same (fun q => q.2 k4'))
        · rw [if_neg k4']
          have ex : fX10_exchange fu u d (nI (L i)) (si τ b (L i) (nI i)) = some (si (si (si τ b (L i) (nI i)) u (L i) (τ.1 d (L i))) d (L i) (τ.1 u (L i))) := by
            simp only [fX10_exchange_0, fX10_exchange, hu, hd', if_true, ald_nI (show L i < 7 by omega) (by omega : 7 < 2 ^ 31), ast_nI (show L i < 7 by omega) (by omega : 7 < 2 ^ 31), Option.bind_some, r2, r3]
          rw [ex]
          simp only [Option.bind_some]
          refine ih (i + 1) _ (by omega) (by omega) ?_
          have q2 : ∀ τ0 : St, ∀ v w : Int32, (si (si τ0 u (L i) v) d (L i) w).1 u = upd (τ0.1 u) (L i) v := fun τ0 v w => by rw [si_row, if_neg n1, si_row, if_pos rfl]
          have q3 : ∀ τ0 : St, ∀ v w : Int32, (si (si τ0 u (L i) v) d (L i) w).1 d = upd (τ0.1 d) (L i) w := fun τ0 v w => by rw [si_row, if_pos rfl, si_row, if_neg (Ne.symm n1)]
          have qo : ∀ τ0 : St, ∀ v w : Int32, ∀ r', r' ≠ u → r' ≠ d → (si (si τ0 u (L i) v) d (L i) w).1 r' = τ0.1 r' := fun τ0 v w r' a a2 => by rw [si_row, if_neg a2, si_row, if_neg a]
          refine ⟨d0, fun r' a a2 a3 => ?_, fun p hp => ⟨?_, ?_⟩, fun j hj => ?_⟩
          · rw [qo _ _ _ r' a a2]; exact base r' a a2 a3
          · rw [qo _ _ _ b (Ne.symm n2) (Ne.symm n3)]; exact r5 p hp
          · rw [q2, q3, r2, r3]
            by_cases e : p = i
            · subst e
              rw [upd_same, upd_same]
              exact ⟨fun _ => ⟨u3, u2⟩, fun q => absurd ⟨t1, k4'⟩ q⟩
            · rw [upd_ne _ _ (fresh p (by omega)), upd_ne _ _ (fresh p (by omega))]
              exact (d2 p (by omega)).2
          · rw [q2, q3, r2, r3]
            have hj' : j ≠ L i := fun e => hj i (by omega) e.symm
            rw [upd_ne _ _ hj', upd_ne _ _ hj']
            exact d3 j (fun p hp => hj p (by omega))
      · rw [if_neg t1]
        exact ih (i + 1) _ (by omega) (by omega) (same (fun q => t1 q.1))
    · have : i = n := by omega
      subst this
      rw [if_pos (nI_le (Nat.le_refl _) (by omega))]
      exact ⟨τ, rfl, hd⟩
theorem layOn_eq {fu : Nat} (hf : 100 ≤ fu) {u d b n : Nat} (hu : xk u = 16) (hd' : xk d = 16) (hb' : xk b = 16) (hne : u ≠ d ∧ u ≠ b ∧ d ≠ b ∧ u ≠ 43 ∧ d ≠ 43 ∧ b ≠ 43 ∧ u ≠ 45 ∧ d ≠ 45 ∧ b ≠ 45 ∧ u ≠ 51 ∧ d ≠ 51 ∧ b ≠ 51) {K L : Nat → Nat} {σ : St} (hn : n ≤ 7) (hz : σ.1 43 12 = nI n) (hK : ∀ j, j < n → σ.1 45 j = nI (K j) ∧ K j ≤ 4) (hL : ∀ p, p < n → σ.1 51 p = nI (L p)) (hpm : isPm n L) : ∃ τ', fX10_layOn fu 43 u d b σ = some τ' ∧ Md σ u d b K L (σ.1 43 3 = 1) n τ' := by
  unfold fX10_layOn fX10_layOn_0
  rw [if_pos xv_43, if_pos hu, if_pos hd', if_pos hb']
  exact layOn_lp fu hu hd' hne hn hz hK hL hpm fu 0 σ (by omega) (by omega) ⟨rfl, fun _ _ _ _ => rfl, fun p hp => by omega, fun _ _ => ⟨rfl, rfl⟩⟩
