theorem faultOf_lp (fu : Nat) {k r : Nat} {σ : St} (hk : k ≤ 16) (hz : σ.1 43 1 = nI k) (h : isFw (σ.1 44) k r) : ∀ (m i : Nat) (τ : St), i ≤ r → k - i < m → Gs σ (σ.1 44) i τ → ∃ τ', fX10_faultOf_28 fu 43 m (nI i) τ = some (nI r, τ') ∧ G0 σ τ' ∧ (r = k → Gs σ (σ.1 44) k τ') := by
  intro m
  induction m with
  | zero => intro i τ h1 h2; omega
  | succ m ih =>
    intro i τ h1 h2 hg
    show ∃ τ', fX10_faultOf_28b fu (fX10_faultOf_28 fu 43 m) 43 (nI i) τ = _ ∧ _
    unfold fX10_faultOf_28b fX10_faultOf_55
    obtain ⟨g1, g2, g3⟩ := id h
    have e44 : τ.1 44 = σ.1 44 := hg.2.1 44 (by omega)
    rw [show τ.1 43 1 = nI k from (hg.2.2.1 1 (by omega)).trans hz]
    by_cases c : i < k
    · rw [if_neg (nI_ge c (by omega)), rv_43_0, ald_nI (by omega) (by omega)]
      simp only [Option.bind_some, nm]
      rw [e44]
      obtain ⟨y1, y2⟩ := go_eq fu hg (Rr_ok h i h1)
      by_cases d : i < r
      · obtain ⟨τ', t1, t2⟩ := y1 (g2 i d)
        rw [t1]
        simp only [Option.bind_some]
        rw [if_neg (by decide), nI_1]
        exact ih (i + 1) τ' (by omega) (by omega) t2
      · have : i = r := by omega
        subst this
        rcases g3 with g3 | g3
        · omega
        · obtain ⟨τ', t1, t2⟩ := y2 g3
          rw [t1]
          exact ⟨τ', rfl, t2, fun q => by omega⟩
    · have : i = k := by omega
      have : r = k := by omega
      subst this
      rw [if_pos (nI_le (by omega) (by omega))]
      have : i = r := by omega
      subst this
      exact ⟨τ, rfl, ⟨hg.1, hg.2.1, hg.2.2.1⟩, fun _ => hg⟩
theorem faultOf_eq {fu : Nat} (hf : 100 ≤ fu) {k r : Nat} {σ : St} (hk : k ≤ 16) (hz : σ.1 43 1 = nI k) (h : isFw (σ.1 44) k r) : ∃ τ', fX10_faultOf fu 43 σ = some (nI r, τ') ∧ G0 σ τ' ∧ (r = k → Gs σ (σ.1 44) k τ') := by
  unfold fX10_faultOf fX10_faultOf_0
  rw [if_pos xv_43]
  simp only [nm]
  refine faultOf_lp fu hk hz h fu 0 _ (by omega) (by omega) ⟨rfl, fun r hr => ?_, fun j hj => ?_, rfl, rfl, rfl, rfl, rfl⟩
  · simp only [si_row]; rw [if_neg hr, if_neg hr, if_neg hr, if_neg hr, if_neg hr]
  · show upd (upd (upd (upd (upd (σ.1 43) 7 0) 8 0) 9 0) 10 0) 11 10 j = _
    rw [upd_ne _ _ (by omega), upd_ne _ _ (by omega), upd_ne _ _ (by omega), upd_ne _ _ (by omega), upd_ne _ _ (by omega)]
theorem Inv_G0 {σ τ : St} (h : G0 σ τ) (hI : Inv σ) : Inv τ := by
  obtain ⟨h0, h1, h2⟩ := h
  obtain ⟨⟨n, hW, hM⟩, ⟨k, hk, hk1, hk2, hk3⟩, hL, hC, hIm⟩ := hI
  refine ⟨⟨n, WS_congr (fun i a b => h1 i (by omega)) hW, ?_, ?_, ?_⟩, ⟨k, hk, ?_, ?_, ?_⟩, ?_, ?_, ?_⟩
  · rw [h2 12 (by omega)]; exact hM.1
  · rw [h1 45 (by omega), h1 5 (by omega), h1 46 (by omega), h1 6 (by omega), h1 47 (by omega), h1 7 (by omega), h1 48 (by omega), h1 9 (by omega), h1 49 (by omega), h1 8 (by omega)]; exact hM.2.1
  · rw [h1 50 (by omega), h1 11 (by omega)]; exact hM.2.2
  · rw [h1 1 (by omega)]; exact hk1
  · rw [h2 1 (by omega)]; exact hk2
  · rw [h1 44 (by omega), h1 2 (by omega)]; exact hk3
  · unfold Lw; rw [h1 3 (by omega), h2 2 (by omega), h2 3 (by omega), h2 4 (by omega), h2 5 (by omega)]; exact hL
  · unfold Cn; rw [h1 0 (by omega), h2 6 (by omega), h2 25 (by omega), h2 27 (by omega), h2 28 (by omega)]; exact hC
  · unfold Im
    rw [h1 0 (by omega), h2 29 (by omega), h1 55 (by omega), h1 13 (by omega), h1 14 (by omega), h1 15 (by omega), h1 16 (by omega), h1 17 (by omega), h1 19 (by omega)]
    rcases hIm with q | ⟨q1, m, q2, q3⟩
    · exact Or.inl q
    · exact Or.inr ⟨q1, m, WS_congr (fun i a b => h1 i (by omega)) q2, q3⟩
theorem Rr_congr {c d : Nat → Int32} : ∀ i, (∀ j, j < i → c j = d j) → Rr c i = Rr d i ∧ Nf c i = Nf d i ∧ Tf c i = Tf d i ∧ Wf c i = Wf d i ∧ Mf c i = Mf d i
  | 0, _ => ⟨rfl, rfl, rfl, rfl, rfl⟩
  | i + 1, h => by
    obtain ⟨a1, a2, a3, a4, a5⟩ := Rr_congr i (fun j hj => h j (by omega))
    have e : Rr c (i + 1) = Rr d (i + 1) := by
      show rb (Rr c i) (c i) = rb (Rr d i) (d i)
      rw [a1, h i (by omega)]
    refine ⟨e, ?_, ?_, ?_, ?_⟩
    · show (if Rr c (i + 1) = 1 then 1 else Nf c i) = (if Rr d (i + 1) = 1 then 1 else Nf d i); rw [e, a2]
    · show (if Rr c (i + 1) = 2 then 1 else Tf c i) = (if Rr d (i + 1) = 2 then 1 else Tf d i); rw [e, a3]
    · show (if Rr c (i + 1) = 3 then 1 else Wf c i) = (if Rr d (i + 1) = 3 then 1 else Wf d i); rw [e, a4]
    · show (if Rr c (i + 1) = 5 then c i - 48 else Mf c i) = (if Rr d (i + 1) = 5 then d i - 48 else Mf d i); rw [e, a5, h i (by omega)]
theorem isFw_congr {c d : Nat → Int32} {k r : Nat} (h : ∀ j, j < k → c j = d j) (hf : isFw c k r) : isFw d k r := by
  obtain ⟨h1, h2, h3⟩ := hf
  refine ⟨h1, fun j hj => ?_, ?_⟩
  · rw [← (Rr_congr (c := c) (d := d) (j + 1) (fun i hi => h i (by omega))).1]; exact h2 j hj
  · rcases h3 with h3 | h3
    · exact Or.inl h3
    · by_cases q : r = k
      · exact Or.inl q
      · refine Or.inr ?_
        rw [← (Rr_congr (c := c) (d := d) (r + 1) (fun i hi => h i (by omega))).1]; exact h3
theorem sm_fault {fu : Nat} (hf : 100 ≤ fu) : Sm_fault fu Inv := by
  intro σ hI
  obtain ⟨hB, ⟨k, hk, hk1, hk2, hk3⟩, hL, hC, hIm⟩ := id hI
  obtain ⟨r, hr⟩ := fw_ex (σ.1 2) k
  obtain ⟨τ, t1, t2, t3⟩ := faultOf_eq hf hk hk2 (isFw_congr (fun j hj => (hk3 j hj).symm) hr)
  exact ⟨(nI r, σ), (nI r, τ), by simp [fX9_fault_0, fX9_fault, xv_0, xv_1, xv_3, xv_4, xv_12, xv_20, xv_22, xv_27, xv_29, xv_32, xv_34, xv_35, xv_43, rv_0_0, rv_0_1, rv_0_2, rv_0_3, rv_0_4, rv_0_5, rv_0_6, rv_0_7, rv_1_0, rv_4_0, rv_4_1, rv_4_2, rv_4_3, rv_4_4, rv_4_5, rv_4_6, rv_12_0, rv_12_1, rv_12_2, rv_12_3, rv_12_4, rv_12_5, rv_12_6, rv_35_0, rv_35_1, rv_35_2, rv_35_3, rv_35_4, rv_35_5, rv_35_6, rv_20_0, rv_27_0, rv_32_0, rv_22_0, rv_22_1, rv_22_2, rv_22_3, rv_22_4, rv_29_0, rv_29_1, rv_29_2, rv_34_0, rv_43_0, rv_43_13, rv_43_14, rv_43_15, rv_43_16, rv_43_17, rv_43_18, rv_43_19, rv_43_20, rv_43_21, rv_43_22, rv_43_30, if_true, Option.bind_some, nm, firstWrong_eq hf hk hk1 hr], by simp [fX10_fault_0, fX10_fault, xv_0, xv_1, xv_3, xv_4, xv_12, xv_20, xv_22, xv_27, xv_29, xv_32, xv_34, xv_35, xv_43, rv_0_0, rv_0_1, rv_0_2, rv_0_3, rv_0_4, rv_0_5, rv_0_6, rv_0_7, rv_1_0, rv_4_0, rv_4_1, rv_4_2, rv_4_3, rv_4_4, rv_4_5, rv_4_6, rv_12_0, rv_12_1, rv_12_2, rv_12_3, rv_12_4, rv_12_5, rv_12_6, rv_35_0, rv_35_1, rv_35_2, rv_35_3, rv_35_4, rv_35_5, rv_35_6, rv_20_0, rv_27_0, rv_32_0, rv_22_0, rv_22_1, rv_22_2, rv_22_3, rv_22_4, rv_29_0, rv_29_1, rv_29_2, rv_34_0, rv_43_0, rv_43_13, rv_43_14, rv_43_15, rv_43_16, rv_43_17, rv_43_18, rv_43_19, rv_43_20, rv_43_21, rv_43_22, rv_43_30, if_true, Option.bind_some, nm, t1], rfl, Inv_G0 t2 hI⟩
theorem isLaw_lp (fu : Nat) {k r : Nat} {σ : St} (hk : k ≤ 16) (hz : σ.1 1 1 = nI k) (h : isFw (σ.1 2) k r) : ∀ (m i : Nat), i ≤ r → k - i + 1 < m → fX7_isLaw_4 fu 1 m (Rr (σ.1 2) i) (nI i) σ = some (if r = k ∧ ¬ Rr (σ.1 2) k = 4 then 1 else 0, σ) := by
  intro m
  induction m with
  | zero => intro i h1 h2; omega
  | succ m ih =>
    intro i h1 h2
    show fX7_isLaw_4b fu (fX7_isLaw_4 fu 1 m) 1 (Rr (σ.1 2) i) (nI i) σ = _
    unfold fX7_isLaw_4b
    rw [hz]
    obtain ⟨g1, g2, g3⟩ := id h
    have hne : ¬ Rr (σ.1 2) i = -1 := by
      intro q
      rcases Rr_ok h i h1 with g | g | g | g | g | g <;> rw [g] at q <;> exact absurd q (by decide)
    by_cases c : i < k
    · rw [if_neg (nI_ge c (by omega)), if_neg hne, rv_1_0, ald_nI (by omega) (by omega)]
      simp only [Option.bind_some, reachedBy_eq, nm]
      rw [nI_1]
      by_cases d : i < r
      · exact ih (i + 1) (by omega) (by omega)
      · have : i = r := by omega
        subst this
        rcases g3 with g3 | g3
        · omega
        · rw [if_neg (by omega)]
          rw [show rb (Rr (σ.1 2) i) (σ.1 2 i) = -1 from g3]
          cases m with
          | zero => omega
          | succ m =>
            show fX7_isLaw_4b fu (fX7_isLaw_4 fu 1 m) 1 (-1) (nI (i + 1)) σ = _
            simp only [fX7_isLaw_49, fX7_isLaw_48, fX7_isLaw_34, fX7_isLaw_4b, fX7_isLaw_4, fX7_isLaw_0, fX7_isLaw]
            simp
    · have : i = k := by omega
      have : r = k := by omega
      subst this
      rw [if_pos (nI_le (by omega) (by omega))]
      have : i = r := by omega
      subst this
      simp only [fX7_isLaw_49, fX7_isLaw_48, fX7_isLaw_34, fX7_isLaw_4b, fX7_isLaw_4, fX7_isLaw_0, fX7_isLaw]
      by_cases q : Rr (σ.1 2) i = 4
      · simp [q]
      · simp [q, hne]
theorem take_eq (fu : Nat) (x l : Int32) (σ : St) : fX4_take fu 3 x l σ = some (if x = 1 then si σ 3 0 1 else if x = 2 then si σ 3 1 1 else if x = 3 then si σ 3 2 1 else if x = 5 then si σ 3 3 (l - 48) else σ) := by
  simp only [fX4_take_71, fX4_take_0, fX4_take, xv_0, xv_1, xv_3, xv_4, xv_12, xv_20, xv_22, xv_27, xv_29, xv_32, xv_34, xv_35, xv_43, rv_0_0, rv_0_1, rv_0_2, rv_0_3, rv_0_4, rv_0_5, rv_0_6, rv_0_7, rv_1_0, rv_4_0, rv_4_1, rv_4_2, rv_4_3, rv_4_4, rv_4_5, rv_4_6, rv_12_0, rv_12_1, rv_12_2, rv_12_3, rv_12_4, rv_12_5, rv_12_6, rv_35_0, rv_35_1, rv_35_2, rv_35_3, rv_35_4, rv_35_5, rv_35_6, rv_20_0, rv_27_0, rv_32_0, rv_22_0, rv_22_1, rv_22_2, rv_22_3, rv_22_4, rv_29_0, rv_29_1, rv_29_2, rv_34_0, rv_43_0, rv_43_13, rv_43_14, rv_43_15, rv_43_16, rv_43_17, rv_43_18, rv_43_19, rv_43_20, rv_43_21, rv_43_22, rv_43_30, if_true, Option.bind_some, nm]
  by_cases h1 : x = 1
  · simp [h1]
  by_cases h2 : x = 2
  · simp [h2]
  by_cases h3 : x = 3
  · simp [h3]
  by_cases h4 : x = 4
  · simp [h4]
  by_cases h5 : x = 5
  · simp [h5]
  · simp [h1, h2, h3, h4, h5]
/-- the class's law, read up to i -/
def Cs (σ : St) (i : Nat) (τ : St) : Prop := τ.2 = σ.2 ∧ (∀ r, r ≠ 3 → τ.1 r = σ.1 r) ∧ τ.1 3 0 = Nf (σ.1 2) i ∧ τ.1 3 1 = Tf (σ.1 2) i ∧ τ.1 3 2 = Wf (σ.1 2) i ∧ τ.1 3 3 = Mf (σ.1 2) i
theorem letterAt_eq (fu : Nat) {k i : Nat} {σ : St} (hk : k ≤ 16) (hz : σ.1 1 1 = nI k) (hi : i < k) : fX7_letterAt fu 1 (nI i) σ = some (σ.1 2 i, σ) := by
  simp only [fX7_letterAt_22, fX7_letterAt_21, fX7_letterAt_0, fX7_letterAt, xv_0, xv_1, xv_3, xv_4, xv_12, xv_20, xv_22, xv_27, xv_29, xv_32, xv_34, xv_35, xv_43, rv_0_0, rv_0_1, rv_0_2, rv_0_3, rv_0_4, rv_0_5, rv_0_6, rv_0_7, rv_1_0, rv_4_0, rv_4_1, rv_4_2, rv_4_3, rv_4_4, rv_4_5, rv_4_6, rv_12_0, rv_12_1, rv_12_2, rv_12_3, rv_12_4, rv_12_5, rv_12_6, rv_35_0, rv_35_1, rv_35_2, rv_35_3, rv_35_4, rv_35_5, rv_35_6, rv_20_0, rv_27_0, rv_32_0, rv_22_0, rv_22_1, rv_22_2, rv_22_3, rv_22_4, rv_29_0, rv_29_1, rv_29_2, rv_34_0, rv_43_0, rv_43_13, rv_43_14, rv_43_15, rv_43_16, rv_43_17, rv_43_18, rv_43_19, rv_43_20, rv_43_21, rv_43_22, rv_43_30, if_true, Option.bind_some, nm, hz]
  rw [if_neg (nI_pos (by omega)), if_neg (nI_ge hi (by omega)), ald_nI (by omega) (by omega)]
  rfl
theorem readFrom_lp (fu : Nat) {k : Nat} {σ : St} (hk : k ≤ 16) (hz : σ.1 1 1 = nI k) (h : isFw (σ.1 2) k k) : ∀ (m i : Nat) (τ : St), i ≤ k → k - i < m → Cs σ i τ → ∃ τ', fX4_readFrom_25 fu 3 1 m (Rr (σ.1 2) i) (nI i) τ = some τ' ∧ Cs σ k τ' := by
  intro m
  induction m with
  | zero => intro i τ h1 h2; omega
  | succ m ih =>
    intro i τ h1 h2 hg
    show ∃ τ', fX4_readFrom_25b fu (fX4_readFrom_25 fu 3 1 m) 3 1 (Rr (σ.1 2) i) (nI i) τ = _ ∧ _
    obtain ⟨g0, g1, g2, g3, g4, g5⟩ := hg
    have e1 : τ.1 1 1 = nI k := by rw [g1 1 (by omega)]; exact hz
    have e2 : τ.1 2 = σ.1 2 := g1 2 (by omega)
    unfold fX4_readFrom_25b
    simp only [fX7_length_0, fX7_length, xv_0, xv_1, xv_3, xv_4, xv_12, xv_20, xv_22, xv_27, xv_29, xv_32, xv_34, xv_35, xv_43, rv_0_0, rv_0_1, rv_0_2, rv_0_3, rv_0_4, rv_0_5, rv_0_6, rv_0_7, rv_1_0, rv_4_0, rv_4_1, rv_4_2, rv_4_3, rv_4_4, rv_4_5, rv_4_6, rv_12_0, rv_12_1, rv_12_2, rv_12_3, rv_12_4, rv_12_5, rv_12_6, rv_35_0, rv_35_1, rv_35_2, rv_35_3, rv_35_4, rv_35_5, rv_35_6, rv_20_0, rv_27_0, rv_32_0, rv_22_0, rv_22_1, rv_22_2, rv_22_3, rv_22_4, rv_29_0, rv_29_1, rv_29_2, rv_34_0, rv_43_0, rv_43_13, rv_43_14, rv_43_15, rv_43_16, rv_43_17, rv_43_18, rv_43_19, rv_43_20, rv_43_21, rv_43_22, rv_43_30, if_true, Option.bind_some, nm, e1]
    by_cases c : i < k
    · rw [if_neg (nI_ge c (by omega)), letterAt_eq fu hk e1 c]
      simp only [Option.bind_some, reachedBy_eq, take_eq, letterAt_eq fu hk e1 c]
      rw [e2, nI_1]
      refine ih (i + 1) _ (by omega) (by omega) ?_
      have hR : rb (Rr (σ.1 2) i) (σ.1 2 i) = Rr (σ.1 2) (i + 1) := rfl
      rw [hR]
      unfold Cs
      show _ ∧ _ ∧ _ = (if Rr (σ.1 2) (i + 1) = 1 then 1 else Nf (σ.1 2) i) ∧ _ = (if Rr (σ.1 2) (i + 1) = 2 then 1 else Tf (σ.1 2) i) ∧ _ = (if Rr (σ.1 2) (i + 1) = 3 then 1 else Wf (σ.1 2) i) ∧ _ = (if Rr (σ.1 2) (i + 1) = 5 then σ.1 2 i - 48 else Mf (σ.1 2) i)
      by_cases c1 : Rr (σ.1 2) (i + 1) = 1
      · rw [c1]
        refine ⟨g0, fun r hr => ?_, rfl, ?_, ?_, ?_⟩
        · show (si τ 3 0 1).1 r = _; rw [si_row, if_neg hr]; exact g1 r hr
        · exact g3
        · exact g4
        · exact g5
      by_cases c2 : Rr (σ.1 2) (i + 1) = 2
      · rw [c2]
        refine ⟨g0, fun r hr => ?_, ?_, rfl, ?_, ?_⟩
        · show (si τ 3 1 1).1 r = _; rw [si_row, if_neg hr]; exact g1 r hr
        · exact g2
        · exact g4
        · exact g5
      by_cases c3 : Rr (σ.1 2) (i + 1) = 3
      · rw [c3]
        refine ⟨g0, fun r hr => ?_, ?_, ?_, rfl, ?_⟩
        · show (si τ 3 2 1).1 r = _; rw [si_row, if_neg hr]; exact g1 r hr
        · exact g2
        · exact g3
        · exact g5
      by_cases c5 : Rr (σ.1 2) (i + 1) = 5
      · rw [c5]
        refine ⟨g0, fun r hr => ?_, ?_, ?_, ?_, rfl⟩
        · show (si τ 3 3 (σ.1 2 i - 48)).1 r = _; rw [si_row, if_neg hr]; exact g1 r hr
        · exact g2
        · exact g3
        · exact g4
      · simp only [c1, c2, c3, c5, if_false]
        exact ⟨g0, g1, g2, g3, g4, g5⟩
    · have : i = k := by omega
      subst this
      rw [if_pos (nI_le (by omega) (by omega))]
      exact ⟨τ, rfl, g0, g1, g2, g3, g4, g5⟩
theorem flag01 (c : Nat → Int32) : ∀ i, (Nf c i = 0 ∨ Nf c i = 1) ∧ (Tf c i = 0 ∨ Tf c i = 1) ∧ (Wf c i = 0 ∨ Wf c i = 1)
  | 0 => ⟨Or.inl rfl, Or.inl rfl, Or.inl rfl⟩
  | i + 1 => by
    obtain ⟨h1, h2, h3⟩ := flag01 c i
    refine ⟨?_, ?_, ?_⟩
    · show (if Rr c (i + 1) = 1 then 1 else Nf c i) = 0 ∨ (if Rr c (i + 1) = 1 then 1 else Nf c i) = 1
      split
      · exact Or.inr rfl
      · exact h1
    · show (if Rr c (i + 1) = 2 then 1 else Tf c i) = 0 ∨ (if Rr c (i + 1) = 2 then 1 else Tf c i) = 1
      split
      · exact Or.inr rfl
      · exact h2
    · show (if Rr c (i + 1) = 3 then 1 else Wf c i) = 0 ∨ (if Rr c (i + 1) = 3 then 1 else Wf c i) = 1
      split
      · exact Or.inr rfl
      · exact h3
theorem Mf_ok (c : Nat → Int32) : ∀ i, ∃ k, 1 ≤ k ∧ k ≤ 10 ∧ Mf c i = nI k
  | 0 => ⟨10, by omega, by omega, rfl⟩
  | i + 1 => by
    show ∃ k, 1 ≤ k ∧ k ≤ 10 ∧ (if Rr c (i + 1) = 5 then c i - 48 else Mf c i) = nI k
    split
    · next h =>
      have h2 : rb (Rr c i) (c i) = 5 := h
      unfold rb at h2
      by_cases h3 : Rr c i = 4
      · rw [if_pos h3] at h2
        by_cases h4 : c i < 49 ∨ 57 < c i
        · rw [if_pos h4] at h2; exact absurd h2 (by decide)
        · have z0 : ¬ (c i < 0 ∨ nI 57 < c i) := fun q => h4 (by
            rcases q with q | q
            · refine Or.inl ?_
              rw [i_lt] at q ⊢
              rw [l0] at q
              rw [show (49 : Int32).toInt = 49 from rfl]
              omega
            · exact Or.inr q)
          obtain ⟨x, x1, x2⟩ := isN_in 57 (by omega) z0
          have x3 : 49 ≤ x := by
            rcases Nat.lt_or_ge x 49 with q | q
            · exact absurd (Or.inl (by rw [x2]; exact nI_lt (b := 49) q (by omega))) h4
            · exact q
          refine ⟨x - 48, by omega, by omega, ?_⟩
          rw [x2, show (48 : Int32) = nI 48 from rfl, pk_sub (by omega)]
      · rw [if_neg h3] at h2
        by_cases h4 : prt (c i) ≤ Rr c i
        · rw [if_pos h4] at h2; exact absurd h2 (by decide)
        · rw [if_neg h4] at h2
          rcases prt_cases (c i) with g | g | g | g | g <;> rw [g] at h2 <;> exact absurd h2 (by decide)
    · exact Mf_ok c i
theorem sm_law {fu : Nat} (hf : 100 ≤ fu) : Sm_law fu Inv := by
  intro σ hI
  obtain ⟨⟨n, hW, hM⟩, ⟨k, hk, hk1, hk2, hk3⟩, hL, hC, hIm⟩ := id hI
  obtain ⟨r, hr⟩ := fw_ex (σ.1 2) k
  have l1 : fX7_isLaw fu 1 σ = some (if r = k ∧ ¬ Rr (σ.1 2) k = 4 then 1 else 0, σ) := by
    unfold fX7_isLaw fX7_isLaw_0
    rw [if_pos xv_1]
    exact isLaw_lp fu hk hk1 hr fu 0 (by omega) (by omega)
  by_cases c : r = k ∧ ¬ Rr (σ.1 2) k = 4
  · rw [if_pos c] at l1
    obtain ⟨rfl, c4⟩ := c
    obtain ⟨σ1, s1, s2⟩ : ∃ τ', fX4_readFrom fu 3 1 σ = some τ' ∧ Cs σ r τ' := by
      unfold fX4_readFrom fX4_readFrom_0
      rw [if_pos xv_3, if_pos xv_1]
      simp only [nm]
      refine readFrom_lp fu hk hk1 hr fu 0 _ (by omega) (by omega) ⟨rfl, fun r hr => ?_, rfl, rfl, rfl, rfl⟩
      simp only [si_row]; rw [if_neg hr, if_neg hr, if_neg hr, if_neg hr]
    obtain ⟨g0, g1, g2, g3, g4, g5⟩ := s2
    have u1 : fX9_law fu 0 σ = some (σ.1 0 9 + 1, si (si σ1 1 1 0) 0 9 (σ.1 0 9 + 1)) := by
      simp only [fX9_law_0, fX9_law, fX7_clear_0, fX7_clear, xv_0, xv_1, xv_3, xv_4, xv_12, xv_20, xv_22, xv_27, xv_29, xv_32, xv_34, xv_35, xv_43, rv_0_0, rv_0_1, rv_0_2, rv_0_3, rv_0_4, rv_0_5, rv_0_6, rv_0_7, rv_1_0, rv_4_0, rv_4_1, rv_4_2, rv_4_3, rv_4_4, rv_4_5, rv_4_6, rv_12_0, rv_12_1, rv_12_2, rv_12_3, rv_12_4, rv_12_5, rv_12_6, rv_35_0, rv_35_1, rv_35_2, rv_35_3, rv_35_4, rv_35_5, rv_35_6, rv_20_0, rv_27_0, rv_32_0, rv_22_0, rv_22_1, rv_22_2, rv_22_3, rv_22_4, rv_29_0, rv_29_1, rv_29_2, rv_34_0, rv_43_0, rv_43_13, rv_43_14, rv_43_15, rv_43_16, rv_43_17, rv_43_18, rv_43_19, rv_43_20, rv_43_21, rv_43_22, rv_43_30, if_true, Option.bind_some, nm, l1, s1]
      rw [if_neg (by decide), show (si σ1 1 1 0).1 0 9 = σ.1 0 9 from congrFun (g1 0 (by omega)) 9]
      rfl
    generalize hq : si (si σ1 1 1 0) 0 9 (σ.1 0 9 + 1) = σ2 at u1
    have f : ∀ i, i ≠ 0 → i ≠ 1 → i ≠ 3 → σ2.1 i = σ.1 i := by
      intro i a b d
      rw [← hq, si_row, if_neg a, si_row, if_neg b]
      exact g1 i d
    have f43 := f 43 (by omega) (by omega) (by omega)
    have f44 := f 44 (by omega) (by omega) (by omega)
    have hr2 : isFw (σ2.1 44) r r := by rw [f44]; exact isFw_congr (fun j hj => (hk3 j hj).symm) hr
    obtain ⟨τ, t1, ⟨y0, y1, y2⟩, t3⟩ := faultOf_eq hf hk (by rw [f43]; exact hk2) hr2
    obtain ⟨z0, z1, z2, z3, z4, z5, z6, z7⟩ := t3 rfl
    obtain ⟨a1, a2, a3, a4, a5⟩ := Rr_congr (c := σ2.1 44) (d := σ.1 2) r (fun j hj => by rw [f44]; exact hk3 j hj)
    rw [a1] at z3
    rw [a2] at z4
    rw [a3] at z5
    rw [a4] at z6
    rw [a5] at z7
    have e6 : τ.1 43 6 = σ.1 0 9 := by rw [y2 6 (by omega), f43]; exact hC.1
    have e1 : τ.1 43 1 = nI r := by rw [y2 1 (by omega), f43]; exact hk2
    have u2 : fX10_law fu 43 σ2 = some (σ.1 0 9 + 1, si (si (si (si (si (si τ 43 2 (Nf (σ.1 2) r)) 43 3 (Tf (σ.1 2) r)) 43 4 (Wf (σ.1 2) r)) 43 5 (Mf (σ.1 2) r)) 43 6 (σ.1 0 9 + 1)) 43 1 0) := by
      simp only [fX10_law, fX10_law_0, xv_0, xv_1, xv_3, xv_4, xv_12, xv_20, xv_22, xv_27, xv_29, xv_32, xv_34, xv_35, xv_43, rv_0_0, rv_0_1, rv_0_2, rv_0_3, rv_0_4, rv_0_5, rv_0_6, rv_0_7, rv_1_0, rv_4_0, rv_4_1, rv_4_2, rv_4_3, rv_4_4, rv_4_5, rv_4_6, rv_12_0, rv_12_1, rv_12_2, rv_12_3, rv_12_4, rv_12_5, rv_12_6, rv_35_0, rv_35_1, rv_35_2, rv_35_3, rv_35_4, rv_35_5, rv_35_6, rv_20_0, rv_27_0, rv_32_0, rv_22_0, rv_22_1, rv_22_2, rv_22_3, rv_22_4, rv_29_0, rv_29_1, rv_29_2, rv_34_0, rv_43_0, rv_43_13, rv_43_14, rv_43_15, rv_43_16, rv_43_17, rv_43_18, rv_43_19, rv_43_20, rv_43_21, rv_43_22, rv_43_30, if_true, Option.bind_some, nm, t1, e1, z3]
      rw [if_neg (nI_nlt (Nat.le_refl _) (by omega)), if_neg c4]
      simp only [si_row, upd_app, if_true, z4, z5, z6, z7, e6]
      simp
    refine ⟨_, _, u1, u2, rfl, ?_⟩
    have k : ∀ i, i ≠ 43 → i ≠ 0 → i ≠ 1 → i ≠ 3 → (si (si (si (si (si (si τ 43 2 (Nf (σ.1 2) r)) 43 3 (Tf (σ.1 2) r)) 43 4 (Wf (σ.1 2) r)) 43 5 (Mf (σ.1 2) r)) 43 6 (σ.1 0 9 + 1)) 43 1 0).1 i = σ.1 i := by
      intro i h1 h2 h3 h4
      simp only [si_row]
      rw [if_neg h1, if_neg h1, if_neg h1, if_neg h1, if_neg h1, if_neg h1, y1 i h1]
      exact f i h2 h3 h4
    have k43 : ∀ j, (j < 1 ∨ 6 < j) → (j < 7 ∨ 11 < j) → (si (si (si (si (si (si τ 43 2 (Nf (σ.1 2) r)) 43 3 (Tf (σ.1 2) r)) 43 4 (Wf (σ.1 2) r)) 43 5 (Mf (σ.1 2) r)) 43 6 (σ.1 0 9 + 1)) 43 1 0).1 43 j = σ.1 43 j := by
      intro j h1 h2
      show upd (upd (upd (upd (upd (upd (τ.1 43) 2 _) 3 _) 4 _) 5 _) 6 _) 1 0 j = _
      rw [upd_ne _ _ (by omega), upd_ne _ _ (by omega), upd_ne _ _ (by omega), upd_ne _ _ (by omega), upd_ne _ _ (by omega), upd_ne _ _ (by omega), y2 j h2, f43]
    have r0 : ∀ j, j ≠ 9 → (si (si (si (si (si (si τ 43 2 (Nf (σ.1 2) r)) 43 3 (Tf (σ.1 2) r)) 43 4 (Wf (σ.1 2) r)) 43 5 (Mf (σ.1 2) r)) 43 6 (σ.1 0 9 + 1)) 43 1 0).1 0 j = σ.1 0 j := by
      intro j hj
      show τ.1 0 j = _
      rw [y1 0 (by omega), ← hq]
      show upd (σ1.1 0) 9 _ j = _
      rw [upd_ne _ _ hj, g1 0 (by omega)]
    have r3 : (si (si (si (si (si (si τ 43 2 (Nf (σ.1 2) r)) 43 3 (Tf (σ.1 2) r)) 43 4 (Wf (σ.1 2) r)) 43 5 (Mf (σ.1 2) r)) 43 6 (σ.1 0 9 + 1)) 43 1 0).1 3 = σ1.1 3 := by
      show τ.1 3 = _
      rw [y1 3 (by omega), ← hq]; rfl
    have r1 : (si (si (si (si (si (si τ 43 2 (Nf (σ.1 2) r)) 43 3 (Tf (σ.1 2) r)) 43 4 (Wf (σ.1 2) r)) 43 5 (Mf (σ.1 2) r)) 43 6 (σ.1 0 9 + 1)) 43 1 0).1 1 1 = nI 0 := by
      show τ.1 1 1 = _
      rw [y1 1 (by omega), ← hq]; rfl
    have r09 : (si (si (si (si (si (si τ 43 2 (Nf (σ.1 2) r)) 43 3 (Tf (σ.1 2) r)) 43 4 (Wf (σ.1 2) r)) 43 5 (Mf (σ.1 2) r)) 43 6 (σ.1 0 9 + 1)) 43 1 0).1 0 9 = σ.1 0 9 + 1 := by
      show τ.1 0 9 = _
      rw [y1 0 (by omega), ← hq]; rfl
    obtain ⟨fl1, fl2, fl3⟩ := flag01 (σ.1 2) r
    refine ⟨⟨n, WS_congr (fun i a b => k i (by omega) (by omega) (by omega) (by omega)) hW, ?_, ?_, ?_⟩, ⟨0, by omega, r1, rfl, fun j hj => by omega⟩, ?_, ?_, ?_⟩
    · rw [k43 12 (by omega) (by omega)]; exact hM.1
    · rw [k 45 (by omega) (by omega) (by omega) (by omega), k 5 (by omega) (by omega) (by omega) (by omega), k 46 (by omega) (by omega) (by omega) (by omega), k 6 (by omega) (by omega) (by omega) (by omega), k 47 (by omega) (by omega) (by omega) (by omega), k 7 (by omega) (by omega) (by omega) (by omega), k 48 (by omega) (by omega) (by omega) (by omega), k 9 (by omega) (by omega) (by omega) (by omega), k 49 (by omega) (by omega) (by omega) (by omega), k 8 (by omega) (by omega) (by omega) (by omega)]; exact hM.2.1
    · rw [k 50 (by omega) (by omega) (by omega) (by omega), k 11 (by omega) (by omega) (by omega) (by omega)]; exact hM.2.2
    · unfold Lw
      rw [r3, g2, g3, g4, g5]
      exact ⟨fl1, fl2, fl3, Mf_ok _ _, rfl, rfl, rfl, rfl⟩
    · unfold Cn
      rw [r09, r0 10 (by omega), r0 11 (by omega), r0 12 (by omega), k43 25 (by omega) (by omega), k43 27 (by omega) (by omega), k43 28 (by omega) (by omega)]
      exact ⟨rfl, hC.2⟩
    · unfold Im
      rw [r0 8 (by omega), k43 29 (by omega) (by omega), k 55 (by omega) (by omega) (by omega) (by omega), k 13 (by omega) (by omega) (by omega) (by omega), k 14 (by omega) (by omega) (by omega) (by omega), k 15 (by omega) (by omega) (by omega) (by omega), k 16 (by omega) (by omega) (by omega) (by omega), k 17 (by omega) (by omega) (by omega) (by omega), k 19 (by omega) (by omega) (by omega) (by omega)]
      rcases hIm with q | ⟨q1, m, q2, q3⟩
      · exact Or.inl q
      · exact Or.inr ⟨q1, m, WS_congr (fun i a b => k i (by omega) (by omega) (by omega) (by omega)) q2, q3⟩
  · rw [if_neg c] at l1
    obtain ⟨τ, t1, t2, t3⟩ := faultOf_eq hf hk hk2 (isFw_congr (fun j hj => (hk3 j hj).symm) hr)
    refine ⟨(-103, σ), (-103, τ), by simp [fX9_law_0, fX9_law, xv_0, xv_1, xv_3, xv_4, xv_12, xv_20, xv_22, xv_27, xv_29, xv_32, xv_34, xv_35, xv_43, rv_0_0, rv_0_1, rv_0_2, rv_0_3, rv_0_4, rv_0_5, rv_0_6, rv_0_7, rv_1_0, rv_4_0, rv_4_1, rv_4_2, rv_4_3, rv_4_4, rv_4_5, rv_4_6, rv_12_0, rv_12_1, rv_12_2, rv_12_3, rv_12_4, rv_12_5, rv_12_6, rv_35_0, rv_35_1, rv_35_2, rv_35_3, rv_35_4, rv_35_5, rv_35_6, rv_20_0, rv_27_0, rv_32_0, rv_22_0, rv_22_1, rv_22_2, rv_22_3, rv_22_4, rv_29_0, rv_29_1, rv_29_2, rv_34_0, rv_43_0, rv_43_13, rv_43_14, rv_43_15, rv_43_16, rv_43_17, rv_43_18, rv_43_19, rv_43_20, rv_43_21, rv_43_22, rv_43_30, if_true, Option.bind_some, nm, l1], ?_, rfl, Inv_G0 t2 hI⟩
    simp only [fX10_law, fX10_law_0, fX10_law_19, xv_0, xv_1, xv_3, xv_4, xv_12, xv_20, xv_22, xv_27, xv_29, xv_32, xv_34, xv_35, xv_43, rv_0_0, rv_0_1, rv_0_2, rv_0_3, rv_0_4, rv_0_5, rv_0_6, rv_0_7, rv_1_0, rv_4_0, rv_4_1, rv_4_2, rv_4_3, rv_4_4, rv_4_5, rv_4_6, rv_12_0, rv_12_1, rv_12_2, rv_12_3, rv_12_4, rv_12_5, rv_12_6, rv_35_0, rv_35_1, rv_35_2, rv_35_3, rv_35_4, rv_35_5, rv_35_6, rv_20_0, rv_27_0, rv_32_0, rv_22_0, rv_22_1, rv_22_2, rv_22_3, rv_22_4, rv_29_0, rv_29_1, rv_29_2, rv_34_0, rv_43_0, rv_43_13, rv_43_14, rv_43_15, rv_43_16, rv_43_17, rv_43_18, rv_43_19, rv_43_20, rv_43_21, rv_43_22, rv_43_30, if_true, Option.bind_some, nm, t1]
    rw [show τ.1 43 1 = nI k from (t2.2.2 1 (by omega)).trans hk2]
    by_cases d : r < k
    · rw [if_pos (nI_lt d (by omega))]
    · have e : r = k := by have := hr.1; omega
      subst e
      obtain ⟨z0, z1, z2, z3, z4⟩ := t3 rfl
      rw [if_neg (nI_nlt (Nat.le_refl _) (by omega)), z3, (Rr_congr (c := σ.1 44) (d := σ.1 2) r (fun j hj => hk3 j hj)).1, if_pos]
      by_cases g : Rr (σ.1 2) r = 4
      · exact g
      · exact absurd ⟨rfl, g⟩ c
