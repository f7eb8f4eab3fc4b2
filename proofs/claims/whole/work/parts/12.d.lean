theorem mletters_lp {fu : Nat} (hf : 100 ≤ fu) {N l : Nat} (hN : N < 2 ^ 64) {σ : St} (hl : l ≤ 16) (hz : σ.1 43 1 = nI l) : ∀ (m i : Nat) (g : Int32), i ≤ 8 → 8 - i < m → ((g = 1 ∧ ∀ j, j < i → ¬ badB N j) ∨ (g = 0 ∧ ∃ j, j < i ∧ badB N j)) → ((∀ j, j < 8 → ¬ badB N j) → fX10_letters_11 fu 43 (lN N) m (nI (cntB N i)) g (lN (N / 2 ^ (8 * i))) (nI i) σ = if l + cntB N 8 ≤ 16 then some (nI (l + cntB N 8), apS σ 44 43 1 N l (cntB N 8)) else some (-104, σ)) ∧ ((∃ j, j < 8 ∧ badB N j) → fX10_letters_11 fu 43 (lN N) m (nI (cntB N i)) g (lN (N / 2 ^ (8 * i))) (nI i) σ = some (-102, σ)) := by
  intro m
  induction m with
  | zero => intro i g h1 h2; omega
  | succ m ih =>
    intro i g h1 h2 hg
    show (_ → fX10_letters_11b fu (fX10_letters_11 fu 43 (lN N) m) 43 (lN N) _ _ _ (nI i) σ = _) ∧ (_ → fX10_letters_11b fu (fX10_letters_11 fu 43 (lN N) m) 43 (lN N) _ _ _ (nI i) σ = _)
    by_cases c : i < 8
    · have hb := bts_lt N i
      have hc := cntB_le N i
      have hNi : N / 2 ^ (8 * i) < 2 ^ 64 := Nat.lt_of_le_of_lt (Nat.div_le_self _ _) hN
      have y1 : ((lN (N / 2 ^ (8 * i))) &&& (255 : Int64)).toInt32 = nI (bts N i) := by
        rw [show (255 : Int64) = lN (2 ^ 8 - 1) from rfl, wb_mask hNi (by omega), lN_i]; rfl
      have y2 : ((lN (N / 2 ^ (8 * i))).toUInt64 >>> ((8 : Int32).toInt64.toUInt64 &&& Int64.toUInt64 63)).toInt64 = lN (N / 2 ^ (8 * (i + 1))) := by
        rw [show (8 : Int32) = nI 8 from rfl, wb_shr hNi (by omega), Nat.div_div_eq_div_mul, ← Nat.pow_add]
        rfl
      have e0 : nI (bts N i) ≤ 0 ↔ bts N i = 0 := by
        rw [show (0 : Int32) = nI 0 from rfl, nI_leI (by omega) (by omega)]; omega
      have ez : nI (bts N i) = 0 ↔ bts N i = 0 := by rw [show (0 : Int32) = nI 0 from rfl, nI_eq (by omega) (by omega)]
      have e1 : (126 : Int32) < nI (bts N i) ↔ 126 < bts N i := nI_ltI (a := 126) (by omega) (by omega)
      have e2 : nI (cntB N i) = nI i ↔ cntB N i = i := nI_eq (by omega) (by omega)
      have e3 : nI (cntB N i) + (if bts N i = 0 then (0 : Int32) else 1) = nI (cntB N (i + 1)) := by
        show _ = nI (cntB N i + if bts N i = 0 then 0 else 1)
        split
        · rw [Nat.add_zero, show (0 : Int32) = nI 0 from rfl, nI_add, Nat.add_zero]
        · rw [nI_1]
      have step : ∀ g' : Int32, ((g' = 1 ∧ ∀ j, j < i + 1 → ¬ badB N j) ∨ (g' = 0 ∧ ∃ j, j < i + 1 ∧ badB N j)) → ((∀ j, j < 8 → ¬ badB N j) → fX10_letters_62 fu (fX10_letters_11 fu 43 (lN N) m) 43 (lN N) (nI (cntB N i)) (lN (N / 2 ^ (8 * (i + 1)))) (nI i) (nI (bts N i)) g' σ = if l + cntB N 8 ≤ 16 then some (nI (l + cntB N 8), apS σ 44 43 1 N l (cntB N 8)) else some (-104, σ)) ∧ ((∃ j, j < 8 ∧ badB N j) → fX10_letters_62 fu (fX10_letters_11 fu 43 (lN N) m) 43 (lN N) (nI (cntB N i)) (lN (N / 2 ^ (8 * (i + 1)))) (nI i) (nI (bts N i)) g' σ = some (-102, σ)) := by
        intro g' hg'
        have := ih (i + 1) g' (by omega) (by omega) hg'
        rw [← e3] at this
        unfold fX10_letters_62 fX10_letters_75
        simp only [e0, nm, nI_1]
        by_cases q : bts N i = 0
        · rw [if_pos q] at this
          simp only [q, if_true]
          exact this
        · rw [if_neg q, nI_1] at this
          simp only [q, if_false]
          exact this
      unfold fX10_letters_11b fX10_letters_57 fX10_letters_61
      rw [if_neg (show ¬ (8 : Int32) ≤ nI i from nI_ge (b := 8) c (by omega))]
      simp only [nm, y1, y2, ez, e1, e2]
      rcases hg with ⟨rfl, hg⟩ | ⟨rfl, j, hj1, hj2⟩
      · rw [if_neg (by decide)]
        by_cases d : 126 < bts N i
        · rw [if_pos d]
          exact step 0 (Or.inr ⟨rfl, i, by omega, Or.inl d⟩)
        rw [if_neg d]
        have good : ¬ badB N i → ∀ j, j < i + 1 → ¬ badB N j := by
          intro hb j hj
          rcases Nat.lt_or_ge j i with q | q
          · exact hg j q
          · have : j = i := by omega
            subst this; exact hb
        by_cases q0 : bts N i = 0
        · rw [if_pos q0]
          exact step 1 (Or.inl ⟨rfl, good (fun q => by rcases q with q | q; exact d q; exact q.2 q0)⟩)
        rw [if_neg q0]
        by_cases q1 : cntB N i = i
        · rw [if_pos q1]
          exact step 1 (Or.inl ⟨rfl, good (fun q => by rcases q with q | q; exact d q; exact q.1 q1)⟩)
        · rw [if_neg q1]
          exact step 0 (Or.inr ⟨rfl, i, by omega, Or.inr ⟨q1, q0⟩⟩)
      · rw [if_pos rfl]
        exact step 0 (Or.inr ⟨rfl, j, by omega, hj2⟩)
    · have : i = 8 := by omega
      subst this
      unfold fX10_letters_11b
      rw [if_pos (show (8 : Int32) ≤ nI 8 from nI_le (Nat.le_refl _) (by omega))]
      rcases hg with ⟨rfl, hg⟩ | ⟨rfl, j, hj1, hj2⟩
      · rw [if_neg (by decide), hz, nI_add]
        refine ⟨fun _ => ?_, fun ⟨j, q1, q2⟩ => absurd q2 (hg j q1)⟩
        have hc := cntB_le N 8
        by_cases q : l + cntB N 8 ≤ 16
        · rw [if_pos (show nI (l + cntB N 8) ≤ (16 : Int32) from nI_le (b := 16) q (by omega)), if_pos q]
          have := mappend_lp fu hN hc q σ fu 0 (by omega) (by omega)
          rw [apS_0 hz] at this
          exact this
        · rw [if_neg (show ¬ nI (l + cntB N 8) ≤ (16 : Int32) from nI_ge (a := 16) (by omega) (by omega)), if_neg q]
      · rw [if_pos rfl]
        exact ⟨fun q => absurd hj2 (q j hj1), fun _ => rfl⟩
theorem sm_letters {fu : Nat} (hf : 100 ≤ fu) : Sm_letters fu Inv := by
  intro σ w hI
  obtain ⟨⟨n, hW, hM⟩, ⟨l, hl, hl1, hl2, hl3⟩, hL, hC, hIm⟩ := id hI
  obtain ⟨N, hN, rfl⟩ := wb_of w
  obtain ⟨a1, a2⟩ := lettersIn_eq hf hN σ
  have hc := cntB_le N 8
  have hm : ∀ τ : St, τ.1 43 1 = nI l → _ := fun τ h => mletters_lp hf hN hl h fu 0 1 (by omega) (by omega) (Or.inl ⟨rfl, fun j hj => by omega⟩)
  have e0 : ∀ τ, fX10_letters fu 43 (lN N) τ = fX10_letters_11 fu 43 (lN N) fu (nI (cntB N 0)) 1 (lN (N / 2 ^ (8 * 0))) (nI 0) τ := by
    intro τ
    unfold fX10_letters fX10_letters_0
    rw [if_pos xv_43, Nat.mul_zero, Nat.pow_zero, Nat.div_one]
    rfl
  by_cases g : ∀ j, j < 8 → ¬ badB N j
  · have b1 := a1 g
    have n1 : ¬ nI (cntB N 8) = -1 := nI_ne_m1 (by omega)
    by_cases q : l + cntB N 8 ≤ 16
    · have u1 : fX9_letters fu 0 (lN N) σ = some (nI (l + cntB N 8), apS σ 2 1 1 N l (cntB N 8)) := by
        simp only [fX9_letters_0, fX9_letters, fX7_length_0, fX7_length, xv_0, xv_1, xv_3, xv_4, xv_12, xv_20, xv_22, xv_27, xv_29, xv_32, xv_34, xv_35, xv_43, rv_0_0, rv_0_1, rv_0_2, rv_0_3, rv_0_4, rv_0_5, rv_0_6, rv_0_7, rv_1_0, rv_4_0, rv_4_1, rv_4_2, rv_4_3, rv_4_4, rv_4_5, rv_4_6, rv_12_0, rv_12_1, rv_12_2, rv_12_3, rv_12_4, rv_12_5, rv_12_6, rv_35_0, rv_35_1, rv_35_2, rv_35_3, rv_35_4, rv_35_5, rv_35_6, rv_20_0, rv_27_0, rv_32_0, rv_22_0, rv_22_1, rv_22_2, rv_22_3, rv_22_4, rv_29_0, rv_29_1, rv_29_2, rv_34_0, rv_43_0, rv_43_13, rv_43_14, rv_43_15, rv_43_16, rv_43_17, rv_43_18, rv_43_19, rv_43_20, rv_43_21, rv_43_22, rv_43_30, if_true, Option.bind_some, nm, b1, hl1]
        rw [if_neg n1, nI_add, if_pos (show nI (l + cntB N 8) ≤ (16 : Int32) from nI_le (b := 16) q (by omega))]
        have := append_lp fu hN hc q σ fu 0 (by omega) (by omega)
        rw [apS_0 hl1] at this
        unfold fX7_append fX7_append_0
        rw [if_pos xv_1, show (0 : Int32) = nI 0 from rfl, this]
        rfl
      have u2 := (hm (apS σ 2 1 1 N l (cntB N 8)) hl2).1 g
      rw [if_pos q] at u2
      refine ⟨_, _, u1, (e0 _).trans u2, rfl, ⟨⟨n, hW, hM⟩, ⟨l + cntB N 8, q, rfl, rfl, fun j hj => ?_⟩, hL, hC, hIm⟩⟩
      show apF (σ.1 44) N l (cntB N 8) j = apF (σ.1 2) N l (cntB N 8) j
      unfold apF
      by_cases z : l ≤ j ∧ j < l + cntB N 8
      · rw [if_pos z, if_pos z]
      · rw [if_neg z, if_neg z]
        exact hl3 j (by omega)
    · have u2 := (hm σ hl2).1 g
      rw [if_neg q] at u2
      refine ⟨(-104, σ), _, ?_, (e0 _).trans u2, rfl, hI⟩
      simp only [fX9_letters_0, fX9_letters, fX7_length_0, fX7_length, xv_0, xv_1, xv_3, xv_4, xv_12, xv_20, xv_22, xv_27, xv_29, xv_32, xv_34, xv_35, xv_43, rv_0_0, rv_0_1, rv_0_2, rv_0_3, rv_0_4, rv_0_5, rv_0_6, rv_0_7, rv_1_0, rv_4_0, rv_4_1, rv_4_2, rv_4_3, rv_4_4, rv_4_5, rv_4_6, rv_12_0, rv_12_1, rv_12_2, rv_12_3, rv_12_4, rv_12_5, rv_12_6, rv_35_0, rv_35_1, rv_35_2, rv_35_3, rv_35_4, rv_35_5, rv_35_6, rv_20_0, rv_27_0, rv_32_0, rv_22_0, rv_22_1, rv_22_2, rv_22_3, rv_22_4, rv_29_0, rv_29_1, rv_29_2, rv_34_0, rv_43_0, rv_43_13, rv_43_14, rv_43_15, rv_43_16, rv_43_17, rv_43_18, rv_43_19, rv_43_20, rv_43_21, rv_43_22, rv_43_30, if_true, Option.bind_some, nm, b1, hl1]
      rw [if_neg n1, nI_add, if_neg (show ¬ nI (l + cntB N 8) ≤ (16 : Int32) from nI_ge (a := 16) (by omega) (by omega))]
  · have g' : ∃ j, j < 8 ∧ badB N j := by
      apply Classical.byContradiction
      intro h
      exact g (fun j hj hb => h ⟨j, hj, hb⟩)
    have b1 := a2 g'
    refine ⟨(-102, σ), _, by simp [fX9_letters_0, fX9_letters, xv_0, xv_1, xv_3, xv_4, xv_12, xv_20, xv_22, xv_27, xv_29, xv_32, xv_34, xv_35, xv_43, rv_0_0, rv_0_1, rv_0_2, rv_0_3, rv_0_4, rv_0_5, rv_0_6, rv_0_7, rv_1_0, rv_4_0, rv_4_1, rv_4_2, rv_4_3, rv_4_4, rv_4_5, rv_4_6, rv_12_0, rv_12_1, rv_12_2, rv_12_3, rv_12_4, rv_12_5, rv_12_6, rv_35_0, rv_35_1, rv_35_2, rv_35_3, rv_35_4, rv_35_5, rv_35_6, rv_20_0, rv_27_0, rv_32_0, rv_22_0, rv_22_1, rv_22_2, rv_22_3, rv_22_4, rv_29_0, rv_29_1, rv_29_2, rv_34_0, rv_43_0, rv_43_13, rv_43_14, rv_43_15, rv_43_16, rv_43_17, rv_43_18, rv_43_19, rv_43_20, rv_43_21, rv_43_22, rv_43_30, if_true, Option.bind_some, nm, b1], (e0 _).trans ((hm σ hl2).2 g'), rfl, hI⟩
