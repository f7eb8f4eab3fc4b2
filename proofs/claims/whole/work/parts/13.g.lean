/-! looks -/
def bcI (x0 : Int32) : Int32 := (fun y1 : Int32 => (fun y2 : Int32 => (fun y3 : Int32 => (fun y4 : Int32 => (fun y5 : Int32 => y5 &&& 63) (y4 + ((y4.toUInt32 >>> ((16 : Int32).toUInt32 &&& Int32.toUInt32 31)).toInt32))) (y3 + ((y3.toUInt32 >>> ((8 : Int32).toUInt32 &&& Int32.toUInt32 31)).toInt32))) ((y2 + ((y2.toUInt32 >>> ((4 : Int32).toUInt32 &&& Int32.toUInt32 31)).toInt32)) &&& 252645135)) ((y1 &&& 858993459) + (((y1.toUInt32 >>> ((2 : Int32).toUInt32 &&& Int32.toUInt32 31)).toInt32) &&& 858993459))) (x0 - (((x0.toUInt32 >>> ((1 : Int32).toUInt32 &&& Int32.toUInt32 31)).toInt32) &&& 1431655765))
theorem bcI_ok : ∀ M, M < 256 → bcI (nI M) = nI (cS M 8) := by decide +kernel
theorem bitCount_128 (fu : Nat) (σ : St) : ∀ M, M < 256 → fJ6_bitCount_0f7a4 fu (nI M) σ = some (nI (cS M 8), σ) := by
  intro M hM
  rw [← bcI_ok M hM]
  unfold fJ6_bitCount_0f7a4 fJ6_bitCount_0f7a4_0 bcI
  simp only [nm]
def kM (K : Nat → Nat) : Nat → Nat
  | 0 => 0
  | i + 1 => kM K i ||| 2 ^ K i
def kC (K : Nat → Nat) (k : Nat) : Nat → Nat
  | 0 => 0
  | i + 1 => kC K k i + if K i = k then 1 else 0
theorem kM_lt {K : Nat → Nat} : ∀ i, (∀ j, j < i → K j ≤ 4) → kM K i < 32
  | 0, _ => Nat.zero_lt_succ 31
  | i + 1, h => Nat.or_lt_two_pow (n := 5) (kM_lt i (fun j hj => h j (by omega))) (Nat.pow_lt_pow_right (by decide) (by have := h i (by omega); omega))
theorem kM_tb {K : Nat → Nat} {k : Nat} : ∀ i, ((kM K i).testBit k = true ↔ 0 < kC K k i)
  | 0 => by
    show (0 : Nat).testBit k = true ↔ 0 < 0
    rw [Nat.zero_testBit]
    exact Iff.intro (fun h => Bool.noConfusion h) (fun h => by omega)
  | i + 1 => by
    show (kM K i ||| 2 ^ K i).testBit k = true ↔ 0 < kC K k i + if K i = k then 1 else 0
    rw [tb_or, Bool.or_eq_true, kM_tb i, decide_eq_true_eq]
    by_cases c : K i = k
    · rw [if_pos c]; exact ⟨fun _ => by omega, fun _ => Or.inr c⟩
    · rw [if_neg c]
      exact ⟨fun h => h.elim (fun q => by omega) (fun q => absurd q c), fun h => Or.inl (by omega)⟩
theorem cS8 {M : Nat} (h : M < 32) : cS M 8 = cS M 5 := by
  have hb : ∀ k, 5 ≤ k → M.testBit k = false := fun k hk => Nat.testBit_lt_two_pow (Nat.lt_of_lt_of_le h (Nat.pow_le_pow_right (by decide) hk : 2 ^ 5 ≤ 2 ^ k))
  show cS M 5 + (if M.testBit 5 = true then 1 else 0) + (if M.testBit 6 = true then 1 else 0) + (if M.testBit 7 = true then 1 else 0) = cS M 5
  rw [hb 5 (by omega), hb 6 (by omega), hb 7 (by omega)]
  rfl
def lk (K : Nat → Nat) (i : Nat) : Nat := (kC K 0 i - 1) + (kC K 1 i - 1) + (kC K 2 i - 1) + (kC K 3 i - 1) + (kC K 4 i - 1)
theorem lk_eq {K : Nat → Nat} : ∀ i, (∀ j, j < i → K j ≤ 4) → lk K i + cS (kM K i) 5 = i
  | 0, _ => by
    show 0 - 1 + (0 - 1) + (0 - 1) + (0 - 1) + (0 - 1) + cS 0 5 = 0
    decide
  | i + 1, h => by
    have ih := lk_eq i (fun j hj => h j (by omega))
    have hk := h i (by omega)
    show lk K (i + 1) + cS (kM K i ||| 2 ^ K i) 5 = i + 1
    rw [cS_or]
    have ht := kM_tb (K := K) (k := K i) i
    have hk5 : K i < 5 := by omega
    have e : (K i < 5 ∧ (kM K i).testBit (K i) = false) ↔ kC K (K i) i = 0 := by
      constructor
      · intro q
        have : ¬ 0 < kC K (K i) i := fun z => by rw [ht.mpr z] at q; exact absurd q.2 (by decide)
        omega
      · intro q
        refine ⟨hk5, ?_⟩
        cases e : (kM K i).testBit (K i)
        · rfl
        · have := ht.mp e; omega
    unfold lk at ih ⊢
    simp only [e]
    have s : ∀ k, kC K k (i + 1) = kC K k i + if K i = k then 1 else 0 := fun k => rfl
    simp only [s]
    have : K i = 0 ∨ K i = 1 ∨ K i = 2 ∨ K i = 3 ∨ K i = 4 := by omega
    rcases this with q | q | q | q | q <;> simp only [q] <;> simp <;> split <;> omega
theorem looksNeeded_lp (fu : Nat) {o n : Nat} (ho : xk o = 6) {K : Nat → Nat} {σ : St} (hn : n ≤ 7) (hz : σ.1 o 7 = nI n) (hK : ∀ j, j < n → σ.1 (o + 1) j = nI (K j) ∧ K j ≤ 4) : ∀ (m i : Nat), i ≤ n → n - i < m → fX8_looksNeeded_4 fu o m (nI (kM K i)) (nI i) σ = some (nI (lk K n), σ) := by
  intro m
  induction m with
  | zero => intro i h1 h2; omega
  | succ m ih =>
    intro i h1 h2
    show fX8_looksNeeded_4b fu (fX8_looksNeeded_4 fu o m) o (nI (kM K i)) (nI i) σ = _
    unfold fX8_looksNeeded_4b
    rw [hz]
    by_cases c : i < n
    · rw [if_neg (nI_ge c (by omega)), rs0 ho, ald_nI (by omega) (by omega), (hK i c).1]
      simp only [Option.bind_some, nm]
      rw [bt1 _ (by have := (hK i c).2; omega), fa_or, nI_1]
      exact ih (i + 1) (by omega) (by omega)
    · have : i = n := by omega
      subst this
      have hl := kM_lt (K := K) i (fun j hj => (hK j hj).2)
      have he := lk_eq (K := K) i (fun j hj => (hK j hj).2)
      rw [if_pos (nI_le (Nat.le_refl _) (by omega)), bitCount_128 fu σ _ (by omega), cS8 hl]
      simp only [Option.bind_some]
      rw [pk_sub (by omega), show i - cS (kM K i) 5 = lk K i by omega]
theorem looksNeeded_eq {fu : Nat} (hf : 100 ≤ fu) {o n : Nat} (ho : xk o = 6) {K : Nat → Nat} {σ : St} (hn : n ≤ 7) (hz : σ.1 o 7 = nI n) (hK : ∀ j, j < n → σ.1 (o + 1) j = nI (K j) ∧ K j ≤ 4) : fX8_looksNeeded fu o σ = some (nI (lk K n), σ) := by
  unfold fX8_looksNeeded fX8_looksNeeded_0
  rw [if_pos ho]
  exact looksNeeded_lp fu ho hn hz hK fu 0 (by omega) (by omega)
def lkS (K : Nat → Nat) (n : Nat) : Nat → Nat
  | 0 => 0
  | k + 1 => lkS K n k + (kC K k n - 1)
theorem kC_le (K : Nat → Nat) (k : Nat) : ∀ i, kC K k i ≤ i
  | 0 => Nat.le_refl _
  | i + 1 => by
    have := kC_le K k i
    show kC K k i + (if K i = k then 1 else 0) ≤ i + 1
    split <;> omega
theorem looksOf_lp {fu : Nat} (hf : 100 ≤ fu) {n : Nat} {K : Nat → Nat} {σ : St} (hn : n ≤ 7) (hz : σ.1 43 12 = nI n) (hK : ∀ j, j < n → σ.1 45 j = nI (K j) ∧ K j ≤ 4) : ∀ (m k : Nat), k ≤ 5 → 5 - k < m → fX10_looksOf_4 fu 43 m (nI (lkS K n k)) (nI k) σ = some (nI (lkS K n 5), σ) := by
  intro m
  induction m with
  | zero => intro i h1 h2; omega
  | succ m ih =>
    intro k h1 h2
    show fX10_looksOf_4b fu (fX10_looksOf_4 fu 43 m) 43 (nI (lkS K n k)) (nI k) σ = _
    unfold fX10_looksOf_4b
    by_cases c : k < 5
    · rw [if_neg (show ¬ (5 : Int32) ≤ nI k from nI_ge (b := 5) c (by omega))]
      have inner : ∀ (m2 i : Nat), i ≤ n → n - i < m2 → fX10_looksOf_14 fu (fX10_looksOf_4 fu 43 m) 43 m2 (nI (lkS K n k)) (nI k) (nI (kC K k i)) (nI i) σ = some (nI (lkS K n 5), σ) := by
        intro m2
        induction m2 with
        | zero => intro i h1 h2; omega
        | succ m2 ih2 =>
          intro i g1 g2
          show fX10_looksOf_14b fu (fX10_looksOf_4 fu 43 m) (fX10_looksOf_14 fu (fX10_looksOf_4 fu 43 m) 43 m2) 43 _ _ _ (nI i) σ = _
          unfold fX10_looksOf_14b fX10_looksOf_40 fX10_looksOf_60
          rw [hz]
          by_cases d : i < n
          · rw [if_neg (nI_ge d (by omega)), rv_43_13, ald_nI (by omega) (by omega), (hK i d).1]
            simp only [Option.bind_some, nm]
            have hi := (hK i d).2
            have e : nI (K i) = nI k ↔ K i = k := nI_eq (by omega) (by omega)
            have := ih2 (i + 1) (by omega) (by omega)
            rw [show kC K k (i + 1) = kC K k i + (if K i = k then 1 else 0) from rfl] at this
            by_cases f : K i = k
            · rw [if_pos (e.mpr f), nI_1, nI_1]
              rw [if_pos f] at this
              exact this
            · rw [if_neg (fun q => f (e.mp q)), nI_1, show (0 : Int32) = nI 0 from rfl, nI_add]
              rw [if_neg f] at this
              exact this
          · have : i = n := by omega
            subst this
            rw [if_pos (nI_le (Nat.le_refl _) (by omega))]
            simp only [nm]
            have hc := kC_le K k i
            have := ih (k + 1) (by omega) (by omega)
            rw [show lkS K i (k + 1) = lkS K i k + (kC K k i - 1) from rfl] at this
            by_cases f : kC K k i = 0
            · rw [if_pos (show nI (kC K k i) ≤ 0 from nI_le (b := 0) (by omega) (by omega)), nI_1, show (0 : Int32) = nI 0 from rfl, nI_add]
              rw [f] at this
              exact this
            · rw [if_neg (show ¬ nI (kC K k i) ≤ 0 from nI_nle (by omega) (by omega)), nI_s1 (by omega), nI_1, nI_add]
              exact this
      exact inner fu 0 (by omega) (by omega)
    · have : k = 5 := by omega
      subst this
      rw [if_pos (show (5 : Int32) ≤ nI 5 from nI_le (Nat.le_refl _) (by omega))]
theorem looksOf_eq {fu : Nat} (hf : 100 ≤ fu) {n : Nat} {K : Nat → Nat} {σ : St} (hn : n ≤ 7) (hz : σ.1 43 12 = nI n) (hK : ∀ j, j < n → σ.1 45 j = nI (K j) ∧ K j ≤ 4) : fX10_looksOf fu 43 σ = some (nI (lk K n), σ) := by
  unfold fX10_looksOf fX10_looksOf_0
  rw [if_pos xv_43]
  have h := looksOf_lp hf hn hz hK fu 0 (by omega) (by omega)
  rw [show lkS K n 5 = lk K n from (show ((((0 + (kC K 0 n - 1)) + (kC K 1 n - 1)) + (kC K 2 n - 1)) + (kC K 3 n - 1)) + (kC K 4 n - 1) = lk K n by unfold lk; rw [Nat.zero_add])] at h
  exact h
theorem sm_looks {fu : Nat} (hf : 100 ≤ fu) : Sm_looks fu Inv := by
  intro σ hI
  obtain ⟨⟨n, hW, hM⟩, hP, hL, hC, hIm⟩ := id hI
  obtain ⟨hn, hz, w1, w2, w3, w4⟩ := id hW
  have s1 := isTooShort_eq fu hn hz
  have s2 := lacks_eq fu hn hM.1
  by_cases h : n < 2
  · rw [if_pos h] at s1 s2
    exact ⟨(-103, σ), (-103, σ), by simp [fX9_looks_19, fX9_looks_0, fX9_looks, xv_0, xv_1, xv_3, xv_4, xv_12, xv_20, xv_22, xv_27, xv_29, xv_32, xv_34, xv_35, xv_43, rv_0_0, rv_0_1, rv_0_2, rv_0_3, rv_0_4, rv_0_5, rv_0_6, rv_0_7, rv_1_0, rv_4_0, rv_4_1, rv_4_2, rv_4_3, rv_4_4, rv_4_5, rv_4_6, rv_12_0, rv_12_1, rv_12_2, rv_12_3, rv_12_4, rv_12_5, rv_12_6, rv_35_0, rv_35_1, rv_35_2, rv_35_3, rv_35_4, rv_35_5, rv_35_6, rv_20_0, rv_27_0, rv_32_0, rv_22_0, rv_22_1, rv_22_2, rv_22_3, rv_22_4, rv_29_0, rv_29_1, rv_29_2, rv_34_0, rv_43_0, rv_43_13, rv_43_14, rv_43_15, rv_43_16, rv_43_17, rv_43_18, rv_43_19, rv_43_20, rv_43_21, rv_43_22, rv_43_30, if_true, Option.bind_some, nm, s1], by simp [fX10_looks_16, fX10_looks_0, fX10_looks, xv_0, xv_1, xv_3, xv_4, xv_12, xv_20, xv_22, xv_27, xv_29, xv_32, xv_34, xv_35, xv_43, rv_0_0, rv_0_1, rv_0_2, rv_0_3, rv_0_4, rv_0_5, rv_0_6, rv_0_7, rv_1_0, rv_4_0, rv_4_1, rv_4_2, rv_4_3, rv_4_4, rv_4_5, rv_4_6, rv_12_0, rv_12_1, rv_12_2, rv_12_3, rv_12_4, rv_12_5, rv_12_6, rv_35_0, rv_35_1, rv_35_2, rv_35_3, rv_35_4, rv_35_5, rv_35_6, rv_20_0, rv_27_0, rv_32_0, rv_22_0, rv_22_1, rv_22_2, rv_22_3, rv_22_4, rv_29_0, rv_29_1, rv_29_2, rv_34_0, rv_43_0, rv_43_13, rv_43_14, rv_43_15, rv_43_16, rv_43_17, rv_43_18, rv_43_19, rv_43_20, rv_43_21, rv_43_22, rv_43_30, if_true, Option.bind_some, nm, s2], rfl, hI⟩
  · rw [if_neg h] at s1 s2
    have a1 := looksNeeded_eq hf xv_4 hn hz (fun j hj => ⟨((WS_Vw hW).2 j hj).1, ((WS_Vw hW).2 j hj).2.1⟩)
    have a2 := looksOf_eq hf hn hM.1 (fun j hj => ⟨((Mo_Mw hW hM).2.2 j hj).1, ((Mo_Mw hW hM).2.2 j hj).2.1⟩)
    exact ⟨(nI (lk (nv σ 5) n), σ), (nI (lk (nv σ 5) n), σ), by simp [fX9_looks_19, fX9_looks_0, fX9_looks, xv_0, xv_1, xv_3, xv_4, xv_12, xv_20, xv_22, xv_27, xv_29, xv_32, xv_34, xv_35, xv_43, rv_0_0, rv_0_1, rv_0_2, rv_0_3, rv_0_4, rv_0_5, rv_0_6, rv_0_7, rv_1_0, rv_4_0, rv_4_1, rv_4_2, rv_4_3, rv_4_4, rv_4_5, rv_4_6, rv_12_0, rv_12_1, rv_12_2, rv_12_3, rv_12_4, rv_12_5, rv_12_6, rv_35_0, rv_35_1, rv_35_2, rv_35_3, rv_35_4, rv_35_5, rv_35_6, rv_20_0, rv_27_0, rv_32_0, rv_22_0, rv_22_1, rv_22_2, rv_22_3, rv_22_4, rv_29_0, rv_29_1, rv_29_2, rv_34_0, rv_43_0, rv_43_13, rv_43_14, rv_43_15, rv_43_16, rv_43_17, rv_43_18, rv_43_19, rv_43_20, rv_43_21, rv_43_22, rv_43_30, if_true, Option.bind_some, nm, s1, a1], by simp [fX10_looks_16, fX10_looks_0, fX10_looks, xv_0, xv_1, xv_3, xv_4, xv_12, xv_20, xv_22, xv_27, xv_29, xv_32, xv_34, xv_35, xv_43, rv_0_0, rv_0_1, rv_0_2, rv_0_3, rv_0_4, rv_0_5, rv_0_6, rv_0_7, rv_1_0, rv_4_0, rv_4_1, rv_4_2, rv_4_3, rv_4_4, rv_4_5, rv_4_6, rv_12_0, rv_12_1, rv_12_2, rv_12_3, rv_12_4, rv_12_5, rv_12_6, rv_35_0, rv_35_1, rv_35_2, rv_35_3, rv_35_4, rv_35_5, rv_35_6, rv_20_0, rv_27_0, rv_32_0, rv_22_0, rv_22_1, rv_22_2, rv_22_3, rv_22_4, rv_29_0, rv_29_1, rv_29_2, rv_34_0, rv_43_0, rv_43_13, rv_43_14, rv_43_15, rv_43_16, rv_43_17, rv_43_18, rv_43_19, rv_43_20, rv_43_21, rv_43_22, rv_43_30, if_true, Option.bind_some, nm, s2, a2], rfl, hI⟩
