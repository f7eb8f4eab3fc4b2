theorem wb_tb (n : Nat) : (lN n).toBitVec = BitVec.ofNat 64 n := rfl
theorem wb_inj {a b : Int64} (h : a.toBitVec = b.toBitVec) : a = b := Int64.toBitVec_inj.mp h
theorem wb_tn {n : Nat} (h : n < 2 ^ 64) : (lN n).toBitVec.toNat = n := by rw [wb_tb, BitVec.toNat_ofNat, Nat.mod_eq_of_lt h]
theorem wb_of (x : Int64) : ∃ n, n < 2 ^ 64 ∧ x = lN n := ⟨x.toBitVec.toNat, x.toBitVec.isLt, wb_inj (by rw [wb_tb]; simp)⟩
theorem wb_cu : ∀ k, k < 64 → ((nI k).toInt64.toUInt64 &&& Int64.toUInt64 63) = UInt64.ofNat k := by decide +kernel
theorem wb_lt2 {a b : Nat} (h : a < b) : 2 ^ a < 2 ^ b := Nat.pow_lt_pow_right (by decide) h
theorem wb_shr {n k : Nat} (hn : n < 2 ^ 64) (hk : k < 64) : ((lN n).toUInt64 >>> ((nI k).toInt64.toUInt64 &&& Int64.toUInt64 63)).toInt64 = lN (n / 2 ^ k) := by
  rw [wb_cu k hk]
  apply wb_inj
  apply BitVec.eq_of_toNat_eq
  show ((lN n).toUInt64 >>> UInt64.ofNat k).toNat = (BitVec.ofNat 64 _).toNat
  have h1 : (UInt64.ofNat k).toNat = k := by
    show (BitVec.ofNat 64 k).toNat = k
    rw [BitVec.toNat_ofNat, Nat.mod_eq_of_lt (by omega)]
  have h2 : (lN n).toUInt64.toNat = n := wb_tn hn
  rw [UInt64.toNat_shiftRight, h1, h2, Nat.mod_eq_of_lt hk, Nat.shiftRight_eq_div_pow, BitVec.toNat_ofNat, Nat.mod_eq_of_lt (Nat.lt_of_le_of_lt (Nat.div_le_self _ _) hn)]
theorem wb_and {a b : Nat} (ha : a < 2 ^ 64) (hb : b < 2 ^ 64) : lN a &&& lN b = lN (a &&& b) := by
  apply wb_inj
  rw [Int64.toBitVec_and, wb_tb, wb_tb, wb_tb]
  apply BitVec.eq_of_toNat_eq
  rw [BitVec.toNat_and, BitVec.toNat_ofNat, BitVec.toNat_ofNat, BitVec.toNat_ofNat, Nat.mod_eq_of_lt ha, Nat.mod_eq_of_lt hb, Nat.mod_eq_of_lt (Nat.and_lt_two_pow _ hb)]
theorem wb_mask {n k : Nat} (hn : n < 2 ^ 64) (hk : k < 64) : lN n &&& lN (2 ^ k - 1) = lN (n % 2 ^ k) := by
  rw [wb_and hn (by have := wb_lt2 hk; omega), Nat.and_two_pow_sub_one_eq_mod]
theorem fa_and (a b : Nat) : nI a &&& nI b = nI (a &&& b) := by
  apply Int32.toBitVec_inj.1
  show BitVec.ofNat 32 a &&& BitVec.ofNat 32 b = BitVec.ofNat 32 (a &&& b)
  apply BitVec.eq_of_getLsbD_eq
  intro i hi
  simp [hi]
theorem fa_mask (n k : Nat) : nI n &&& nI (2 ^ k - 1) = nI (n % 2 ^ k) := by rw [fa_and, Nat.and_two_pow_sub_one_eq_mod]
theorem fa_or (a b : Nat) : nI a ||| nI b = nI (a ||| b) := by
  apply Int32.toBitVec_inj.1
  show BitVec.ofNat 32 a ||| BitVec.ofNat 32 b = BitVec.ofNat 32 (a ||| b)
  apply BitVec.eq_of_getLsbD_eq
  intro i hi
  simp [hi]
/-- the letters in a number -/
def bts (N i : Nat) : Nat := N / 2 ^ (8 * i) % 256
def cntB (N : Nat) : Nat → Nat
  | 0 => 0
  | i + 1 => cntB N i + if bts N i = 0 then 0 else 1
theorem cntB_le (N : Nat) : ∀ i, cntB N i ≤ i
  | 0 => Nat.le_refl _
  | i + 1 => by
    have := cntB_le N i
    show cntB N i + (if bts N i = 0 then 0 else 1) ≤ i + 1
    split <;> omega
theorem bts_lt (N i : Nat) : bts N i < 256 := Nat.mod_lt _ (by decide)
theorem sh8 {N i : Nat} (hN : N < 2 ^ 64) (hi : i < 8) : ((lN N).toUInt64 >>> (((8 : Int32) * nI i).toInt64.toUInt64 &&& Int64.toUInt64 63)).toInt64 = lN (N / 2 ^ (8 * i)) := by
  rw [show (8 : Int32) = nI 8 from rfl, pk_mul, wb_shr hN (by omega)]
theorem codeIn_eq (fu : Nat) {N i : Nat} (hN : N < 2 ^ 64) (hi : i < 8) (σ : St) : fX7_codeIn fu (lN N) (nI i) σ = some (nI (bts N i), σ) := by
  unfold fX7_codeIn fX7_codeIn_0
  rw [sh8 hN hi, lN_i, show (255 : Int32) = nI (2 ^ 8 - 1) from rfl, fa_mask]
  rfl
theorem mcode {N i : Nat} (hN : N < 2 ^ 64) (hi : i < 8) : (((lN N).toUInt64 >>> (((8 : Int32) * nI i).toInt64.toUInt64 &&& Int64.toUInt64 63)).toInt64 &&& (255 : Int64)).toInt32 = nI (bts N i) := by
  rw [sh8 hN hi, show (255 : Int64) = lN (2 ^ 8 - 1) from rfl, wb_mask (Nat.lt_of_le_of_lt (Nat.div_le_self _ _) hN) (by omega), lN_i]
  rfl
def badB (N i : Nat) : Prop := 126 < bts N i ∨ (cntB N i ≠ i ∧ bts N i ≠ 0)
theorem lettersIn_lp (fu : Nat) {N : Nat} (hN : N < 2 ^ 64) (σ : St) : ∀ (m i : Nat), i ≤ 8 → 8 - i < m → (∀ j, j < i → ¬ badB N j) → ((∀ j, j < 8 → ¬ badB N j) → fX7_lettersIn_7 fu (lN N) m (nI (cntB N i)) (if cntB N i = i then 0 else 1) (nI i) σ = some (nI (cntB N 8), σ)) ∧ ((∃ j, j < 8 ∧ badB N j) → fX7_lettersIn_7 fu (lN N) m (nI (cntB N i)) (if cntB N i = i then 0 else 1) (nI i) σ = some (-1, σ)) := by
  intro m
  induction m with
  | zero => intro i h1 h2; omega
  | succ m ih =>
    intro i h1 h2 hg
    show (_ → fX7_lettersIn_7b fu (fX7_lettersIn_7 fu (lN N) m) (lN N) _ _ (nI i) σ = _) ∧ (_ → fX7_lettersIn_7b fu (fX7_lettersIn_7 fu (lN N) m) (lN N) _ _ (nI i) σ = _)
    by_cases c : i < 8
    · have hb := bts_lt N i
      have hz : nI (bts N i) = 0 ↔ bts N i = 0 := by rw [show (0 : Int32) = nI 0 from rfl, nI_eq (by omega) (by omega)]
      have hc := cntB_le N i
      simp only [fX7_lettersIn_38, fX7_lettersIn_53, fX7_lettersIn_40, fX7_lettersIn_7b, fX7_lettersIn_7, fX7_lettersIn_0, fX7_lettersIn, xv_0, xv_1, xv_3, xv_4, xv_12, xv_20, xv_22, xv_27, xv_29, xv_32, xv_34, xv_35, xv_43, rv_0_0, rv_0_1, rv_0_2, rv_0_3, rv_0_4, rv_0_5, rv_0_6, rv_0_7, rv_1_0, rv_4_0, rv_4_1, rv_4_2, rv_4_3, rv_4_4, rv_4_5, rv_4_6, rv_12_0, rv_12_1, rv_12_2, rv_12_3, rv_12_4, rv_12_5, rv_12_6, rv_35_0, rv_35_1, rv_35_2, rv_35_3, rv_35_4, rv_35_5, rv_35_6, rv_20_0, rv_27_0, rv_32_0, rv_22_0, rv_22_1, rv_22_2, rv_22_3, rv_22_4, rv_29_0, rv_29_1, rv_29_2, rv_34_0, rv_43_0, rv_43_13, rv_43_14, rv_43_15, rv_43_16, rv_43_17, rv_43_18, rv_43_19, rv_43_20, rv_43_21, rv_43_22, rv_43_30, if_true, Option.bind_some, nm, codeIn_eq fu hN c]
      rw [if_neg (show ¬ (8 : Int32) ≤ nI i from nI_ge (b := 8) c (by omega))]
      by_cases d : 126 < bts N i
      · rw [if_pos (show (126 : Int32) < nI (bts N i) from nI_lt (a := 126) d (by omega))]
        exact ⟨fun q => absurd (Or.inl d) (q i c), fun _ => rfl⟩
      rw [if_neg (show ¬ (126 : Int32) < nI (bts N i) from nI_nlt (a := 126) (by omega) (by omega))]
      by_cases e0 : bts N i = 0
      · have e1 : cntB N (i + 1) = cntB N i := by
          show cntB N i + (if bts N i = 0 then 0 else 1) = cntB N i
          rw [if_pos e0]; omega
        have e2 : (if cntB N (i + 1) = i + 1 then (0 : Int32) else 1) = 1 := by rw [e1, if_neg (by omega)]
        have hg' : ∀ j, j < i + 1 → ¬ badB N j := by
          intro j hj
          rcases Nat.lt_or_ge j i with q | q
          · exact hg j q
          · have : j = i := by omega
            subst this
            rintro (q | q)
            · exact d q
            · exact q.2 e0
        have := ih (i + 1) (by omega) (by omega) hg'
        rw [e2, e1] at this
        simp only [hz.mpr e0, if_true, nI_1]
        split <;> exact this
      · have hn : ¬ nI (bts N i) = 0 := fun q => e0 (hz.mp q)
        by_cases f : cntB N i = i
        · have e1 : cntB N (i + 1) = i + 1 := by
            show cntB N i + (if bts N i = 0 then 0 else 1) = i + 1
            rw [if_neg e0, f]
          have e2 : (if cntB N (i + 1) = i + 1 then (0 : Int32) else 1) = 0 := by rw [if_pos e1]
          have hg' : ∀ j, j < i + 1 → ¬ badB N j := by
            intro j hj
            rcases Nat.lt_or_ge j i with q | q
            · exact hg j q
            · have : j = i := by omega
              subst this
              rintro (q | q)
              · exact d q
              · exact q.1 f
          have := ih (i + 1) (by omega) (by omega) hg'
          rw [e2, e1] at this
          simp only [f, hn, if_true, if_false, nI_1]
          exact this
        · rw [if_neg f]
          simp only [hn, if_false]
          refine ⟨fun q => absurd (Or.inr ⟨f, e0⟩) (q i c), fun _ => ?_⟩
          rw [if_neg (by decide)]
    · have : i = 8 := by omega
      subst this
      unfold fX7_lettersIn_7b
      rw [if_pos (show (8 : Int32) ≤ nI 8 from nI_le (Nat.le_refl _) (by omega))]
      exact ⟨fun _ => rfl, fun ⟨j, q1, q2⟩ => absurd q2 (hg j q1)⟩
theorem lettersIn_eq {fu : Nat} (hf : 100 ≤ fu) {N : Nat} (hN : N < 2 ^ 64) (σ : St) : ((∀ j, j < 8 → ¬ badB N j) → fX7_lettersIn fu (lN N) σ = some (nI (cntB N 8), σ)) ∧ ((∃ j, j < 8 ∧ badB N j) → fX7_lettersIn fu (lN N) σ = some (-1, σ)) := by
  unfold fX7_lettersIn fX7_lettersIn_0
  exact lettersIn_lp fu hN σ fu 0 (by omega) (by omega) (fun j h => by omega)
/-- letters put behind others -/
def apF (f : Nat → Int32) (N l i : Nat) : Nat → Int32 := fun x => if l ≤ x ∧ x < l + i then nI (bts N (x - l)) else f x
theorem apF_0 (f : Nat → Int32) (N l : Nat) : apF f N l 0 = f := by
  funext x
  unfold apF
  rw [if_neg (by omega)]
theorem apF_s (f : Nat → Int32) (N l i : Nat) : upd (apF f N l i) (l + i) (nI (bts N i)) = apF f N l (i + 1) := by
  funext x
  unfold upd apF
  by_cases h : x = l + i
  · rw [if_pos h, if_pos (by omega), h, Nat.add_sub_cancel_left]
  · rw [if_neg h]
    by_cases h2 : l ≤ x ∧ x < l + i
    · rw [if_pos h2, if_pos (by omega)]
    · rw [if_neg h2, if_neg (by omega)]
def apS (σ : St) (a b s N l i : Nat) : St := si (sc σ a (apF (σ.1 a) N l i)) b s (nI (l + i))
theorem append_lp (fu : Nat) {N l t : Nat} (hN : N < 2 ^ 64) (ht : t ≤ 8) (hl : l + t ≤ 16) (σ : St) : ∀ (m i : Nat), i ≤ t → t - i < m → fX7_append_3 fu 1 (lN N) (nI t) m (nI i) (apS σ 2 1 1 N l i) = some (apS σ 2 1 1 N l t) := by
  intro m
  induction m with
  | zero => intro i h1 h2; omega
  | succ m ih =>
    intro i h1 h2
    show fX7_append_3b fu (fX7_append_3 fu 1 (lN N) (nI t) m) 1 (lN N) (nI t) (nI i) _ = _
    unfold fX7_append_3b fX7_append_49
    by_cases c : i < t
    · rw [if_neg (nI_ge c (by omega)), show (apS σ 2 1 1 N l i).1 1 1 = nI (l + i) from rfl, if_neg (show ¬ (16 : Int32) ≤ nI (l + i) from nI_ge (b := 16) (by omega) (by omega)), codeIn_eq fu hN (by omega)]
      simp only [xv_0, xv_1, xv_3, xv_4, xv_12, xv_20, xv_22, xv_27, xv_29, xv_32, xv_34, xv_35, xv_43, rv_0_0, rv_0_1, rv_0_2, rv_0_3, rv_0_4, rv_0_5, rv_0_6, rv_0_7, rv_1_0, rv_4_0, rv_4_1, rv_4_2, rv_4_3, rv_4_4, rv_4_5, rv_4_6, rv_12_0, rv_12_1, rv_12_2, rv_12_3, rv_12_4, rv_12_5, rv_12_6, rv_35_0, rv_35_1, rv_35_2, rv_35_3, rv_35_4, rv_35_5, rv_35_6, rv_20_0, rv_27_0, rv_32_0, rv_22_0, rv_22_1, rv_22_2, rv_22_3, rv_22_4, rv_29_0, rv_29_1, rv_29_2, rv_34_0, rv_43_0, rv_43_13, rv_43_14, rv_43_15, rv_43_16, rv_43_17, rv_43_18, rv_43_19, rv_43_20, rv_43_21, rv_43_22, rv_43_30, if_true, Option.bind_some, nm]
      rw [ast_nI (by omega) (by omega)]
      simp only [Option.bind_some]
      rw [nI_1]
      refine Eq.trans ?_ (ih (i + 1) (by omega) (by omega))
      congr 1
      unfold apS
      rw [← apF_s]
      apply Prod.ext
      · funext r
        simp only [si_row, sc_row]
        by_cases r1 : r = 1
        · subst r1
          simp
          funext x
          unfold upd
          by_cases hx : x = 1
          · rw [if_pos hx, if_pos hx]
            simp [nI_1, Nat.add_assoc]
          · rw [if_neg hx, if_neg hx]
            simp [hx]
        · by_cases r2 : r = 2
          · subst r2
            simp
          · simp [r1, r2]
      · rfl
    · have : i = t := by omega
      subst this
      rw [if_pos (nI_le (Nat.le_refl _) (by omega))]
theorem mappend_lp (fu : Nat) {N l t : Nat} (hN : N < 2 ^ 64) (ht : t ≤ 8) (hl : l + t ≤ 16) (σ : St) : ∀ (m i : Nat), i ≤ t → t - i < m → fX10_letters_108 fu 43 (lN N) m (nI t) (nI i) (apS σ 44 43 1 N l i) = some (nI (l + t), apS σ 44 43 1 N l t) := by
  intro m
  induction m with
  | zero => intro i h1 h2; omega
  | succ m ih =>
    intro i h1 h2
    show fX10_letters_108b fu (fX10_letters_108 fu 43 (lN N) m) 43 (lN N) (nI t) (nI i) _ = _
    unfold fX10_letters_108b
    by_cases c : i < t
    · rw [if_neg (nI_ge c (by omega)), show (apS σ 44 43 1 N l i).1 43 1 = nI (l + i) from rfl, mcode hN (by omega)]
      simp only [xv_0, xv_1, xv_3, xv_4, xv_12, xv_20, xv_22, xv_27, xv_29, xv_32, xv_34, xv_35, xv_43, rv_0_0, rv_0_1, rv_0_2, rv_0_3, rv_0_4, rv_0_5, rv_0_6, rv_0_7, rv_1_0, rv_4_0, rv_4_1, rv_4_2, rv_4_3, rv_4_4, rv_4_5, rv_4_6, rv_12_0, rv_12_1, rv_12_2, rv_12_3, rv_12_4, rv_12_5, rv_12_6, rv_35_0, rv_35_1, rv_35_2, rv_35_3, rv_35_4, rv_35_5, rv_35_6, rv_20_0, rv_27_0, rv_32_0, rv_22_0, rv_22_1, rv_22_2, rv_22_3, rv_22_4, rv_29_0, rv_29_1, rv_29_2, rv_34_0, rv_43_0, rv_43_13, rv_43_14, rv_43_15, rv_43_16, rv_43_17, rv_43_18, rv_43_19, rv_43_20, rv_43_21, rv_43_22, rv_43_30, if_true, Option.bind_some, nm]
      rw [ast_nI (by omega) (by omega)]
      simp only [Option.bind_some]
      rw [nI_1]
      refine Eq.trans ?_ (ih (i + 1) (by omega) (by omega))
      congr 1
      unfold apS
      rw [← apF_s]
      apply Prod.ext
      · funext r
        simp only [si_row, sc_row]
        by_cases r1 : r = 43
        · subst r1
          simp
          funext x
          unfold upd
          by_cases hx : x = 1
          · rw [if_pos hx, if_pos hx]
            simp [nI_1, Nat.add_assoc]
          · rw [if_neg hx, if_neg hx]
            simp [hx]
        · by_cases r2 : r = 44
          · subst r2
            simp
          · simp [r1, r2]
      · rfl
    · have : i = t := by omega
      subst this
      rw [if_pos (nI_le (Nat.le_refl _) (by omega))]
      rfl
theorem apS_0 {σ : St} {a b s N l : Nat} (h : σ.1 b s = nI l) : apS σ a b s N l 0 = σ := by
  unfold apS
  rw [apF_0, sc_self]
  apply Prod.ext
  · funext r x
    simp only [si_row, upd]
    by_cases h1 : r = b
    · subst h1
      rw [if_pos rfl]
      unfold upd
      split
      · next h2 => subst h2; exact h.symm
      · rfl
    · rw [if_neg h1]
  · rfl
