/-! digest: the whole -/
theorem tail_c {fu : Nat} (hf : 100 ≤ fu) {β σ : St} {n l : Nat} (hW : WS β 4 n) (hl : l ≤ 16) (h1 : β.1 1 1 = nI l) (hF : Fr β σ) (h : Int64) : fX9_digest_78 fu 0 h σ = some (fM (gC β n) (fM (fun i => (β.1 2 i).toInt64) h l) 7, σ) := by
  unfold fX9_digest_78
  have a := dg80 fu hl h1 hF h fu 0 (by omega) (by omega)
  have b := dg113 hf hW hF (fM (fun i => (β.1 2 i).toInt64) h l) fu 0 (by omega) (by omega)
  exact a.trans b
theorem tail_m {fu : Nat} (hf : 100 ≤ fu) {β τ : St} {n l : Nat} (hW : WS β 4 n) (hM : Mo β n) (hP : Pg β) (hC : Cn β) (hl : l ≤ 16) (h1 : β.1 43 1 = nI l) (hg : ∀ j, j < l → β.1 44 j = β.1 2 j) (hF : Fr β τ) {h : Int64} (hh : τ.2 = h) : fX10_digest_106 fu 43 τ = some (fM (gC β n) (fM (fun i => (β.1 2 i).toInt64) h l) 7, sl τ (fM (gC β n) (fM (fun i => (β.1 2 i).toInt64) h l) 7)) := by
  unfold fX10_digest_106
  have e : τ = sl τ h := by rw [← hh]; rfl
  have a := dg108 fu (fun i => (β.1 2 i).toInt64) hl h1 (fun j hj => by rw [hg j hj]) hF h fu 0 (by omega) (by omega)
  have b := dg135 hf hW hM hP hC hF (fM (fun i => (β.1 2 i).toInt64) h l) fu 0 (by omega) (by omega)
  have c := a.trans b
  rw [show fM (fun i => (β.1 2 i).toInt64) h 0 = h from rfl, ← e] at c
  exact c
noncomputable def D39 (fu : Nat) (H : Int64) (β : St) : Option (Int64 × St) := (fX9_isTooShort fu 0 β).bind fun q102 => if q102.1 = 0 then (fX9_mixLaying fu 0 H q102.2).bind fun q104 => fX9_digest_78 fu 0 q104.1 q104.2 else fX9_digest_78 fu 0 H q102.2
noncomputable def D72 (fu : Nat) (τ : St) : Option (Int64 × St) := (fX10_lacks fu 43 τ).bind fun q102 => if q102.1 = 0 then (fX10_sayStreet fu 43 q102.2).bind fun q104 => fX10_digest_106 fu 43 q104 else fX10_digest_106 fu 43 q102.2
def gW (β : St) (k : Nat) : Int64 := (β.1 11 k).toInt64
theorem dg39 {fu : Nat} (β : St) (h : Int64) : ∀ (m k : Nat), k ≤ 7 → 7 - k < m → fX9_digest_39 fu 0 m (fM (gW β) h k) (nI k) β = D39 fu (fM (gW β) h 7) β := by
  intro m
  induction m with
  | zero => intro k _ h; omega
  | succ m ih =>
    intro k hk hm
    show fX9_digest_39b fu (fX9_digest_39 fu 0 m) 0 _ (nI k) β = _
    unfold fX9_digest_39b
    by_cases c : k < 7
    · have wi : fX8_wheelsIn fu 4 (nI k) β = some (β.1 11 k, β) := by
        unfold fX8_wheelsIn fX8_wheelsIn_0
        rw [if_pos xv_4, rv_4_6, ald_nI c (by omega)]
        rfl
      rw [if_neg (show ¬ (7 : Int32) ≤ nI k from nI_ge (b := 7) c (by omega)), rv_0_2, wi]
      simp only [Option.bind_some, nm, mix_eq]
      rw [nI_1]
      exact ih (k + 1) (by omega) (by omega)
    · have : k = 7 := by omega
      subst this
      rw [if_pos (show (7 : Int32) ≤ nI 7 by decide)]
      rfl
theorem dg72 {fu : Nat} {β τ : St} {n : Nat} (hM : Mo β n) (hF : Fr β τ) (h : Int64) : ∀ (m k : Nat), k ≤ 7 → 7 - k < m → fX10_digest_72 fu 43 m (nI k) (sl τ (fM (gW β) h k)) = D72 fu (sl τ (fM (gW β) h 7)) := by
  intro m
  induction m with
  | zero => intro k _ h; omega
  | succ m ih =>
    intro k hk hm
    show fX10_digest_72b fu (fX10_digest_72 fu 43 m) 43 (nI k) _ = _
    unfold fX10_digest_72b
    by_cases c : k < 7
    · rw [if_neg (show ¬ (7 : Int32) ≤ nI k from nI_ge (b := 7) c (by omega)), rv_43_18, ald_nI c (by omega), show (sl τ (fM (gW β) h k)).1 50 k = β.1 11 k from (congrFun (Fr_lo hF 50 (by omega)) k).trans (hM.2.2 k c)]
      simp only [Option.bind_some, nm, say_eq]
      rw [nI_1]
      exact ih (k + 1) (by omega) (by omega)
    · have : k = 7 := by omega
      subst this
      rw [if_pos (show (7 : Int32) ≤ nI 7 by decide)]
      rfl
/-- blocks -/
def bv (β : St) (j k : Nat) : Int32 := if k = 0 then β.1 5 j else if k = 1 then β.1 6 j else if k = 2 then β.1 7 j else if k = 3 then β.1 9 j else β.1 8 j
def gB (β : St) (j k : Nat) : Int64 := (bv β j k).toInt64
def bl (β : St) (h : Int64) : Nat → Int64
  | 0 => h
  | j + 1 => fM (gB β j) (bl β h j) 5
theorem told_c (fu : Nat) {β : St} {j k : Nat} (hj : j < 7) (hk : k < 5) : fX8_told fu 4 (nI j) (nI k) β = some (bv β j k, β) := by
  have q0 : ∀ (υ : St) a, ald υ a 7 (nI j) = some (υ.1 a j) := fun υ a => ald_nI (by omega) (by omega)
  rcases k5c hk with rfl | rfl | rfl | rfl | rfl
  · simp [fX8_told_0, fX8_told, xv_0, xv_1, xv_3, xv_4, xv_12, xv_20, xv_22, xv_27, xv_29, xv_32, xv_34, xv_35, xv_43, rv_0_0, rv_0_1, rv_0_2, rv_0_3, rv_0_4, rv_0_5, rv_0_6, rv_0_7, rv_1_0, rv_4_0, rv_4_1, rv_4_2, rv_4_3, rv_4_4, rv_4_5, rv_4_6, rv_12_0, rv_12_1, rv_12_2, rv_12_3, rv_12_4, rv_12_5, rv_12_6, rv_35_0, rv_35_1, rv_35_2, rv_35_3, rv_35_4, rv_35_5, rv_35_6, rv_20_0, rv_27_0, rv_32_0, rv_22_0, rv_22_1, rv_22_2, rv_22_3, rv_22_4, rv_29_0, rv_29_1, rv_29_2, rv_34_0, rv_43_0, rv_43_13, rv_43_14, rv_43_15, rv_43_16, rv_43_17, rv_43_18, rv_43_19, rv_43_20, rv_43_21, rv_43_22, rv_43_30, if_true, Option.bind_some, nm, q0, bv, show nI 0 = 0 from rfl]
  · simp [fX8_told_0, fX8_told, xv_0, xv_1, xv_3, xv_4, xv_12, xv_20, xv_22, xv_27, xv_29, xv_32, xv_34, xv_35, xv_43, rv_0_0, rv_0_1, rv_0_2, rv_0_3, rv_0_4, rv_0_5, rv_0_6, rv_0_7, rv_1_0, rv_4_0, rv_4_1, rv_4_2, rv_4_3, rv_4_4, rv_4_5, rv_4_6, rv_12_0, rv_12_1, rv_12_2, rv_12_3, rv_12_4, rv_12_5, rv_12_6, rv_35_0, rv_35_1, rv_35_2, rv_35_3, rv_35_4, rv_35_5, rv_35_6, rv_20_0, rv_27_0, rv_32_0, rv_22_0, rv_22_1, rv_22_2, rv_22_3, rv_22_4, rv_29_0, rv_29_1, rv_29_2, rv_34_0, rv_43_0, rv_43_13, rv_43_14, rv_43_15, rv_43_16, rv_43_17, rv_43_18, rv_43_19, rv_43_20, rv_43_21, rv_43_22, rv_43_30, if_true, Option.bind_some, nm, q0, bv, show nI 1 = 1 from rfl]
  · simp [fX8_told_0, fX8_told, xv_0, xv_1, xv_3, xv_4, xv_12, xv_20, xv_22, xv_27, xv_29, xv_32, xv_34, xv_35, xv_43, rv_0_0, rv_0_1, rv_0_2, rv_0_3, rv_0_4, rv_0_5, rv_0_6, rv_0_7, rv_1_0, rv_4_0, rv_4_1, rv_4_2, rv_4_3, rv_4_4, rv_4_5, rv_4_6, rv_12_0, rv_12_1, rv_12_2, rv_12_3, rv_12_4, rv_12_5, rv_12_6, rv_35_0, rv_35_1, rv_35_2, rv_35_3, rv_35_4, rv_35_5, rv_35_6, rv_20_0, rv_27_0, rv_32_0, rv_22_0, rv_22_1, rv_22_2, rv_22_3, rv_22_4, rv_29_0, rv_29_1, rv_29_2, rv_34_0, rv_43_0, rv_43_13, rv_43_14, rv_43_15, rv_43_16, rv_43_17, rv_43_18, rv_43_19, rv_43_20, rv_43_21, rv_43_22, rv_43_30, if_true, Option.bind_some, nm, q0, bv, show nI 2 = 2 from rfl]
  · simp [fX8_told_0, fX8_told, xv_0, xv_1, xv_3, xv_4, xv_12, xv_20, xv_22, xv_27, xv_29, xv_32, xv_34, xv_35, xv_43, rv_0_0, rv_0_1, rv_0_2, rv_0_3, rv_0_4, rv_0_5, rv_0_6, rv_0_7, rv_1_0, rv_4_0, rv_4_1, rv_4_2, rv_4_3, rv_4_4, rv_4_5, rv_4_6, rv_12_0, rv_12_1, rv_12_2, rv_12_3, rv_12_4, rv_12_5, rv_12_6, rv_35_0, rv_35_1, rv_35_2, rv_35_3, rv_35_4, rv_35_5, rv_35_6, rv_20_0, rv_27_0, rv_32_0, rv_22_0, rv_22_1, rv_22_2, rv_22_3, rv_22_4, rv_29_0, rv_29_1, rv_29_2, rv_34_0, rv_43_0, rv_43_13, rv_43_14, rv_43_15, rv_43_16, rv_43_17, rv_43_18, rv_43_19, rv_43_20, rv_43_21, rv_43_22, rv_43_30, if_true, Option.bind_some, nm, q0, bv, show nI 3 = 3 from rfl]
  · simp [fX8_told_0, fX8_told, xv_0, xv_1, xv_3, xv_4, xv_12, xv_20, xv_22, xv_27, xv_29, xv_32, xv_34, xv_35, xv_43, rv_0_0, rv_0_1, rv_0_2, rv_0_3, rv_0_4, rv_0_5, rv_0_6, rv_0_7, rv_1_0, rv_4_0, rv_4_1, rv_4_2, rv_4_3, rv_4_4, rv_4_5, rv_4_6, rv_12_0, rv_12_1, rv_12_2, rv_12_3, rv_12_4, rv_12_5, rv_12_6, rv_35_0, rv_35_1, rv_35_2, rv_35_3, rv_35_4, rv_35_5, rv_35_6, rv_20_0, rv_27_0, rv_32_0, rv_22_0, rv_22_1, rv_22_2, rv_22_3, rv_22_4, rv_29_0, rv_29_1, rv_29_2, rv_34_0, rv_43_0, rv_43_13, rv_43_14, rv_43_15, rv_43_16, rv_43_17, rv_43_18, rv_43_19, rv_43_20, rv_43_21, rv_43_22, rv_43_30, if_true, Option.bind_some, nm, q0, bv, show nI 4 = 4 from rfl]
theorem tell_m (fu : Nat) {β τ : St} {n j k : Nat} (hn : n ≤ 7) (hM : Mo β n) (hF : Fr β τ) (hj : j < n) (hk : k < 5) : fX10_tell fu 43 (nI j) (nI k) τ = some (bv β j k, τ) := by
  have q0 : ∀ (υ : St) a, ald υ a 7 (nI j) = some (υ.1 a j) := fun υ a => ald_nI (by omega) (by omega)
  obtain ⟨m1, m2, m3, m4, m5⟩ := hM.2.1 j hj
  rcases k5c hk with rfl | rfl | rfl | rfl | rfl
  · simp [fX10_tell_0, fX10_tell, xv_0, xv_1, xv_3, xv_4, xv_12, xv_20, xv_22, xv_27, xv_29, xv_32, xv_34, xv_35, xv_43, rv_0_0, rv_0_1, rv_0_2, rv_0_3, rv_0_4, rv_0_5, rv_0_6, rv_0_7, rv_1_0, rv_4_0, rv_4_1, rv_4_2, rv_4_3, rv_4_4, rv_4_5, rv_4_6, rv_12_0, rv_12_1, rv_12_2, rv_12_3, rv_12_4, rv_12_5, rv_12_6, rv_35_0, rv_35_1, rv_35_2, rv_35_3, rv_35_4, rv_35_5, rv_35_6, rv_20_0, rv_27_0, rv_32_0, rv_22_0, rv_22_1, rv_22_2, rv_22_3, rv_22_4, rv_29_0, rv_29_1, rv_29_2, rv_34_0, rv_43_0, rv_43_13, rv_43_14, rv_43_15, rv_43_16, rv_43_17, rv_43_18, rv_43_19, rv_43_20, rv_43_21, rv_43_22, rv_43_30, if_true, Option.bind_some, nm, q0, bv, show nI 0 = 0 from rfl, Fr_lo hF 45 (by omega), m1]
  · simp [fX10_tell_0, fX10_tell, xv_0, xv_1, xv_3, xv_4, xv_12, xv_20, xv_22, xv_27, xv_29, xv_32, xv_34, xv_35, xv_43, rv_0_0, rv_0_1, rv_0_2, rv_0_3, rv_0_4, rv_0_5, rv_0_6, rv_0_7, rv_1_0, rv_4_0, rv_4_1, rv_4_2, rv_4_3, rv_4_4, rv_4_5, rv_4_6, rv_12_0, rv_12_1, rv_12_2, rv_12_3, rv_12_4, rv_12_5, rv_12_6, rv_35_0, rv_35_1, rv_35_2, rv_35_3, rv_35_4, rv_35_5, rv_35_6, rv_20_0, rv_27_0, rv_32_0, rv_22_0, rv_22_1, rv_22_2, rv_22_3, rv_22_4, rv_29_0, rv_29_1, rv_29_2, rv_34_0, rv_43_0, rv_43_13, rv_43_14, rv_43_15, rv_43_16, rv_43_17, rv_43_18, rv_43_19, rv_43_20, rv_43_21, rv_43_22, rv_43_30, if_true, Option.bind_some, nm, q0, bv, show nI 1 = 1 from rfl, Fr_lo hF 46 (by omega), m2]
  · simp [fX10_tell_0, fX10_tell, xv_0, xv_1, xv_3, xv_4, xv_12, xv_20, xv_22, xv_27, xv_29, xv_32, xv_34, xv_35, xv_43, rv_0_0, rv_0_1, rv_0_2, rv_0_3, rv_0_4, rv_0_5, rv_0_6, rv_0_7, rv_1_0, rv_4_0, rv_4_1, rv_4_2, rv_4_3, rv_4_4, rv_4_5, rv_4_6, rv_12_0, rv_12_1, rv_12_2, rv_12_3, rv_12_4, rv_12_5, rv_12_6, rv_35_0, rv_35_1, rv_35_2, rv_35_3, rv_35_4, rv_35_5, rv_35_6, rv_20_0, rv_27_0, rv_32_0, rv_22_0, rv_22_1, rv_22_2, rv_22_3, rv_22_4, rv_29_0, rv_29_1, rv_29_2, rv_34_0, rv_43_0, rv_43_13, rv_43_14, rv_43_15, rv_43_16, rv_43_17, rv_43_18, rv_43_19, rv_43_20, rv_43_21, rv_43_22, rv_43_30, if_true, Option.bind_some, nm, q0, bv, show nI 2 = 2 from rfl, Fr_lo hF 47 (by omega), m3]
  · simp [fX10_tell_0, fX10_tell, xv_0, xv_1, xv_3, xv_4, xv_12, xv_20, xv_22, xv_27, xv_29, xv_32, xv_34, xv_35, xv_43, rv_0_0, rv_0_1, rv_0_2, rv_0_3, rv_0_4, rv_0_5, rv_0_6, rv_0_7, rv_1_0, rv_4_0, rv_4_1, rv_4_2, rv_4_3, rv_4_4, rv_4_5, rv_4_6, rv_12_0, rv_12_1, rv_12_2, rv_12_3, rv_12_4, rv_12_5, rv_12_6, rv_35_0, rv_35_1, rv_35_2, rv_35_3, rv_35_4, rv_35_5, rv_35_6, rv_20_0, rv_27_0, rv_32_0, rv_22_0, rv_22_1, rv_22_2, rv_22_3, rv_22_4, rv_29_0, rv_29_1, rv_29_2, rv_34_0, rv_43_0, rv_43_13, rv_43_14, rv_43_15, rv_43_16, rv_43_17, rv_43_18, rv_43_19, rv_43_20, rv_43_21, rv_43_22, rv_43_30, if_true, Option.bind_some, nm, q0, bv, show nI 3 = 3 from rfl, Fr_lo hF 48 (by omega), m4]
  · simp [fX10_tell_0, fX10_tell, xv_0, xv_1, xv_3, xv_4, xv_12, xv_20, xv_22, xv_27, xv_29, xv_32, xv_34, xv_35, xv_43, rv_0_0, rv_0_1, rv_0_2, rv_0_3, rv_0_4, rv_0_5, rv_0_6, rv_0_7, rv_1_0, rv_4_0, rv_4_1, rv_4_2, rv_4_3, rv_4_4, rv_4_5, rv_4_6, rv_12_0, rv_12_1, rv_12_2, rv_12_3, rv_12_4, rv_12_5, rv_12_6, rv_35_0, rv_35_1, rv_35_2, rv_35_3, rv_35_4, rv_35_5, rv_35_6, rv_20_0, rv_27_0, rv_32_0, rv_22_0, rv_22_1, rv_22_2, rv_22_3, rv_22_4, rv_29_0, rv_29_1, rv_29_2, rv_34_0, rv_43_0, rv_43_13, rv_43_14, rv_43_15, rv_43_16, rv_43_17, rv_43_18, rv_43_19, rv_43_20, rv_43_21, rv_43_22, rv_43_30, if_true, Option.bind_some, nm, q0, bv, show nI 4 = 4 from rfl, Fr_lo hF 49 (by omega), m5]
theorem mb20 (fu : Nat) {β : St} {j : Nat} (hj : j < 7) (k5 : Int64 → Int32 → St → Option (Int64 × St)) (x h : Int64) : ∀ (m k : Nat), k ≤ 5 → 5 - k < m → fX9_mixBlocks_20 fu k5 0 x m (fM (gB β j) h k) (nI j) (nI k) β = k5 (fM (gB β j) h 5) (nI (j + 1)) β := by
  intro m
  induction m with
  | zero => intro k _ h; omega
  | succ m ih =>
    intro k hk hm
    show fX9_mixBlocks_20b fu k5 (fX9_mixBlocks_20 fu k5 0 x m) 0 x _ (nI j) (nI k) β = _
    unfold fX9_mixBlocks_20b
    by_cases c : k < 5
    · rw [if_neg (show ¬ (4 : Int32) < nI k from nI_nlt (a := 4) (by omega) (by omega)), rv_0_2, told_c fu hj c]
      simp only [Option.bind_some, nm, mix_eq]
      rw [nI_1]
      exact ih (k + 1) (by omega) (by omega)
    · have : k = 5 := by omega
      subst this
      rw [if_pos (show (4 : Int32) < nI 5 by decide)]
      simp only [nm]
      rw [nI_1]
theorem dg42 (fu : Nat) {β τ : St} {n j : Nat} (hn : n ≤ 7) (hM : Mo β n) (hF : Fr β τ) (hj : j < n) (k32 : Int32 → St → Option (Int64 × St)) (h : Int64) : ∀ (m k : Nat), k ≤ 5 → 5 - k < m → fX10_digest_42 fu k32 43 m (nI j) (nI k) (sl τ (fM (gB β j) h k)) = k32 (nI (j + 1)) (sl τ (fM (gB β j) h 5)) := by
  intro m
  induction m with
  | zero => intro k _ h; omega
  | succ m ih =>
    intro k hk hm
    show fX10_digest_42b fu k32 (fX10_digest_42 fu k32 43 m) 43 (nI j) (nI k) _ = _
    unfold fX10_digest_42b
    by_cases c : k < 5
    · rw [if_neg (show ¬ (5 : Int32) ≤ nI k from nI_ge (b := 5) c (by omega)), tell_m fu hn hM (show Fr β (sl τ (fM (gB β j) h k)) from hF) hj c]
      simp only [Option.bind_some, nm, say_eq]
      rw [nI_1]
      exact ih (k + 1) (by omega) (by omega)
    · have : k = 5 := by omega
      subst this
      rw [if_pos (show (5 : Int32) ≤ nI 5 by decide)]
      simp only [nm]
      rw [nI_1]
theorem mb5 {fu : Nat} (hf : 100 ≤ fu) {β : St} {n : Nat} (hn : n ≤ 7) (hz : β.1 4 7 = nI n) (x h : Int64) : ∀ (m j : Nat), j ≤ n → n - j < m → fX9_mixBlocks_5 fu 0 x m (bl β h j) (nI j) β = some (bl β h n, β) := by
  intro m
  induction m with
  | zero => intro k _ h; omega
  | succ m ih =>
    intro j hj hm
    show fX9_mixBlocks_5b fu (fX9_mixBlocks_5 fu 0 x m) 0 x _ (nI j) β = _
    unfold fX9_mixBlocks_5b
    rw [rv_0_2, size_eq fu xv_4, hz]
    simp only [Option.bind_some]
    by_cases c : j < n
    · rw [if_neg (nI_ge c (by omega))]
      have := mb20 fu (β := β) (j := j) (by omega) (fX9_mixBlocks_5 fu 0 x m) x (bl β h j) fu 0 (by omega) (by omega)
      exact this.trans (ih (j + 1) (by omega) (by omega))
    · have : j = n := by omega
      subst this
      rw [if_pos (nI_le (Nat.le_refl _) (by omega))]
theorem dg32 {fu : Nat} (hf : 100 ≤ fu) {β τ : St} {n : Nat} (hn : n ≤ 7) (hM : Mo β n) (hF : Fr β τ) (h : Int64) : ∀ (m j : Nat), j ≤ n → n - j < m → fX10_digest_32 fu 43 m (nI j) (sl τ (bl β h j)) = fX10_digest_72 fu 43 fu 0 (sl τ (bl β h n)) := by
  have z : τ.1 43 12 = nI n := by rw [hF.2 12 (by omega) (by omega) (by omega) (by omega)]; exact hM.1
  intro m
  induction m with
  | zero => intro k _ h; omega
  | succ m ih =>
    intro j hj hm
    show fX10_digest_32b fu (fX10_digest_32 fu 43 m) 43 (nI j) _ = _
    unfold fX10_digest_32b
    rw [show (sl τ (bl β h j)).1 43 12 = nI n from z]
    by_cases c : j < n
    · rw [if_neg (nI_ge c (by omega))]
      have := dg42 fu hn hM hF c (fX10_digest_32 fu 43 m) (bl β h j) fu 0 (by omega) (by omega)
      exact this.trans (ih (j + 1) (by omega) (by omega))
    · have : j = n := by omega
      subst this
      rw [if_pos (nI_le (Nat.le_refl _) (by omega))]
/-- the law -/
def gL (β : St) (k : Nat) : Int64 := (β.1 3 k).toInt64
theorem ltold_c (fu : Nat) {β : St} {k : Nat} (hL : Lw β) (hk : k < 4) : fX4_told fu 3 (nI k) β = some (β.1 3 k, β) := by
  obtain ⟨g0, g1, g2, g3, e0, e1, e2, e3⟩ := hL
  rcases k4c hk with rfl | rfl | rfl | rfl
  · rcases g0 with g | g <;> simp [fX4_told_40, fX4_told_53, fX4_told_66, fX4_told_0, fX4_told, xv_0, xv_1, xv_3, xv_4, xv_12, xv_20, xv_22, xv_27, xv_29, xv_32, xv_34, xv_35, xv_43, rv_0_0, rv_0_1, rv_0_2, rv_0_3, rv_0_4, rv_0_5, rv_0_6, rv_0_7, rv_1_0, rv_4_0, rv_4_1, rv_4_2, rv_4_3, rv_4_4, rv_4_5, rv_4_6, rv_12_0, rv_12_1, rv_12_2, rv_12_3, rv_12_4, rv_12_5, rv_12_6, rv_35_0, rv_35_1, rv_35_2, rv_35_3, rv_35_4, rv_35_5, rv_35_6, rv_20_0, rv_27_0, rv_32_0, rv_22_0, rv_22_1, rv_22_2, rv_22_3, rv_22_4, rv_29_0, rv_29_1, rv_29_2, rv_34_0, rv_43_0, rv_43_13, rv_43_14, rv_43_15, rv_43_16, rv_43_17, rv_43_18, rv_43_19, rv_43_20, rv_43_21, rv_43_22, rv_43_30, if_true, Option.bind_some, nm, show nI 0 = 0 from rfl, g]
  · rcases g1 with g | g <;> simp [fX4_told_40, fX4_told_53, fX4_told_66, fX4_told_0, fX4_told, xv_0, xv_1, xv_3, xv_4, xv_12, xv_20, xv_22, xv_27, xv_29, xv_32, xv_34, xv_35, xv_43, rv_0_0, rv_0_1, rv_0_2, rv_0_3, rv_0_4, rv_0_5, rv_0_6, rv_0_7, rv_1_0, rv_4_0, rv_4_1, rv_4_2, rv_4_3, rv_4_4, rv_4_5, rv_4_6, rv_12_0, rv_12_1, rv_12_2, rv_12_3, rv_12_4, rv_12_5, rv_12_6, rv_35_0, rv_35_1, rv_35_2, rv_35_3, rv_35_4, rv_35_5, rv_35_6, rv_20_0, rv_27_0, rv_32_0, rv_22_0, rv_22_1, rv_22_2, rv_22_3, rv_22_4, rv_29_0, rv_29_1, rv_29_2, rv_34_0, rv_43_0, rv_43_13, rv_43_14, rv_43_15, rv_43_16, rv_43_17, rv_43_18, rv_43_19, rv_43_20, rv_43_21, rv_43_22, rv_43_30, if_true, Option.bind_some, nm, show nI 1 = 1 from rfl, g]
  · rcases g2 with g | g <;> simp [fX4_told_40, fX4_told_53, fX4_told_66, fX4_told_0, fX4_told, xv_0, xv_1, xv_3, xv_4, xv_12, xv_20, xv_22, xv_27, xv_29, xv_32, xv_34, xv_35, xv_43, rv_0_0, rv_0_1, rv_0_2, rv_0_3, rv_0_4, rv_0_5, rv_0_6, rv_0_7, rv_1_0, rv_4_0, rv_4_1, rv_4_2, rv_4_3, rv_4_4, rv_4_5, rv_4_6, rv_12_0, rv_12_1, rv_12_2, rv_12_3, rv_12_4, rv_12_5, rv_12_6, rv_35_0, rv_35_1, rv_35_2, rv_35_3, rv_35_4, rv_35_5, rv_35_6, rv_20_0, rv_27_0, rv_32_0, rv_22_0, rv_22_1, rv_22_2, rv_22_3, rv_22_4, rv_29_0, rv_29_1, rv_29_2, rv_34_0, rv_43_0, rv_43_13, rv_43_14, rv_43_15, rv_43_16, rv_43_17, rv_43_18, rv_43_19, rv_43_20, rv_43_21, rv_43_22, rv_43_30, if_true, Option.bind_some, nm, show nI 2 = 2 from rfl, g]
  · simp [fX4_told_40, fX4_told_53, fX4_told_66, fX4_told_0, fX4_told, xv_0, xv_1, xv_3, xv_4, xv_12, xv_20, xv_22, xv_27, xv_29, xv_32, xv_34, xv_35, xv_43, rv_0_0, rv_0_1, rv_0_2, rv_0_3, rv_0_4, rv_0_5, rv_0_6, rv_0_7, rv_1_0, rv_4_0, rv_4_1, rv_4_2, rv_4_3, rv_4_4, rv_4_5, rv_4_6, rv_12_0, rv_12_1, rv_12_2, rv_12_3, rv_12_4, rv_12_5, rv_12_6, rv_35_0, rv_35_1, rv_35_2, rv_35_3, rv_35_4, rv_35_5, rv_35_6, rv_20_0, rv_27_0, rv_32_0, rv_22_0, rv_22_1, rv_22_2, rv_22_3, rv_22_4, rv_29_0, rv_29_1, rv_29_2, rv_34_0, rv_43_0, rv_43_13, rv_43_14, rv_43_15, rv_43_16, rv_43_17, rv_43_18, rv_43_19, rv_43_20, rv_43_21, rv_43_22, rv_43_30, if_true, Option.bind_some, nm, show nI 3 = 3 from rfl]
theorem ltell_m (fu : Nat) {β τ : St} {k : Nat} (hL : Lw β) (hF : Fr β τ) (hk : k < 4) : fX10_tellLaw fu 43 (nI k) τ = some (β.1 3 k, τ) := by
  obtain ⟨g0, g1, g2, g3, e0, e1, e2, e3⟩ := hL
  rcases k4c hk with rfl | rfl | rfl | rfl
  · simp [fX10_tellLaw_49, fX10_tellLaw_0, fX10_tellLaw, xv_0, xv_1, xv_3, xv_4, xv_12, xv_20, xv_22, xv_27, xv_29, xv_32, xv_34, xv_35, xv_43, rv_0_0, rv_0_1, rv_0_2, rv_0_3, rv_0_4, rv_0_5, rv_0_6, rv_0_7, rv_1_0, rv_4_0, rv_4_1, rv_4_2, rv_4_3, rv_4_4, rv_4_5, rv_4_6, rv_12_0, rv_12_1, rv_12_2, rv_12_3, rv_12_4, rv_12_5, rv_12_6, rv_35_0, rv_35_1, rv_35_2, rv_35_3, rv_35_4, rv_35_5, rv_35_6, rv_20_0, rv_27_0, rv_32_0, rv_22_0, rv_22_1, rv_22_2, rv_22_3, rv_22_4, rv_29_0, rv_29_1, rv_29_2, rv_34_0, rv_43_0, rv_43_13, rv_43_14, rv_43_15, rv_43_16, rv_43_17, rv_43_18, rv_43_19, rv_43_20, rv_43_21, rv_43_22, rv_43_30, if_true, Option.bind_some, nm, show nI 0 = 0 from rfl, hF.2 2 (by omega) (by omega) (by omega) (by omega), e0]
  · simp [fX10_tellLaw_49, fX10_tellLaw_0, fX10_tellLaw, xv_0, xv_1, xv_3, xv_4, xv_12, xv_20, xv_22, xv_27, xv_29, xv_32, xv_34, xv_35, xv_43, rv_0_0, rv_0_1, rv_0_2, rv_0_3, rv_0_4, rv_0_5, rv_0_6, rv_0_7, rv_1_0, rv_4_0, rv_4_1, rv_4_2, rv_4_3, rv_4_4, rv_4_5, rv_4_6, rv_12_0, rv_12_1, rv_12_2, rv_12_3, rv_12_4, rv_12_5, rv_12_6, rv_35_0, rv_35_1, rv_35_2, rv_35_3, rv_35_4, rv_35_5, rv_35_6, rv_20_0, rv_27_0, rv_32_0, rv_22_0, rv_22_1, rv_22_2, rv_22_3, rv_22_4, rv_29_0, rv_29_1, rv_29_2, rv_34_0, rv_43_0, rv_43_13, rv_43_14, rv_43_15, rv_43_16, rv_43_17, rv_43_18, rv_43_19, rv_43_20, rv_43_21, rv_43_22, rv_43_30, if_true, Option.bind_some, nm, show nI 1 = 1 from rfl, hF.2 3 (by omega) (by omega) (by omega) (by omega), e1]
  · simp [fX10_tellLaw_49, fX10_tellLaw_0, fX10_tellLaw, xv_0, xv_1, xv_3, xv_4, xv_12, xv_20, xv_22, xv_27, xv_29, xv_32, xv_34, xv_35, xv_43, rv_0_0, rv_0_1, rv_0_2, rv_0_3, rv_0_4, rv_0_5, rv_0_6, rv_0_7, rv_1_0, rv_4_0, rv_4_1, rv_4_2, rv_4_3, rv_4_4, rv_4_5, rv_4_6, rv_12_0, rv_12_1, rv_12_2, rv_12_3, rv_12_4, rv_12_5, rv_12_6, rv_35_0, rv_35_1, rv_35_2, rv_35_3, rv_35_4, rv_35_5, rv_35_6, rv_20_0, rv_27_0, rv_32_0, rv_22_0, rv_22_1, rv_22_2, rv_22_3, rv_22_4, rv_29_0, rv_29_1, rv_29_2, rv_34_0, rv_43_0, rv_43_13, rv_43_14, rv_43_15, rv_43_16, rv_43_17, rv_43_18, rv_43_19, rv_43_20, rv_43_21, rv_43_22, rv_43_30, if_true, Option.bind_some, nm, show nI 2 = 2 from rfl, hF.2 4 (by omega) (by omega) (by omega) (by omega), e2]
  · simp [fX10_tellLaw_49, fX10_tellLaw_0, fX10_tellLaw, xv_0, xv_1, xv_3, xv_4, xv_12, xv_20, xv_22, xv_27, xv_29, xv_32, xv_34, xv_35, xv_43, rv_0_0, rv_0_1, rv_0_2, rv_0_3, rv_0_4, rv_0_5, rv_0_6, rv_0_7, rv_1_0, rv_4_0, rv_4_1, rv_4_2, rv_4_3, rv_4_4, rv_4_5, rv_4_6, rv_12_0, rv_12_1, rv_12_2, rv_12_3, rv_12_4, rv_12_5, rv_12_6, rv_35_0, rv_35_1, rv_35_2, rv_35_3, rv_35_4, rv_35_5, rv_35_6, rv_20_0, rv_27_0, rv_32_0, rv_22_0, rv_22_1, rv_22_2, rv_22_3, rv_22_4, rv_29_0, rv_29_1, rv_29_2, rv_34_0, rv_43_0, rv_43_13, rv_43_14, rv_43_15, rv_43_16, rv_43_17, rv_43_18, rv_43_19, rv_43_20, rv_43_21, rv_43_22, rv_43_30, if_true, Option.bind_some, nm, show nI 3 = 3 from rfl, hF.2 5 (by omega) (by omega) (by omega) (by omega), e3]
theorem dg6 {fu : Nat} (β : St) (hL : Lw β) (h : Int64) : ∀ (m k : Nat), k ≤ 4 → 4 - k < m → fX9_digest_6 fu 0 m (fM (gL β) h k) (nI k) β = ((fX9_mixBlocks fu 0 (fM (gL β) h 4) β).bind fun q102 => fX9_digest_39 fu 0 fu q102.1 0 q102.2) := by
  intro m
  induction m with
  | zero => intro k _ h; omega
  | succ m ih =>
    intro k hk hm
    show fX9_digest_6b fu (fX9_digest_6 fu 0 m) 0 _ (nI k) β = _
    unfold fX9_digest_6b
    by_cases c : k < 4
    · rw [if_neg (show ¬ (3 : Int32) < nI k from nI_nlt (a := 3) (by omega) (by omega)), rv_0_1, ltold_c fu hL c]
      simp only [Option.bind_some, nm, mix_eq]
      rw [nI_1]
      exact ih (k + 1) (by omega) (by omega)
    · have : k = 4 := by omega
      subst this
      rw [if_pos (show (3 : Int32) < nI 4 by decide)]
theorem dg9 {fu : Nat} {β τ : St} (hL : Lw β) (hF : Fr β τ) (h : Int64) : ∀ (m k : Nat), k ≤ 4 → 4 - k < m → fX10_digest_9 fu 43 m (nI k) (sl τ (fM (gL β) h k)) = fX10_digest_32 fu 43 fu 0 (sl τ (fM (gL β) h 4)) := by
  intro m
  induction m with
  | zero => intro k _ h; omega
  | succ m ih =>
    intro k hk hm
    show fX10_digest_9b fu (fX10_digest_9 fu 43 m) 43 (nI k) _ = _
    unfold fX10_digest_9b
    by_cases c : k < 4
    · rw [if_neg (show ¬ (4 : Int32) ≤ nI k from nI_ge (b := 4) c (by omega)), ltell_m fu hL (show Fr β (sl τ (fM (gL β) h k)) from hF) c]
      simp only [Option.bind_some, nm, say_eq]
      rw [nI_1]
      exact ih (k + 1) (by omega) (by omega)
    · have : k = 4 := by omega
      subst this
      rw [if_pos (show (4 : Int32) ≤ nI 4 by decide)]
theorem sm_digest {fu : Nat} (hf : 100 ≤ fu) : Sm_digest fu Inv := by
  intro σ hI
  obtain ⟨⟨n, hW, hM⟩, hP, hL, hC, hIm⟩ := id hI
  obtain ⟨l, hl, hl1, hl2, hl3⟩ := id hP
  obtain ⟨hn, hz, w1, w2, w3, w4⟩ := id hW
  obtain ⟨H, eH⟩ : ∃ H, H = fM (gW σ) (bl σ (fM (gL σ) 599 4) n) 7 := ⟨_, rfl⟩
  have c1 : fX9_digest fu 0 σ = D39 fu H σ := by
    unfold fX9_digest fX9_digest_0
    rw [if_pos xv_0]
    have a := dg6 (fu := fu) σ hL 599 fu 0 (by omega) (by omega)
    have b : fX9_mixBlocks fu 0 (fM (gL σ) 599 4) σ = some (bl σ (fM (gL σ) 599 4) n, σ) := by
      unfold fX9_mixBlocks fX9_mixBlocks_0
      rw [if_pos xv_0]
      exact mb5 hf hn hz _ _ fu 0 (by omega) (by omega)
    have c := dg39 (fu := fu) σ (bl σ (fM (gL σ) 599 4) n) fu 0 (by omega) (by omega)
    rw [b] at a
    rw [eH]
    exact a.trans c
  have c2 : ∀ τ, Fr σ τ → fX10_digest fu 43 τ = D72 fu (sl τ H) := by
    intro τ hF
    unfold fX10_digest fX10_digest_0
    rw [if_pos xv_43]
    have a := dg9 (fu := fu) hL hF 599 fu 0 (by omega) (by omega)
    have b := dg32 hf hn hM hF (fM (gL σ) 599 4) fu 0 (by omega) (by omega)
    have c := dg72 (fu := fu) hM hF (bl σ (fM (gL σ) 599 4) n) fu 0 (by omega) (by omega)
    rw [eH]
    exact a.trans (b.trans c)
  have s1 := isTooShort_eq fu hn hz
  by_cases h : n < 2
  · rw [if_pos h] at s1
    have a := tail_c hf hW hl hl1 (Fr.rf σ) H
    have s2 := lacks_eq fu hn (show (sl σ H).1 43 12 = nI n from hM.1)
    rw [if_pos h] at s2
    have b := tail_m hf hW hM hP hC hl hl2 hl3 (show Fr σ (sl σ H) from Fr.rf σ) (h := H) rfl
    refine ⟨(fM (gC σ n) (fM (fun i => (σ.1 2 i).toInt64) H l) 7, σ), (fM (gC σ n) (fM (fun i => (σ.1 2 i).toInt64) H l) 7, sl (sl σ H) (fM (gC σ n) (fM (fun i => (σ.1 2 i).toInt64) H l) 7)), c1.trans ?_, (c2 σ (Fr.rf σ)).trans ?_, rfl, hI⟩
    · unfold D39
      rw [s1]
      exact a
    · unfold D72
      rw [s2]
      exact b
  · rw [if_neg h] at s1
    obtain ⟨h', σ', k1, k2, k3⟩ := street_eq hf (by omega) hW hM hL H 0
    have a := tail_c hf hW hl hl1 k2 h'
    have s2 := lacks_eq fu hn (show (sl σ' H).1 43 12 = nI n from by
      show σ'.1 43 12 = _
      rw [k2.2 12 (by omega) (by omega) (by omega) (by omega)]; exact hM.1)
    rw [if_neg h] at s2
    obtain ⟨τ', t1, t2, t3⟩ := k3 (sl σ' H) k2 rfl
    have b := tail_m hf hW hM hP hC hl hl2 hl3 t3 t2
    refine ⟨(fM (gC σ n) (fM (fun i => (σ.1 2 i).toInt64) h' l) 7, σ'), (fM (gC σ n) (fM (fun i => (σ.1 2 i).toInt64) h' l) 7, sl τ' (fM (gC σ n) (fM (fun i => (σ.1 2 i).toInt64) h' l) 7)), c1.trans ?_, (c2 σ' k2).trans ?_, rfl, Inv_Fr (show Fr σ (sl τ' _) from t3) hI⟩
    · unfold D39
      rw [s1]
      simp only [Option.bind_some]
      rw [if_pos trivial, k1]
      exact a
    · unfold D72
      rw [s2]
      simp only [Option.bind_some]
      rw [if_pos trivial, t1]
      exact b
