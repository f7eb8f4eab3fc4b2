/-! the law as a text -/
def prt (c : Int32) : Int32 := if c = 109 then 4 else if c = 110 then 1 else if c = 116 then 2 else if c = 119 then 3 else 0
def rb (s c : Int32) : Int32 := if s = 4 then (if c < 49 ∨ 57 < c then -1 else 5) else if prt c ≤ s then -1 else prt c
theorem partOf_eq (fu : Nat) (c : Int32) (σ : St) : fX7_partOf fu c σ = some (prt c, σ) := by
  simp only [fX7_partOf_0, fX7_partOf, prt]
  split
  · rfl
  · split
    · rfl
    · split
      · rfl
      · split <;> rfl
theorem reachedBy_eq (fu : Nat) (s c : Int32) (σ : St) : fX7_reachedBy fu s c σ = some (rb s c, σ) := by
  simp only [fX7_reachedBy_21, fX7_reachedBy_37, fX7_reachedBy_0, fX7_reachedBy, rb, isWithin_eq, partOf_eq, Option.bind_some]
  by_cases h : s = 4
  · rw [if_pos h, if_pos h]
    by_cases h2 : c < 49 ∨ 57 < c
    · rw [if_pos h2, if_pos h2]; rfl
    · rw [if_neg h2, if_neg h2]; rfl
  · rw [if_neg h, if_neg h]
    by_cases h2 : prt c ≤ s
    · rw [if_pos h2, if_pos h2]
    · rw [if_neg h2, if_neg h2]
def Rr (c : Nat → Int32) : Nat → Int32
  | 0 => 0
  | i + 1 => rb (Rr c i) (c i)
def Nf (c : Nat → Int32) : Nat → Int32
  | 0 => 0
  | i + 1 => if Rr c (i + 1) = 1 then 1 else Nf c i
def Tf (c : Nat → Int32) : Nat → Int32
  | 0 => 0
  | i + 1 => if Rr c (i + 1) = 2 then 1 else Tf c i
def Wf (c : Nat → Int32) : Nat → Int32
  | 0 => 0
  | i + 1 => if Rr c (i + 1) = 3 then 1 else Wf c i
def Mf (c : Nat → Int32) : Nat → Int32
  | 0 => 10
  | i + 1 => if Rr c (i + 1) = 5 then c i - 48 else Mf c i
/-- r is where the page is wrong (k: nowhere) -/
def isFw (c : Nat → Int32) (k r : Nat) : Prop := r ≤ k ∧ (∀ j, j < r → ¬ Rr c (j + 1) = -1) ∧ (r = k ∨ Rr c (r + 1) = -1)
theorem fw_ex (c : Nat → Int32) (k : Nat) : ∃ r, isFw c k r := by
  induction k with
  | zero => exact ⟨0, Nat.le_refl _, fun j h => by omega, Or.inl rfl⟩
  | succ k ih =>
    obtain ⟨r, h1, h2, h3⟩ := ih
    rcases h3 with h3 | h3
    · subst h3
      by_cases h : Rr c (r + 1) = -1
      · exact ⟨r, by omega, h2, Or.inr h⟩
      · refine ⟨r + 1, by omega, fun j hj => ?_, Or.inl rfl⟩
        rcases Nat.lt_or_ge j r with q | q
        · exact h2 j q
        · have : j = r := by omega
          subst this; exact h
    · exact ⟨r, by omega, h2, Or.inr h3⟩
theorem prt_cases (c : Int32) : prt c = 0 ∨ prt c = 1 ∨ prt c = 2 ∨ prt c = 3 ∨ prt c = 4 := by
  unfold prt
  split
  · simp
  · split
    · simp
    · split
      · simp
      · split <;> simp
/-- what a reader has reached: 0 to 5 -/
theorem rb_ok {s c : Int32} (h : ¬ rb s c = -1) : rb s c = 5 ∨ (¬ s = 4 ∧ rb s c = prt c ∧ s < prt c) := by
  unfold rb at h ⊢
  by_cases h1 : s = 4
  · rw [if_pos h1] at h ⊢
    by_cases h2 : c < 49 ∨ 57 < c
    · rw [if_pos h2] at h; exact absurd rfl h
    · rw [if_neg h2]; exact Or.inl rfl
  · rw [if_neg h1] at h ⊢
    by_cases h2 : prt c ≤ s
    · rw [if_pos h2] at h; exact absurd rfl h
    · rw [if_neg h2]
      exact Or.inr ⟨h1, rfl, not_le_lt.mp h2⟩
theorem Rr_ok {c : Nat → Int32} {k r : Nat} (h : isFw c k r) : ∀ i, i ≤ r → Rr c i = 0 ∨ Rr c i = 1 ∨ Rr c i = 2 ∨ Rr c i = 3 ∨ Rr c i = 4 ∨ Rr c i = 5 := by
  intro i
  cases i with
  | zero => intro _; exact Or.inl rfl
  | succ i =>
    intro hi
    have h1 := h.2.1 i (by omega)
    rcases rb_ok (s := Rr c i) (c := c i) h1 with q | ⟨_, q, _⟩
    · exact Or.inr (Or.inr (Or.inr (Or.inr (Or.inr q))))
    · have : Rr c (i + 1) = prt (c i) := q
      rw [this]
      rcases prt_cases (c i) with g | g | g | g | g <;> simp [g]
theorem firstWrong_lp (fu : Nat) {k r : Nat} {σ : St} (hk : k ≤ 16) (hz : σ.1 1 1 = nI k) (h : isFw (σ.1 2) k r) : ∀ (m i : Nat), i ≤ r → k - i < m → fX7_firstWrong_4 fu 1 m (Rr (σ.1 2) i) (nI i) σ = some (nI r, σ) := by
  intro m
  induction m with
  | zero => intro i h1 h2; omega
  | succ m ih =>
    intro i h1 h2
    show fX7_firstWrong_4b fu (fX7_firstWrong_4 fu 1 m) 1 (Rr (σ.1 2) i) (nI i) σ = _
    unfold fX7_firstWrong_4b
    rw [hz]
    obtain ⟨g1, g2, g3⟩ := h
    by_cases c : i < k
    · rw [if_neg (nI_ge c (by omega)), rv_1_0, ald_nI (by omega) (by omega)]
      simp only [Option.bind_some, reachedBy_eq, nm]
      by_cases d : i < r
      · rw [if_neg (show ¬ rb (Rr (σ.1 2) i) (σ.1 2 i) = -1 from g2 i d), nI_1]
        exact ih (i + 1) (by omega) (by omega)
      · have : i = r := by omega
        subst this
        rcases g3 with g3 | g3
        · omega
        · rw [if_pos (show rb (Rr (σ.1 2) i) (σ.1 2 i) = -1 from g3)]
    · have : i = k := by omega
      have : r = k := by omega
      subst this
      rw [if_pos (nI_le (by omega) (by omega))]
theorem firstWrong_eq {fu : Nat} (hf : 100 ≤ fu) {k r : Nat} {σ : St} (hk : k ≤ 16) (hz : σ.1 1 1 = nI k) (h : isFw (σ.1 2) k r) : fX7_firstWrong fu 1 σ = some (nI r, σ) := by
  unfold fX7_firstWrong fX7_firstWrong_0
  rw [if_pos xv_1]
  exact firstWrong_lp fu hk hz h fu 0 (by omega) (by omega)
/-- the reference's reader: its own fields -/
def Gs (σ : St) (c : Nat → Int32) (i : Nat) (τ : St) : Prop := τ.2 = σ.2 ∧ (∀ r, r ≠ 43 → τ.1 r = σ.1 r) ∧ (∀ j, j < 7 ∨ 11 < j → τ.1 43 j = σ.1 43 j) ∧ τ.1 43 7 = Rr c i ∧ τ.1 43 8 = Nf c i ∧ τ.1 43 9 = Tf c i ∧ τ.1 43 10 = Wf c i ∧ τ.1 43 11 = Mf c i
/-- the reference's reader: anything in its own fields -/
def G0 (σ τ : St) : Prop := τ.2 = σ.2 ∧ (∀ r, r ≠ 43 → τ.1 r = σ.1 r) ∧ ∀ j, j < 7 ∨ 11 < j → τ.1 43 j = σ.1 43 j
theorem go_eq (fu : Nat) {c : Nat → Int32} {i : Nat} {σ τ : St} (hg : Gs σ c i τ) (hs : Rr c i = 0 ∨ Rr c i = 1 ∨ Rr c i = 2 ∨ Rr c i = 3 ∨ Rr c i = 4 ∨ Rr c i = 5) : (¬ Rr c (i + 1) = -1 → ∃ τ', fX10_go fu 43 (c i) τ = some (1, τ') ∧ Gs σ c (i + 1) τ') ∧ (Rr c (i + 1) = -1 → ∃ τ', fX10_go fu 43 (c i) τ = some (0, τ') ∧ G0 σ τ') := by
  obtain ⟨h0, h1, h2, h3, h4, h5, h6, h7⟩ := hg
  have hstep : Rr c (i + 1) = rb (Rr c i) (c i) := rfl
  have hin : ∀ τ, fX10_in fu (c i).toInt64 49 57 τ = some (if c i < 49 ∨ 57 < c i then 0 else 1, τ) := fun τ => in_eq32 fu (c i) 49 57 τ
  by_cases s4 : Rr c i = 4
  · have e : fX10_go fu 43 (c i) τ = some (if c i < 49 ∨ 57 < c i then 0 else 1, si (si τ 43 11 (c i - 48)) 43 7 5) := by
      simp only [fX10_go, fX10_go_0, xv_0, xv_1, xv_3, xv_4, xv_12, xv_20, xv_22, xv_27, xv_29, xv_32, xv_34, xv_35, xv_43, rv_0_0, rv_0_1, rv_0_2, rv_0_3, rv_0_4, rv_0_5, rv_0_6, rv_0_7, rv_1_0, rv_4_0, rv_4_1, rv_4_2, rv_4_3, rv_4_4, rv_4_5, rv_4_6, rv_12_0, rv_12_1, rv_12_2, rv_12_3, rv_12_4, rv_12_5, rv_12_6, rv_35_0, rv_35_1, rv_35_2, rv_35_3, rv_35_4, rv_35_5, rv_35_6, rv_20_0, rv_27_0, rv_32_0, rv_22_0, rv_22_1, rv_22_2, rv_22_3, rv_22_4, rv_29_0, rv_29_1, rv_29_2, rv_34_0, rv_43_0, rv_43_13, rv_43_14, rv_43_15, rv_43_16, rv_43_17, rv_43_18, rv_43_19, rv_43_20, rv_43_21, rv_43_22, rv_43_30, if_true, Option.bind_some, nm, h3, s4, hin]
      by_cases q : c i < 49 ∨ 57 < c i <;> simp [q]
    have hb : rb (Rr c i) (c i) = if c i < 49 ∨ 57 < c i then -1 else 5 := by unfold rb; rw [if_pos s4]
    have fr : (∀ r, r ≠ 43 → (si (si τ 43 11 (c i - 48)) 43 7 5).1 r = σ.1 r) := fun r hr => by
      rw [si_row, if_neg hr, si_row, if_neg hr]; exact h1 r hr
    have fj : ∀ j, j < 7 ∨ 11 < j → (si (si τ 43 11 (c i - 48)) 43 7 5).1 43 j = σ.1 43 j := fun j hj => by
      show upd (upd (τ.1 43) 11 (c i - 48)) 7 5 j = _
      rw [upd_ne _ _ (by omega), upd_ne _ _ (by omega)]; exact h2 j hj
    refine ⟨fun q => ?_, fun q => ?_⟩
    · rw [hstep, hb] at q
      by_cases z : c i < 49 ∨ 57 < c i
      · rw [if_pos z] at q; exact absurd rfl q
      rw [if_neg z] at hb e
      refine ⟨_, e, h0, fr, fj, ?_, ?_, ?_, ?_, ?_⟩
      · rw [hstep, hb]; rfl
      · show upd (upd (τ.1 43) 11 (c i - 48)) 7 5 8 = if Rr c (i + 1) = 1 then 1 else Nf c i
        rw [hstep, hb, if_neg (by decide)]; exact h4
      · show upd (upd (τ.1 43) 11 (c i - 48)) 7 5 9 = if Rr c (i + 1) = 2 then 1 else Tf c i
        rw [hstep, hb, if_neg (by decide)]; exact h5
      · show upd (upd (τ.1 43) 11 (c i - 48)) 7 5 10 = if Rr c (i + 1) = 3 then 1 else Wf c i
        rw [hstep, hb, if_neg (by decide)]; exact h6
      · show upd (upd (τ.1 43) 11 (c i - 48)) 7 5 11 = if Rr c (i + 1) = 5 then c i - 48 else Mf c i
        rw [hstep, hb, if_pos rfl]; rfl
    · rw [hstep, hb] at q
      by_cases z : c i < 49 ∨ 57 < c i
      · rw [if_pos z] at e
        exact ⟨_, e, h0, fr, fj⟩
      · rw [if_neg z] at q; exact absurd q (by decide)
  · have hb : rb (Rr c i) (c i) = if prt (c i) ≤ Rr c i then -1 else prt (c i) := by unfold rb; rw [if_neg s4]
    by_cases d : prt (c i) ≤ Rr c i
    · rw [if_pos d] at hb
      refine ⟨fun q => absurd (hstep.trans hb) q, fun _ => ⟨τ, ?_, h0, h1, h2⟩⟩
      simp only [fX10_go, fX10_go_0, fX10_go_74, fX10_go_88, xv_0, xv_1, xv_3, xv_4, xv_12, xv_20, xv_22, xv_27, xv_29, xv_32, xv_34, xv_35, xv_43, rv_0_0, rv_0_1, rv_0_2, rv_0_3, rv_0_4, rv_0_5, rv_0_6, rv_0_7, rv_1_0, rv_4_0, rv_4_1, rv_4_2, rv_4_3, rv_4_4, rv_4_5, rv_4_6, rv_12_0, rv_12_1, rv_12_2, rv_12_3, rv_12_4, rv_12_5, rv_12_6, rv_35_0, rv_35_1, rv_35_2, rv_35_3, rv_35_4, rv_35_5, rv_35_6, rv_20_0, rv_27_0, rv_32_0, rv_22_0, rv_22_1, rv_22_2, rv_22_3, rv_22_4, rv_29_0, rv_29_1, rv_29_2, rv_34_0, rv_43_0, rv_43_13, rv_43_14, rv_43_15, rv_43_16, rv_43_17, rv_43_18, rv_43_19, rv_43_20, rv_43_21, rv_43_22, rv_43_30, if_true, Option.bind_some, nm, h3]
      rw [if_neg s4]
      have dd : ∀ v : Int32, prt (c i) = v → ¬ Rr c i < v := fun v hv q => by
        rw [hv] at d
        exact not_le_lt.mpr q d
      by_cases c1 : c i = 110
      · rw [if_pos c1, if_neg (by decide), if_neg (dd 1 (by rw [c1]; rfl))]
      rw [if_neg c1]
      by_cases c2 : c i = 116
      · rw [if_pos c2, if_neg (by decide), if_neg (dd 2 (by rw [c2]; rfl))]
      rw [if_neg c2]
      by_cases c3 : c i = 119
      · rw [if_pos c3, if_neg (by decide), if_neg (dd 3 (by rw [c3]; rfl))]
      rw [if_neg c3]
      by_cases c4 : c i = 109
      · rw [if_pos c4, if_neg (by decide), if_neg (dd 4 (by rw [c4]; rfl))]
      · rw [if_neg c4]
    · rw [if_neg d] at hb
      have dl : Rr c i < prt (c i) := not_le_lt.mp d
      have p0 : ¬ prt (c i) = 0 := by
        intro q
        rw [q] at d
        apply d
        rcases hs with g | g | g | g | g | g <;> rw [g] <;> decide
      refine ⟨fun _ => ?_, fun q => ?_⟩
      · have hR : Rr c (i + 1) = prt (c i) := hstep.trans hb
        have key : ∀ (v a b w : Int32), prt (c i) = v → (v = 1 ∨ v = 2 ∨ v = 3 ∨ v = 4) → a = (if v = 1 then 1 else Nf c i) → b = (if v = 2 then 1 else Tf c i) → w = (if v = 3 then 1 else Wf c i) → Gs σ c (i + 1) (si (si (si (si τ 43 8 a) 43 9 b) 43 10 w) 43 7 v) := by
          intro v a b w hv hv4 ha hb' hw
          refine ⟨h0, fun r hr => ?_, fun j hj => ?_, ?_, ?_, ?_, ?_, ?_⟩
          · simp only [si_row]; rw [if_neg hr, if_neg hr, if_neg hr, if_neg hr]; exact h1 r hr
          · show upd (upd (upd (upd (τ.1 43) 8 a) 9 b) 10 w) 7 v j = _
            rw [upd_ne _ _ (by omega), upd_ne _ _ (by omega), upd_ne _ _ (by omega), upd_ne _ _ (by omega)]; exact h2 j hj
          · rw [hR, hv]; rfl
          · show a = if Rr c (i + 1) = 1 then 1 else Nf c i
            rw [hR, hv]; exact ha
          · show b = if Rr c (i + 1) = 2 then 1 else Tf c i
            rw [hR, hv]; exact hb'
          · show w = if Rr c (i + 1) = 3 then 1 else Wf c i
            rw [hR, hv]; exact hw
          · show τ.1 43 11 = if Rr c (i + 1) = 5 then c i - 48 else Mf c i
            rw [hR, hv, if_neg (by rcases hv4 with g | g | g | g <;> rw [g] <;> decide)]; exact h7
        by_cases c1 : c i = 110
        · have hp : prt (c i) = 1 := by rw [c1]; rfl
          refine ⟨_, ?_, key 1 1 (Tf c i) (Wf c i) hp (Or.inl rfl) rfl rfl rfl⟩
          rw [hp] at dl
          simp [fX10_go_88, fX10_go_141, fX10_go_123, fX10_go_105, fX10_go_74, fX10_go_0, fX10_go, xv_0, xv_1, xv_3, xv_4, xv_12, xv_20, xv_22, xv_27, xv_29, xv_32, xv_34, xv_35, xv_43, rv_0_0, rv_0_1, rv_0_2, rv_0_3, rv_0_4, rv_0_5, rv_0_6, rv_0_7, rv_1_0, rv_4_0, rv_4_1, rv_4_2, rv_4_3, rv_4_4, rv_4_5, rv_4_6, rv_12_0, rv_12_1, rv_12_2, rv_12_3, rv_12_4, rv_12_5, rv_12_6, rv_35_0, rv_35_1, rv_35_2, rv_35_3, rv_35_4, rv_35_5, rv_35_6, rv_20_0, rv_27_0, rv_32_0, rv_22_0, rv_22_1, rv_22_2, rv_22_3, rv_22_4, rv_29_0, rv_29_1, rv_29_2, rv_34_0, rv_43_0, rv_43_13, rv_43_14, rv_43_15, rv_43_16, rv_43_17, rv_43_18, rv_43_19, rv_43_20, rv_43_21, rv_43_22, rv_43_30, if_true, Option.bind_some, nm, h3, s4, c1, dl, si_row, upd_app, h5, h6]
        by_cases c2 : c i = 116
        · have hp : prt (c i) = 2 := by rw [c2]; rfl
          refine ⟨_, ?_, key 2 (Nf c i) 1 (Wf c i) hp (Or.inr (Or.inl rfl)) rfl rfl rfl⟩
          rw [hp] at dl
          simp [fX10_go_88, fX10_go_141, fX10_go_123, fX10_go_105, fX10_go_74, fX10_go_0, fX10_go, xv_0, xv_1, xv_3, xv_4, xv_12, xv_20, xv_22, xv_27, xv_29, xv_32, xv_34, xv_35, xv_43, rv_0_0, rv_0_1, rv_0_2, rv_0_3, rv_0_4, rv_0_5, rv_0_6, rv_0_7, rv_1_0, rv_4_0, rv_4_1, rv_4_2, rv_4_3, rv_4_4, rv_4_5, rv_4_6, rv_12_0, rv_12_1, rv_12_2, rv_12_3, rv_12_4, rv_12_5, rv_12_6, rv_35_0, rv_35_1, rv_35_2, rv_35_3, rv_35_4, rv_35_5, rv_35_6, rv_20_0, rv_27_0, rv_32_0, rv_22_0, rv_22_1, rv_22_2, rv_22_3, rv_22_4, rv_29_0, rv_29_1, rv_29_2, rv_34_0, rv_43_0, rv_43_13, rv_43_14, rv_43_15, rv_43_16, rv_43_17, rv_43_18, rv_43_19, rv_43_20, rv_43_21, rv_43_22, rv_43_30, if_true, Option.bind_some, nm, h3, s4, c2, dl, si_row, upd_app, h4, h6]
        by_cases c3 : c i = 119
        · have hp : prt (c i) = 3 := by rw [c3]; rfl
          refine ⟨_, ?_, key 3 (Nf c i) (Tf c i) 1 hp (Or.inr (Or.inr (Or.inl rfl))) rfl rfl rfl⟩
          rw [hp] at dl
          simp [fX10_go_88, fX10_go_141, fX10_go_123, fX10_go_105, fX10_go_74, fX10_go_0, fX10_go, xv_0, xv_1, xv_3, xv_4, xv_12, xv_20, xv_22, xv_27, xv_29, xv_32, xv_34, xv_35, xv_43, rv_0_0, rv_0_1, rv_0_2, rv_0_3, rv_0_4, rv_0_5, rv_0_6, rv_0_7, rv_1_0, rv_4_0, rv_4_1, rv_4_2, rv_4_3, rv_4_4, rv_4_5, rv_4_6, rv_12_0, rv_12_1, rv_12_2, rv_12_3, rv_12_4, rv_12_5, rv_12_6, rv_35_0, rv_35_1, rv_35_2, rv_35_3, rv_35_4, rv_35_5, rv_35_6, rv_20_0, rv_27_0, rv_32_0, rv_22_0, rv_22_1, rv_22_2, rv_22_3, rv_22_4, rv_29_0, rv_29_1, rv_29_2, rv_34_0, rv_43_0, rv_43_13, rv_43_14, rv_43_15, rv_43_16, rv_43_17, rv_43_18, rv_43_19, rv_43_20, rv_43_21, rv_43_22, rv_43_30, if_true, Option.bind_some, nm, h3, s4, c3, dl, si_row, upd_app, h4, h5]
        by_cases c4 : c i = 109
        · have hp : prt (c i) = 4 := by rw [c4]; rfl
          refine ⟨_, ?_, key 4 (Nf c i) (Tf c i) (Wf c i) hp (Or.inr (Or.inr (Or.inr rfl))) rfl rfl rfl⟩
          rw [hp] at dl
          simp [fX10_go_88, fX10_go_141, fX10_go_123, fX10_go_105, fX10_go_74, fX10_go_0, fX10_go, xv_0, xv_1, xv_3, xv_4, xv_12, xv_20, xv_22, xv_27, xv_29, xv_32, xv_34, xv_35, xv_43, rv_0_0, rv_0_1, rv_0_2, rv_0_3, rv_0_4, rv_0_5, rv_0_6, rv_0_7, rv_1_0, rv_4_0, rv_4_1, rv_4_2, rv_4_3, rv_4_4, rv_4_5, rv_4_6, rv_12_0, rv_12_1, rv_12_2, rv_12_3, rv_12_4, rv_12_5, rv_12_6, rv_35_0, rv_35_1, rv_35_2, rv_35_3, rv_35_4, rv_35_5, rv_35_6, rv_20_0, rv_27_0, rv_32_0, rv_22_0, rv_22_1, rv_22_2, rv_22_3, rv_22_4, rv_29_0, rv_29_1, rv_29_2, rv_34_0, rv_43_0, rv_43_13, rv_43_14, rv_43_15, rv_43_16, rv_43_17, rv_43_18, rv_43_19, rv_43_20, rv_43_21, rv_43_22, rv_43_30, if_true, Option.bind_some, nm, h3, s4, c4, dl, si_row, upd_app, h4, h5, h6]
        · exact absurd (by unfold prt; rw [if_neg c4, if_neg c1, if_neg c2, if_neg c3]) p0
      · rw [hstep, hb] at q
        rcases prt_cases (c i) with g | g | g | g | g
        · exact absurd g p0
        all_goals (rw [g] at q; exact absurd q (by decide))
