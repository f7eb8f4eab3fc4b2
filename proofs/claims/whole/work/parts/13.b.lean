/-- only scratch has changed -/
def Fr (σ τ : St) : Prop := (∀ r, (r < 20 ∨ 42 < r) → r ≠ 43 → (r < 51 ∨ 54 < r) → τ.1 r = σ.1 r) ∧ ∀ j, (j < 7 ∨ 11 < j) → j ≠ 23 → j ≠ 24 → j ≠ 26 → τ.1 43 j = σ.1 43 j
theorem Fr.rf (σ : St) : Fr σ σ := ⟨fun _ _ _ _ => rfl, fun _ _ _ _ _ => rfl⟩
theorem Fr.tr {σ τ υ : St} (h1 : Fr σ τ) (h2 : Fr τ υ) : Fr σ υ := ⟨fun r a b c => (h2.1 r a b c).trans (h1.1 r a b c), fun j a b c d => (h2.2 j a b c d).trans (h1.2 j a b c d)⟩
theorem Fr.of {σ τ : St} (a b : Nat) (ha : 20 ≤ a ∧ b ≤ 42 ∨ 51 ≤ a ∧ b ≤ 54) (h : ∀ r, r < a ∨ b < r → τ.1 r = σ.1 r) : Fr σ τ := ⟨fun r h1 h2 h3 => h r (by omega), fun j _ _ _ _ => by rw [h 43 (by omega)]⟩
theorem Inv_Fr {σ τ : St} (h : Fr σ τ) (hI : Inv σ) : Inv τ := by
  obtain ⟨h1, h2⟩ := h
  obtain ⟨⟨n, hW, hM⟩, ⟨k, hk, hk1, hk2, hk3⟩, hL, hC, hIm⟩ := hI
  have g : ∀ r, r < 20 ∨ (43 < r ∧ r < 51) ∨ r = 55 → τ.1 r = σ.1 r := fun r hr => h1 r (by omega) (by omega) (by omega)
  have g43 : ∀ j, j < 7 ∨ j = 12 ∨ j = 25 ∨ (26 < j) → τ.1 43 j = σ.1 43 j := fun j hj => h2 j (by omega) (by omega) (by omega) (by omega)
  refine ⟨⟨n, WS_congr (fun i a b => g i (by omega)) hW, ?_, ?_, ?_⟩, ⟨k, hk, ?_, ?_, ?_⟩, ?_, ?_, ?_⟩
  · rw [g43 12 (by omega)]; exact hM.1
  · rw [g 45 (by omega), g 5 (by omega), g 46 (by omega), g 6 (by omega), g 47 (by omega), g 7 (by omega), g 48 (by omega), g 9 (by omega), g 49 (by omega), g 8 (by omega)]; exact hM.2.1
  · rw [g 50 (by omega), g 11 (by omega)]; exact hM.2.2
  · rw [g 1 (by omega)]; exact hk1
  · rw [g43 1 (by omega)]; exact hk2
  · rw [g 44 (by omega), g 2 (by omega)]; exact hk3
  · unfold Lw; rw [g 3 (by omega), g43 2 (by omega), g43 3 (by omega), g43 4 (by omega), g43 5 (by omega)]; exact hL
  · unfold Cn; rw [g 0 (by omega), g43 6 (by omega), g43 25 (by omega), g43 27 (by omega), g43 28 (by omega)]; exact hC
  · unfold Im
    rw [g 0 (by omega), g43 29 (by omega), g 55 (by omega), g 13 (by omega), g 14 (by omega), g 15 (by omega), g 16 (by omega), g 17 (by omega), g 19 (by omega)]
    rcases hIm with q | ⟨q1, m, q2, q3⟩
    · exact Or.inl q
    · exact Or.inr ⟨q1, m, WS_congr (fun i a b => g i (by omega)) q2, q3⟩
/-! bits of small numbers -/
theorem bt1 : ∀ d, d < 8 → (1 : Int32) <<< (nI d &&& 31) = nI (2 ^ d) := by decide +kernel
theorem bt2 : ∀ M, M < 256 → ∀ d, d < 8 → (((nI M >>> (nI d &&& 31)) &&& 1) = 1 ↔ M.testBit d = true) := by decide +kernel
theorem bt0 : ∀ M, M < 256 → ∀ d, d < 8 → (((nI M >>> (nI d &&& 31)) &&& 1) = 0 ↔ M.testBit d = false) := by decide +kernel
theorem or_lt {M d : Nat} (h : M < 256) (hd : d < 8) : M ||| 2 ^ d < 256 := Nat.or_lt_two_pow (n := 8) h (Nat.pow_lt_pow_right (by decide) hd)
theorem tb_or (M d k : Nat) : (M ||| 2 ^ d).testBit k = (M.testBit k || decide (d = k)) := by
  rw [Nat.testBit_or, Nat.testBit_two_pow]
/-- how many of the first n are in a set -/
def cS (M : Nat) : Nat → Nat
  | 0 => 0
  | n + 1 => cS M n + if M.testBit n = true then 1 else 0
theorem cS_le (M : Nat) : ∀ n, cS M n ≤ n
  | 0 => Nat.le_refl _
  | n + 1 => by
    have := cS_le M n
    show cS M n + (if M.testBit n = true then 1 else 0) ≤ n + 1
    split <;> omega
theorem cS_full (M : Nat) : ∀ n, (cS M n = n ↔ ∀ k, k < n → M.testBit k = true)
  | 0 => ⟨fun _ k h => by omega, fun _ => rfl⟩
  | n + 1 => by
    have h1 := cS_le M n
    have h2 := cS_full M n
    show cS M n + (if M.testBit n = true then 1 else 0) = n + 1 ↔ _
    constructor
    · intro h k hk
      by_cases c : M.testBit n = true
      · rcases Nat.lt_or_ge k n with q | q
        · rw [if_pos c] at h
          exact h2.mp (by omega) k q
        · have : k = n := by omega
          rw [this]; exact c
      · rw [if_neg c] at h; omega
    · intro h
      rw [if_pos (h n (by omega)), h2.mpr (fun k hk => h k (by omega))]
theorem cS_or (M d : Nat) : ∀ n, cS (M ||| 2 ^ d) n = cS M n + if d < n ∧ M.testBit d = false then 1 else 0
  | 0 => rfl
  | n + 1 => by
    show cS (M ||| 2 ^ d) n + (if (M ||| 2 ^ d).testBit n = true then 1 else 0) = cS M n + (if M.testBit n = true then 1 else 0) + _
    rw [cS_or M d n, tb_or]
    by_cases h : d = n
    · subst h
      cases e : M.testBit d <;> simp
    · have e1 : (d < n + 1 ∧ M.testBit d = false) ↔ (d < n ∧ M.testBit d = false) := by constructor <;> (intro q; exact ⟨by omega, q.2⟩)
      simp only [h, decide_false, Bool.or_false, e1]
      omega
theorem eq_full {M n : Nat} (hn : n ≤ 7) (hM : M < 256) : M = 2 ^ n - 1 ↔ (∀ k, k < n → M.testBit k = true) ∧ (∀ k, n ≤ k → M.testBit k = false) := by
  constructor
  · intro h
    subst h
    refine ⟨fun k hk => ?_, fun k hk => ?_⟩
    · rw [Nat.testBit_two_pow_sub_one]; simpa using hk
    · rw [Nat.testBit_two_pow_sub_one]; simpa using hk
  · intro ⟨h1, h2⟩
    apply Nat.eq_of_testBit_eq
    intro k
    rw [Nat.testBit_two_pow_sub_one]
    by_cases c : k < n
    · rw [h1 k c]; simpa using c
    · rw [h2 k (by omega)]; simpa using c
/-! an order's number -/
def dg (X p : Nat) : Nat := X / 8 ^ p % 8
theorem dg_lt (X p : Nat) : dg X p < 8 := Nat.mod_lt _ (by decide)
def sn (X : Nat) : Nat → Nat
  | 0 => 0
  | p + 1 => sn X p ||| 2 ^ dg X p
theorem sn_lt (X : Nat) : ∀ p, sn X p < 256
  | 0 => Nat.zero_lt_succ 255
  | p + 1 => or_lt (sn_lt X p) (dg_lt X p)
theorem sn_tb (X k : Nat) : ∀ p, ((sn X p).testBit k = true ↔ ∃ q, q < p ∧ dg X q = k)
  | 0 => by
    show (0 : Nat).testBit k = true ↔ _
    rw [Nat.zero_testBit]
    exact Iff.intro (fun h => Bool.noConfusion h) (fun h => by obtain ⟨q, h, _⟩ := h; omega)
  | p + 1 => by
    show (sn X p ||| 2 ^ dg X p).testBit k = true ↔ _
    rw [tb_or, Bool.or_eq_true, sn_tb X k p, decide_eq_true_eq]
    constructor
    · rintro (⟨q, h1, h2⟩ | h)
      · exact ⟨q, by omega, h2⟩
      · exact ⟨p, by omega, h⟩
    · rintro ⟨q, h1, h2⟩
      rcases Nat.lt_or_ge q p with z | z
      · exact Or.inl ⟨q, z, h2⟩
      · have : q = p := by omega
        subst this; exact Or.inr h2
/-- the first p figures are different blocks of n -/
def okP (X n p : Nat) : Prop := ∀ q, q < p → dg X q < n ∧ (sn X q).testBit (dg X q) = false
theorem okP_cnt (X n : Nat) : ∀ p, cS (sn X p) n ≤ p ∧ (cS (sn X p) n = p ↔ okP X n p)
  | 0 => by
    have : cS (sn X 0) n = 0 := by
      have h := cS_le
      show cS 0 n = 0
      induction n with
      | zero => rfl
      | succ n ih =>
        show cS 0 n + (if (0 : Nat).testBit n = true then 1 else 0) = 0
        rw [ih, Nat.zero_testBit]
        rfl
    exact ⟨by omega, ⟨fun _ q h => by omega, fun _ => this⟩⟩
  | p + 1 => by
    obtain ⟨h1, h2⟩ := okP_cnt X n p
    have e : cS (sn X (p + 1)) n = cS (sn X p) n + if dg X p < n ∧ (sn X p).testBit (dg X p) = false then 1 else 0 := cS_or _ _ _
    rw [e]
    refine ⟨by split <;> omega, ?_⟩
    constructor
    · intro h q hq
      by_cases c : dg X p < n ∧ (sn X p).testBit (dg X p) = false
      · rcases Nat.lt_or_ge q p with z | z
        · rw [if_pos c] at h
          exact (h2.mp (by omega)) q z
        · have : q = p := by omega
          rw [this]; exact c
      · rw [if_neg c] at h; omega
    · intro h
      rw [if_pos (h p (by omega)), h2.mpr (fun q hq => h q (by omega))]
/-- a permutation of the first n -/
def isPm (n : Nat) (L : Nat → Nat) : Prop := (∀ p, p < n → L p < n) ∧ (∀ j, j < n → ∃ p, p < n ∧ L p = j) ∧ ∀ p q, p < n → q < n → L p = L q → p = q
theorem okP_full {X n : Nat} (hn : n ≤ 7) : okP X n n ↔ sn X n = 2 ^ n - 1 := by
  rw [eq_full hn (sn_lt X n)]
  constructor
  · intro h
    refine ⟨(cS_full _ n).mp ((okP_cnt X n n).2.mpr h), fun k hk => ?_⟩
    cases e : (sn X n).testBit k
    · rfl
    · obtain ⟨q, q1, q2⟩ := (sn_tb X k n).mp e
      have := (h q q1).1
      omega
  · intro ⟨h1, _⟩
    exact (okP_cnt X n n).2.mp ((cS_full _ n).mpr h1)
theorem okP_pm {X n : Nat} (hn : n ≤ 7) (h : okP X n n) : isPm n (dg X) := by
  refine ⟨fun p hp => (h p hp).1, fun j hj => ?_, fun p q hp hq e => ?_⟩
  · exact (sn_tb X j n).mp ((cS_full _ n).mp ((okP_cnt X n n).2.mpr h) j hj)
  · rcases Nat.lt_trichotomy p q with z | z | z
    · have := (h q hq).2
      rw [(sn_tb X (dg X q) q).mpr ⟨p, z, e⟩] at this
      cases this
    · exact z
    · have := (h p hp).2
      rw [(sn_tb X (dg X p) p).mpr ⟨q, z, e.symm⟩] at this
      cases this
theorem s3 : (((3 : Int32) &&& 31).toBitVec.smod 32).toNat = 3 := by decide
theorem dg_step {X p : Nat} (hX : X < 2 ^ 31) : nI (X / 8 ^ p) &&& 7 = nI (dg X p) ∧ nI (X / 8 ^ p) >>> ((3 : Int32) &&& 31) = nI (X / 8 ^ (p + 1)) := by
  have h : X / 8 ^ p < 2 ^ 31 := Nat.lt_of_le_of_lt (Nat.div_le_self _ _) hX
  refine ⟨pk_andN (by omega) 3 rfl, ?_⟩
  rw [pk_shrN h _ 3 s3, Nat.div_div_eq_div_mul]
  rfl
