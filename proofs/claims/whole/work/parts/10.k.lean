/-! PURE: reading and writing the state; the relation between class and reference -/
theorem si_row (σ : St) (a k : Nat) (v : Int32) (i : Nat) : (si σ a k v).1 i = if i = a then upd (σ.1 a) k v else σ.1 i := rfl
theorem sc_row (σ : St) (a : Nat) (f : Nat → Int32) (i : Nat) : (sc σ a f).1 i = if i = a then f else σ.1 i := rfl
theorem sl_row (σ : St) (v : Int64) : (sl σ v).1 = σ.1 := rfl
theorem upd_same (f : Nat → Int32) (k : Nat) (v : Int32) : upd f k v k = v := if_pos rfl
theorem upd_ne (f : Nat → Int32) {k j : Nat} (v : Int32) (h : j ≠ k) : upd f k v j = f j := if_neg h
theorem upd_app (f : Nat → Int32) (k : Nat) (v : Int32) (j : Nat) : upd f k v j = if j = k then v else f j := rfl
theorem sc_self (σ : St) (a : Nat) : sc σ a (σ.1 a) = σ := by
  apply Prod.ext
  · funext i
    show (if i = a then σ.1 a else σ.1 i) = σ.1 i
    by_cases h : i = a
    · rw [if_pos h, h]
    · rw [if_neg h]
  · rfl
theorem sc_sc (σ : St) (a : Nat) (f g : Nat → Int32) : sc (sc σ a f) a g = sc σ a g := by
  apply Prod.ext
  · funext i
    show (if i = a then g else (if i = a then f else σ.1 i)) = if i = a then g else σ.1 i
    by_cases h : i = a
    · rw [if_pos h, if_pos h]
    · rw [if_neg h, if_neg h, if_neg h]
  · rfl
theorem si_sc (σ : St) (a k : Nat) (v : Int32) : si σ a k v = sc σ a (upd (σ.1 a) k v) := rfl
theorem ald_nI {σ : St} {a n j : Nat} (h : j < n) (hn : n < 2 ^ 31) : ald σ a n (nI j) = some (σ.1 a j) := by
  unfold ald
  rw [if_neg (nI_in h hn), nI_clamp (by omega)]
theorem ast_nI {σ : St} {a n j : Nat} {x : Int32} (h : j < n) (hn : n < 2 ^ 31) : ast σ a n (nI j) x = some (si σ a j x) := by
  unfold ast
  rw [if_neg (nI_in h hn), nI_clamp (by omega)]
theorem lp_s {α : Type} (b : α → α) (z : α) (n : Nat) : lp b z (n + 1) = b (lp b z n) := rfl
def nv (σ : St) (a j : Nat) : Nat := (σ.1 a j).toNatClampNeg
/-- a number that isn't negative -/
def isN (x : Int32) (m : Nat) : Prop := ∃ k : Nat, k ≤ m ∧ x = nI k
theorem isN_nv {σ : St} {a j m : Nat} (h : isN (σ.1 a j) m) (hm : m < 2 ^ 31) : σ.1 a j = nI (nv σ a j) ∧ nv σ a j ≤ m := by
  obtain ⟨k, h1, h2⟩ := h
  unfold nv
  rw [h2, nI_clamp (by omega)]
  exact ⟨rfl, h1⟩
theorem i_le (a b : Int32) : a ≤ b ↔ a.toInt ≤ b.toInt := Int32.le_iff_toInt_le
theorem i_lt (a b : Int32) : a < b ↔ a.toInt < b.toInt := Int32.lt_iff_toInt_lt
theorem i_eq (a b : Int32) : a = b ↔ a.toInt = b.toInt := Int32.toInt_inj.symm
/-- between two numbers: a number -/
theorem in_nI {x : Int32} (m : Nat) (h0 : ¬ x < 0) (h1 : x ≤ nI m) (hm : m < 2 ^ 31) : ∃ k, k ≤ m ∧ x = nI k := by
  obtain ⟨j, h2, rfl⟩ := nI_of h0
  exact ⟨j, (nI_leI h2 hm).mp h1, rfl⟩
theorem in_nlt {x : Int32} (m : Nat) (h0 : ¬ x < 0) (h1 : ¬ nI m ≤ x) (hm : m < 2 ^ 31) : ∃ k, k < m ∧ x = nI k := by
  obtain ⟨j, h2, rfl⟩ := nI_of h0
  refine ⟨j, ?_, rfl⟩
  rcases Nat.lt_or_ge j m with q | q
  · exact q
  · exact absurd (nI_le q h2) h1
/-! the street: its cells' numbers -/
theorem st_id {o : Nat} (h : xk o = 6) : o = 4 ∨ o = 12 ∨ o = 35 := by
  have hl : o < 56 := xk_lt (by omega)
  have h1 := List.all_eq_true.mp (show (List.range 56).all (fun a => xk a != 6 || (a == 4 || (a == 12 || a == 35))) = true by decide +kernel) o (List.mem_range.mpr hl)
  simp only [Bool.or_eq_true, bne_iff_ne, beq_iff_eq] at h1
  rcases h1 with h1 | h1
  · exact absurd h h1
  · exact h1
theorem rf_st {o : Nat} (h : xk o = 6) (k : Nat) : rf o k = o + 1 + k := by
  rcases st_id h with rfl | rfl | rfl <;> rfl
theorem or_id {o : Nat} (h : xk o = 4) : o = 20 ∨ o = 27 ∨ o = 32 := by
  have hl : o < 56 := xk_lt (by omega)
  have h1 := List.all_eq_true.mp (show (List.range 56).all (fun a => xk a != 4 || (a == 20 || (a == 27 || a == 32))) = true by decide +kernel) o (List.mem_range.mpr hl)
  simp only [Bool.or_eq_true, bne_iff_ne, beq_iff_eq] at h1
  rcases h1 with h1 | h1
  · exact absurd h h1
  · exact h1
theorem rf_or {o : Nat} (h : xk o = 4) : rf o 0 = o + 1 := by
  rcases or_id h with rfl | rfl | rfl <;> rfl
/-- the street o holds n blocks, all as it must be -/
def WS (σ : St) (o n : Nat) : Prop := n ≤ 7 ∧ σ.1 o 7 = nI n ∧ (∀ j, j < n → isN (σ.1 (o + 1) j) 4 ∧ isN (σ.1 (o + 2) j) 999 ∧ isN (σ.1 (o + 3) j) 999 ∧ (σ.1 (o + 4) j = -1 ∨ isN (σ.1 (o + 4) j) 999)) ∧ (∀ j, j < n → ∃ p, p < n ∧ σ.1 (o + 5) j = nI p ∧ σ.1 (o + 6) p = nI j) ∧ (∀ p, p < n → ∃ j, j < n ∧ σ.1 (o + 6) p = nI j ∧ σ.1 (o + 5) j = nI p) ∧ ∀ p, p < 7 → isN (σ.1 (o + 7) p) 9
theorem WS_congr {σ σ' : St} {o n : Nat} (h : ∀ i, o ≤ i → i ≤ o + 7 → σ'.1 i = σ.1 i) (hw : WS σ o n) : WS σ' o n := by
  unfold WS
  rw [h o (by omega) (by omega), h (o + 1) (by omega) (by omega), h (o + 2) (by omega) (by omega), h (o + 3) (by omega) (by omega), h (o + 4) (by omega) (by omega), h (o + 5) (by omega) (by omega), h (o + 6) (by omega) (by omega), h (o + 7) (by omega) (by omega)]
  exact hw
/-- the reference holds the same street -/
def Mo (σ : St) (n : Nat) : Prop := σ.1 43 12 = nI n ∧ (∀ j, j < n → σ.1 45 j = σ.1 5 j ∧ σ.1 46 j = σ.1 6 j ∧ σ.1 47 j = σ.1 7 j ∧ σ.1 48 j = σ.1 9 j ∧ σ.1 49 j = σ.1 8 j) ∧ ∀ p, p < 7 → σ.1 50 p = σ.1 11 p
def Pg (σ : St) : Prop := ∃ k, k ≤ 16 ∧ σ.1 1 1 = nI k ∧ σ.1 43 1 = nI k ∧ ∀ j, j < k → σ.1 44 j = σ.1 2 j
def Lw (σ : St) : Prop := (σ.1 3 0 = 0 ∨ σ.1 3 0 = 1) ∧ (σ.1 3 1 = 0 ∨ σ.1 3 1 = 1) ∧ (σ.1 3 2 = 0 ∨ σ.1 3 2 = 1) ∧ (∃ k, 1 ≤ k ∧ k ≤ 10 ∧ σ.1 3 3 = nI k) ∧ σ.1 43 2 = σ.1 3 0 ∧ σ.1 43 3 = σ.1 3 1 ∧ σ.1 43 4 = σ.1 3 2 ∧ σ.1 43 5 = σ.1 3 3
def Cn (σ : St) : Prop := σ.1 43 6 = σ.1 0 9 ∧ (∃ k, k ≤ 40 ∧ σ.1 0 10 = nI k ∧ σ.1 43 25 = nI k) ∧ (∃ k, k ≤ 40 ∧ σ.1 0 11 = nI k ∧ σ.1 43 27 = nI k) ∧ ∃ k, k ≤ 10 ∧ σ.1 0 12 = nI k ∧ σ.1 43 28 = nI k
def Im (σ : St) : Prop := (σ.1 0 8 = 0 ∧ σ.1 43 29 = -1) ∨ (σ.1 0 8 = 1 ∧ ∃ n, WS σ 12 n ∧ σ.1 43 29 = nI n ∧ (∀ j, j < n → σ.1 55 (6 * j) = σ.1 13 j ∧ σ.1 55 (6 * j + 1) = σ.1 14 j ∧ σ.1 55 (6 * j + 2) = σ.1 15 j ∧ σ.1 55 (6 * j + 3) = σ.1 17 j ∧ σ.1 55 (6 * j + 4) = σ.1 16 j) ∧ ∀ p, p < 7 → σ.1 55 (6 * p + 5) = σ.1 19 p)
def Inv (σ : St) : Prop := (∃ n, WS σ 4 n ∧ Mo σ n) ∧ Pg σ ∧ Lw σ ∧ Cn σ ∧ Im σ
theorem wh7_1 : ∀ p, p < 7 → wh7 p = 1 := by
  intro p hp
  have : p = 0 ∨ p = 1 ∨ p = 2 ∨ p = 3 ∨ p = 4 ∨ p = 5 ∨ p = 6 := by omega
  rcases this with rfl | rfl | rfl | rfl | rfl | rfl | rfl <;> rfl
theorem Inv_sg0 : Inv sg0 := by
  refine ⟨⟨0, ⟨by omega, rfl, fun j h => by omega, fun j h => by omega, fun j h => by omega, fun p h => ⟨1, by omega, ?_⟩⟩, rfl, fun j h => by omega, fun p h => rfl⟩, ⟨0, by omega, rfl, rfl, fun j h => by omega⟩, ⟨Or.inl rfl, Or.inl rfl, Or.inl rfl, ⟨10, by omega, by omega, rfl⟩, rfl, rfl, rfl, rfl⟩, ⟨rfl, ⟨0, by omega, rfl, rfl⟩, ⟨0, by omega, rfl, rfl⟩, ⟨0, by omega, rfl, rfl⟩⟩, Or.inl ⟨rfl, rfl⟩⟩
  show wh7 p = nI 1
  rw [wh7_1 p h]
  rfl
/-! small methods -/
theorem isWithin_eq (fu : Nat) (x a b : Int32) (σ : St) : fX9_isWithin fu x a b σ = some (if x < a ∨ b < x then 0 else 1, σ) := by
  unfold fX9_isWithin fX9_isWithin_0 fX9_isWithin_14 fX9_isWithin_15
  by_cases h1 : x < a
  · simp [h1]
  · by_cases h2 : b < x
    · simp [h1, h2]
    · simp [h1, h2]
theorem lgc_lt (x y : Int64) : lg_cmp x y < 0 ↔ x < y := by
  unfold lg_cmp
  by_cases h1 : x > y
  · rw [if_pos h1]
    have : ¬ x < y := by rw [Int64.lt_iff_toInt_lt]; have := Int64.lt_iff_toInt_lt.mp h1; omega
    simp [this]
  · rw [if_neg h1]
    by_cases h2 : x = y
    · rw [if_pos h2]
      subst h2
      have : ¬ x < x := by rw [Int64.lt_iff_toInt_lt]; omega
      simp [this]
    · rw [if_neg h2]
      have : x < y := by
        rw [Int64.lt_iff_toInt_lt]
        have h3 : ¬ y.toInt < x.toInt := fun q => h1 (Int64.lt_iff_toInt_lt.mpr q)
        have h4 : x.toInt ≠ y.toInt := fun q => h2 (Int64.toInt_inj.mp q)
        omega
      simp [this]
theorem lgc_gt (x y : Int64) : 0 < lg_cmp x y ↔ y < x := by
  unfold lg_cmp
  by_cases h1 : x > y
  · rw [if_pos h1]
    simpa using h1
  · rw [if_neg h1]
    have h5 : ¬ y < x := h1
    by_cases h2 : x = y
    · rw [if_pos h2]; simp [h5]
    · rw [if_neg h2]; simp [h5]
theorem in_eq (fu : Nat) (x a b : Int64) (σ : St) : fX10_in fu x a b σ = some (if x < a ∨ b < x then 0 else 1, σ) := by
  unfold fX10_in fX10_in_0 fX10_in_17 fX10_in_18
  simp only [lgc_lt, lgc_gt]
  by_cases h1 : x < a
  · simp [h1]
  · by_cases h2 : b < x
    · simp [h1, h2]
    · simp [h1, h2]
theorem w_lt (a b : Int32) : a.toInt64 < b.toInt64 ↔ a < b := by rw [Int64.lt_iff_toInt_lt, Int32.lt_iff_toInt_lt, Int32.toInt_toInt64, Int32.toInt_toInt64]
theorem in_eq32 (fu : Nat) (x a b : Int32) (σ : St) : fX10_in fu x.toInt64 a.toInt64 b.toInt64 σ = some (if x < a ∨ b < x then 0 else 1, σ) := by
  rw [in_eq]
  simp only [w_lt]
theorem isKind_eq (fu : Nat) (x : Int32) (σ : St) : fX9_isKind fu x σ = some (if x < 0 ∨ 4 < x then 0 else 1, σ) := by
  unfold fX9_isKind fX9_isKind_0
  rw [isWithin_eq]
  by_cases h : x < 0 ∨ 4 < x <;> simp [h]
theorem xv_0 : xk 0 = 7 := rfl
theorem xv_1 : xk 1 = 5 := rfl
theorem xv_3 : xk 3 = 2 := rfl
theorem xv_4 : xk 4 = 6 := rfl
theorem xv_12 : xk 12 = 6 := rfl
theorem xv_20 : xk 20 = 4 := rfl
theorem xv_22 : xk 22 = 3 := rfl
theorem xv_27 : xk 27 = 4 := rfl
theorem xv_29 : xk 29 = 1 := rfl
theorem xv_32 : xk 32 = 4 := rfl
theorem xv_34 : xk 34 = 0 := rfl
theorem xv_35 : xk 35 = 6 := rfl
theorem xv_43 : xk 43 = 8 := rfl
theorem rv_0_0 : rf 0 0 = 1 := rfl
theorem rv_0_1 : rf 0 1 = 3 := rfl
theorem rv_0_2 : rf 0 2 = 4 := rfl
theorem rv_0_3 : rf 0 3 = 12 := rfl
theorem rv_0_4 : rf 0 4 = 20 := rfl
theorem rv_0_5 : rf 0 5 = 22 := rfl
theorem rv_0_6 : rf 0 6 = 29 := rfl
theorem rv_0_7 : rf 0 7 = 34 := rfl
theorem rv_1_0 : rf 1 0 = 2 := rfl
theorem rv_4_0 : rf 4 0 = 5 := rfl
theorem rv_4_1 : rf 4 1 = 6 := rfl
theorem rv_4_2 : rf 4 2 = 7 := rfl
theorem rv_4_3 : rf 4 3 = 8 := rfl
theorem rv_4_4 : rf 4 4 = 9 := rfl
theorem rv_4_5 : rf 4 5 = 10 := rfl
theorem rv_4_6 : rf 4 6 = 11 := rfl
theorem rv_12_0 : rf 12 0 = 13 := rfl
theorem rv_12_1 : rf 12 1 = 14 := rfl
theorem rv_12_2 : rf 12 2 = 15 := rfl
theorem rv_12_3 : rf 12 3 = 16 := rfl
theorem rv_12_4 : rf 12 4 = 17 := rfl
theorem rv_12_5 : rf 12 5 = 18 := rfl
theorem rv_12_6 : rf 12 6 = 19 := rfl
theorem rv_35_0 : rf 35 0 = 36 := rfl
theorem rv_35_1 : rf 35 1 = 37 := rfl
theorem rv_35_2 : rf 35 2 = 38 := rfl
theorem rv_35_3 : rf 35 3 = 39 := rfl
theorem rv_35_4 : rf 35 4 = 40 := rfl
theorem rv_35_5 : rf 35 5 = 41 := rfl
theorem rv_35_6 : rf 35 6 = 42 := rfl
theorem rv_20_0 : rf 20 0 = 21 := rfl
theorem rv_27_0 : rf 27 0 = 28 := rfl
theorem rv_32_0 : rf 32 0 = 33 := rfl
theorem rv_22_0 : rf 22 0 = 23 := rfl
theorem rv_22_1 : rf 22 1 = 24 := rfl
theorem rv_22_2 : rf 22 2 = 25 := rfl
theorem rv_22_3 : rf 22 3 = 26 := rfl
theorem rv_22_4 : rf 22 4 = 27 := rfl
theorem rv_29_0 : rf 29 0 = 30 := rfl
theorem rv_29_1 : rf 29 1 = 31 := rfl
theorem rv_29_2 : rf 29 2 = 32 := rfl
theorem rv_34_0 : rf 34 0 = 35 := rfl
theorem rv_43_0 : rf 43 0 = 44 := rfl
theorem rv_43_13 : rf 43 13 = 45 := rfl
theorem rv_43_14 : rf 43 14 = 46 := rfl
theorem rv_43_15 : rf 43 15 = 47 := rfl
theorem rv_43_16 : rf 43 16 = 48 := rfl
theorem rv_43_17 : rf 43 17 = 49 := rfl
theorem rv_43_18 : rf 43 18 = 50 := rfl
theorem rv_43_19 : rf 43 19 = 51 := rfl
theorem rv_43_20 : rf 43 20 = 52 := rfl
theorem rv_43_21 : rf 43 21 = 53 := rfl
theorem rv_43_22 : rf 43 22 = 54 := rfl
theorem rv_43_30 : rf 43 30 = 55 := rfl
