def wornI (k v w : Int32) : Int32 := if (v + if k = 1 ∨ k = 4 then (w + 1) / 2 else if k = 2 then 2 * w else w) ≤ 999 then (v + if k = 1 ∨ k = 4 then (w + 1) / 2 else if k = 2 then 2 * w else w) else 999
def wornN (k a w : Nat) : Nat := min 999 (a + if k = 1 ∨ k = 4 then (w + 1) / 2 else if k = 2 then 2 * w else w)
theorem wornI_nI {k a w : Nat} (hk : k ≤ 4) (ha : a ≤ 999) (hw : w ≤ 9) : wornI (nI k) (nI a) (nI w) = nI (wornN k a w) := by
  have e1 : (nI k = 1 ∨ nI k = 4) ↔ (k = 1 ∨ k = 4) := by
    rw [show (1 : Int32) = nI 1 from rfl, show (4 : Int32) = nI 4 from rfl, nI_eq (by omega) (by omega), nI_eq (by omega) (by omega)]
  have e2 : nI k = 2 ↔ k = 2 := by rw [show (2 : Int32) = nI 2 from rfl, nI_eq (by omega) (by omega)]
  have e3 : (nI a + if nI k = 1 ∨ nI k = 4 then (nI w + 1) / 2 else if nI k = 2 then 2 * nI w else nI w) = nI (a + if k = 1 ∨ k = 4 then (w + 1) / 2 else if k = 2 then 2 * w else w) := by
    by_cases c1 : k = 1 ∨ k = 4
    · rw [if_pos c1, if_pos (e1.mpr c1), show (1 : Int32) = nI 1 from rfl, nI_add, show (2 : Int32) = nI 2 from rfl, pk_div (by omega) (by omega) (by omega), nI_add]
    · rw [if_neg c1, if_neg (fun q => c1 (e1.mp q))]
      by_cases c2 : k = 2
      · rw [if_pos c2, if_pos (e2.mpr c2), show (2 : Int32) = nI 2 from rfl, pk_mul, nI_add]
      · rw [if_neg c2, if_neg (fun q => c2 (e2.mp q)), nI_add]
  unfold wornI wornN
  rw [e3]
  have hb : (a + if k = 1 ∨ k = 4 then (w + 1) / 2 else if k = 2 then 2 * w else w) < 2 ^ 31 := by
    split
    · omega
    · split <;> omega
  generalize (a + if k = 1 ∨ k = 4 then (w + 1) / 2 else if k = 2 then 2 * w else w) = z at hb ⊢
  rw [show (999 : Int32) = nI 999 from rfl]
  by_cases c : z ≤ 999
  · rw [if_pos (nI_le c (by omega)), Nat.min_eq_right c]
  · rw [if_neg (nI_ge (by omega) hb), Nat.min_eq_left (by omega)]
theorem wornN_le (k a w : Nat) : wornN k a w ≤ 999 := by unfold wornN; omega
theorem wornI_isN {k v w : Int32} (hk : isN k 4) (hv : isN v 999) (hw : isN w 9) : isN (wornI k v w) 999 := by
  obtain ⟨a, a1, rfl⟩ := hk
  obtain ⟨b, b1, rfl⟩ := hv
  obtain ⟨c, c1, rfl⟩ := hw
  exact ⟨_, wornN_le _ _ _, wornI_nI a1 b1 c1⟩
theorem worn_eq (fu : Nat) (k v w : Int32) (σ : St) : fX10_worn fu k v w σ = some (wornI k v w, σ) := by
  simp only [fX10_worn_49, fX10_worn_30, fX10_worn_10, fX10_worn_0, fX10_worn, wornI]
  by_cases c1 : k = 1
  · subst c1
    simp
    split <;> rfl
  by_cases c2 : k = 4
  · subst c2
    simp
    split <;> rfl
  by_cases c3 : k = 2
  · subst c3
    simp
    split <;> rfl
  · simp [c1, c2, c3]
    split <;> rfl
theorem jmin_999 (x : Int32) : jmin 999 x = if x ≤ 999 then x else 999 := by
  unfold jmin
  by_cases h : x < 999
  · rw [if_pos h, if_pos (by rw [i_le]; rw [i_lt] at h; omega)]
  · rw [if_neg h]
    by_cases h2 : x ≤ 999
    · rw [if_pos h2, i_eq]
      rw [i_lt] at h
      rw [i_le] at h2
      omega
    · rw [if_neg h2]
theorem wornHead_eq (fu : Nat) {o : Nat} (ho : xk o = 6) (v : Int32) {j p : Nat} (hj : j < 7) (hp : p < 7) (σ : St) : fX8_wornHead fu o v (nI j) (nI p) σ = some (wornI (σ.1 (o + 1) j) v (σ.1 (o + 7) p), σ) := by
  simp only [fX8_wornHead_0, fX8_wornHead, fX8_yearlyWear_44, fX8_yearlyWear_54, fX8_yearlyWear_0, fX8_yearlyWear, ho, if_true, rs0 ho, rs6 ho, ald_nI hj (by omega : 7 < 2 ^ 31), ald_nI hp (by omega : 7 < 2 ^ 31), Option.bind_some, jmin_999, wornI]
  generalize σ.1 (o + 1) j = k
  generalize σ.1 (o + 7) p = w
  by_cases c1 : k = 1
  · subst c1; simp
  by_cases c2 : k = 4
  · subst c2; simp
  by_cases c3 : k = 2
  · subst c3
    simp
    rw [Int32.mul_comm]
  · simp [c1, c2, c3]
/-- a year's wear of the first n -/
def yrF (K : Nat → Int32) (P : Nat → Nat) (Vv f : Nat → Int32) (n : Nat) : Nat → Int32 := fun j => if j < n then wornI (K j) (f j) (Vv (P j)) else f j
theorem yrF_0 (K : Nat → Int32) (P : Nat → Nat) (Vv f : Nat → Int32) : yrF K P Vv f 0 = f := by
  funext j
  unfold yrF
  rw [if_neg (by omega)]
theorem yrF_s (K : Nat → Int32) (P : Nat → Nat) (Vv f : Nat → Int32) (i : Nat) : upd (yrF K P Vv f i) i (wornI (K i) (f i) (Vv (P i))) = yrF K P Vv f (i + 1) := by
  funext j
  unfold yrF upd
  by_cases h : j = i
  · subst h
    rw [if_pos rfl, if_pos (by omega)]
  · rw [if_neg h]
    dsimp only
    by_cases h2 : j < i
    · rw [if_pos h2, if_pos (by omega)]
    · rw [if_neg h2, if_neg (by omega)]
theorem wearY_lp (fu : Nat) {o n : Nat} (ho : xk o = 6) {σ : St} (hn : n ≤ 7) (hz : σ.1 o 7 = nI n) (hp : ∀ j, j < n → σ.1 (o + 5) j = nI (nv σ (o + 5) j) ∧ nv σ (o + 5) j < 7) : ∀ (m i : Nat), i ≤ n → n - i < m → fX8_wearForAYear_2 fu o m (nI i) (sc σ (o + 2) (yrF (σ.1 (o + 1)) (nv σ (o + 5)) (σ.1 (o + 7)) (σ.1 (o + 2)) i)) = some (sc σ (o + 2) (yrF (σ.1 (o + 1)) (nv σ (o + 5)) (σ.1 (o + 7)) (σ.1 (o + 2)) n)) := by
  intro m
  induction m with
  | zero => intro i h1 h2; omega
  | succ m ih =>
    intro i h1 h2
    show fX8_wearForAYear_2b fu (fX8_wearForAYear_2 fu o m) o (nI i) _ = _
    unfold fX8_wearForAYear_2b
    have r : ∀ a, a ≠ o + 2 → ∀ f, (sc σ (o + 2) f).1 a = σ.1 a := fun a h f => if_neg h
    rw [r o (by omega), hz]
    by_cases c : i < n
    · rw [if_neg (nI_ge c (by omega)), rs1 ho, rs4 ho, ald_nI (by omega) (by omega), ald_nI (by omega) (by omega)]
      simp only [Option.bind_some]
      rw [r (o + 5) (by omega), (hp i c).1, wornHead_eq fu ho _ (by omega) (hp i c).2]
      simp only [Option.bind_some, nm]
      rw [ast_nI (by omega) (by omega), r (o + 1) (by omega), r (o + 7) (by omega)]
      simp only [Option.bind_some]
      rw [nI_1, si_sc, sc_sc]
      have e : (sc σ (o + 2) (yrF (σ.1 (o + 1)) (nv σ (o + 5)) (σ.1 (o + 7)) (σ.1 (o + 2)) i)).1 (o + 2) = yrF (σ.1 (o + 1)) (nv σ (o + 5)) (σ.1 (o + 7)) (σ.1 (o + 2)) i := if_pos rfl
      rw [e]
      have e2 : yrF (σ.1 (o + 1)) (nv σ (o + 5)) (σ.1 (o + 7)) (σ.1 (o + 2)) i i = σ.1 (o + 2) i := if_neg (by omega)
      rw [e2, yrF_s]
      exact ih (i + 1) (by omega) (by omega)
    · have : i = n := by omega
      subst this
      rw [if_pos (nI_le (Nat.le_refl _) (by omega))]
theorem wearForAYear_eq {fu : Nat} (hf : 100 ≤ fu) {o n : Nat} (ho : xk o = 6) {σ : St} (hn : n ≤ 7) (hz : σ.1 o 7 = nI n) (hp : ∀ j, j < n → σ.1 (o + 5) j = nI (nv σ (o + 5) j) ∧ nv σ (o + 5) j < 7) : fX8_wearForAYear fu o σ = some (sc σ (o + 2) (yrF (σ.1 (o + 1)) (nv σ (o + 5)) (σ.1 (o + 7)) (σ.1 (o + 2)) n)) := by
  unfold fX8_wearForAYear fX8_wearForAYear_0
  rw [if_pos ho]
  have h := wearY_lp fu ho hn hz hp fu 0 (by omega) (by omega)
  rw [yrF_0, sc_self] at h
  exact h
theorem yearOn_lp (fu : Nat) {a b n : Nat} (ha : a ≠ 43 ∧ a ≠ 45 ∧ a ≠ 50 ∧ a ≠ b) {σ : St} (hn : n ≤ 7) (hz : σ.1 43 12 = nI n) (hp : ∀ j, j < n → σ.1 b j = nI (nv σ b j) ∧ nv σ b j < 7) : ∀ (m i : Nat), i ≤ n → n - i < m → fX10_yearOn_2 fu 43 a b m (nI i) (sc σ a (yrF (σ.1 45) (nv σ b) (σ.1 50) (σ.1 a) i)) = some (sc σ a (yrF (σ.1 45) (nv σ b) (σ.1 50) (σ.1 a) n)) := by
  intro m
  induction m with
  | zero => intro i h1 h2; omega
  | succ m ih =>
    intro i h1 h2
    show fX10_yearOn_2b fu (fX10_yearOn_2 fu 43 a b m) 43 a b (nI i) _ = _
    unfold fX10_yearOn_2b
    have r : ∀ c, c ≠ a → ∀ f, (sc σ a f).1 c = σ.1 c := fun c h f => if_neg h
    rw [r 43 (Ne.symm ha.1), hz]
    by_cases c : i < n
    · rw [if_neg (nI_ge c (by omega)), rv_43_13, rv_43_18, ald_nI (by omega) (by omega), ald_nI (by omega) (by omega), ald_nI (by omega) (by omega)]
      simp only [Option.bind_some]
      rw [r b (Ne.symm ha.2.2.2), (hp i c).1, ald_nI (hp i c).2 (by omega)]
      simp only [Option.bind_some, worn_eq, nm]
      rw [ast_nI (by omega) (by omega), r 45 (Ne.symm ha.2.1), r 50 (Ne.symm ha.2.2.1)]
      simp only [Option.bind_some]
      rw [nI_1, si_sc, sc_sc]
      have e : (sc σ a (yrF (σ.1 45) (nv σ b) (σ.1 50) (σ.1 a) i)).1 a = yrF (σ.1 45) (nv σ b) (σ.1 50) (σ.1 a) i := if_pos rfl
      rw [e]
      have e2 : yrF (σ.1 45) (nv σ b) (σ.1 50) (σ.1 a) i i = σ.1 a i := if_neg (by omega)
      rw [e2, yrF_s]
      exact ih (i + 1) (by omega) (by omega)
    · have : i = n := by omega
      subst this
      rw [if_pos (nI_le (Nat.le_refl _) (by omega))]
theorem yearOn_eq {fu : Nat} (hf : 100 ≤ fu) {a b n : Nat} (hxa : xk a = 16) (hxb : xk b = 16) (ha : a ≠ 43 ∧ a ≠ 45 ∧ a ≠ 50 ∧ a ≠ b) {σ : St} (hn : n ≤ 7) (hz : σ.1 43 12 = nI n) (hp : ∀ j, j < n → σ.1 b j = nI (nv σ b j) ∧ nv σ b j < 7) : fX10_yearOn fu 43 a b σ = some (sc σ a (yrF (σ.1 45) (nv σ b) (σ.1 50) (σ.1 a) n)) := by
  unfold fX10_yearOn fX10_yearOn_0
  rw [if_pos xv_43, if_pos hxa, if_pos hxb]
  have h := yearOn_lp fu ha hn hz hp fu 0 (by omega) (by omega)
  rw [yrF_0, sc_self] at h
  exact h
