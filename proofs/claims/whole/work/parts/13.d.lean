theorem nI_s1 {p : Nat} (h : 1 ≤ p) : nI p - 1 = nI (p - 1) := pk_sub h
abbrev adjN (a b : Nat) : Prop := a = b + 1 ∨ b = a + 1
theorem jabs_adj : ∀ a, a < 7 → ∀ b, b < 7 → (jabs (nI a - nI b) = 1 ↔ adjN a b) := by decide +kernel
theorem msize_eq (fu : Nat) (v : Int32) (σ : St) : fX10_size fu v σ = some (if v < 0 then -v else v, σ) := by
  simp only [fX10_size_10, fX10_size_0, fX10_size]
  by_cases h : v < 0
  · have h2 : ¬ 0 ≤ v := not_le_lt.mpr h
    simp [h, h2]
  · have h2 : 0 ≤ v := by rw [i_le]; rw [i_lt] at h; rw [l0] at *; omega
    simp [h, h2]
theorem msize_adj : ∀ a, a < 7 → ∀ b, b < 7 → ((if nI a - nI b < 0 then -(nI a - nI b) else nI a - nI b) = 1 ↔ adjN a b) := by decide +kernel
theorem blockIn_eq (fu : Nat) {r : Nat} (hr : xk r = 4) {n p : Nat} (hn : n ≤ 7) (hp : p < n) {σ : St} (hz : σ.1 r 1 = nI n) : fX6_blockIn fu r (nI p) σ = some (σ.1 (r + 1) p, σ) := by
  simp only [fX6_blockIn_22, fX6_blockIn_21, fX6_blockIn_0, fX6_blockIn, hr, if_true, rf_or hr, hz]
  rw [if_neg (nI_pos (by omega)), if_neg (nI_ge hp (by omega)), ald_nI (by omega) (by omega)]
  rfl
theorem osize_eq (fu : Nat) {r : Nat} (hr : xk r = 4) (σ : St) : fX6_size fu r σ = some (σ.1 r 1, σ) := by
  simp only [fX6_size_0, fX6_size, hr, if_true]
theorem isTwin_eq (fu : Nat) {o : Nat} (ho : xk o = 6) {j : Nat} (hj : j < 7) (σ : St) : fX8_isTwin fu o (nI j) σ = some (if σ.1 (o + 1) j = 3 then 1 else 0, σ) := by
  simp only [fX8_isTwin_15, fX8_isTwin_0, fX8_isTwin, ho, if_true, rs0 ho, ald_nI hj (by omega : 7 < 2 ^ 31), Option.bind_some]
  by_cases h : σ.1 (o + 1) j = 3 <;> simp [h]
/-- the street's numbers as naturals -/
def Vw (σ : St) (o n : Nat) (K P : Nat → Nat) : Prop := n ≤ 7 ∧ ∀ j, j < n → σ.1 (o + 1) j = nI (K j) ∧ K j ≤ 4 ∧ σ.1 (o + 5) j = nI (P j) ∧ P j < 7
theorem k3 {k : Nat} (h : k ≤ 4) : nI k = 3 ↔ k = 3 := nI_eq (b := 3) (by omega) (by omega)
theorem letsLie_eq (fu : Nat) {o n : Nat} (ho : xk o = 6) {K P : Nat → Nat} {σ : St} (hv : Vw σ o n K P) {a b : Nat} (ha : a < n) (hb : b < n) : fX4_letsLieTogether fu 3 o (nI a) (nI b) σ = some (if ¬ σ.1 3 0 = 0 ∧ adjN (P a) (P b) then 0 else 1, σ) := by
  obtain ⟨hn, hv⟩ := hv
  simp only [fX4_letsLieTogether_21, fX4_letsLieTogether_16, fX4_letsLieTogether_0, fX4_letsLieTogether, fX8_lieTogether_25, fX8_lieTogether_0, fX8_lieTogether, xv_0, xv_1, xv_3, xv_4, xv_12, xv_20, xv_22, xv_27, xv_29, xv_32, xv_34, xv_35, xv_43, rv_0_0, rv_0_1, rv_0_2, rv_0_3, rv_0_4, rv_0_5, rv_0_6, rv_0_7, rv_1_0, rv_4_0, rv_4_1, rv_4_2, rv_4_3, rv_4_4, rv_4_5, rv_4_6, rv_12_0, rv_12_1, rv_12_2, rv_12_3, rv_12_4, rv_12_5, rv_12_6, rv_35_0, rv_35_1, rv_35_2, rv_35_3, rv_35_4, rv_35_5, rv_35_6, rv_20_0, rv_27_0, rv_32_0, rv_22_0, rv_22_1, rv_22_2, rv_22_3, rv_22_4, rv_29_0, rv_29_1, rv_29_2, rv_34_0, rv_43_0, rv_43_13, rv_43_14, rv_43_15, rv_43_16, rv_43_17, rv_43_18, rv_43_19, rv_43_20, rv_43_21, rv_43_22, rv_43_30, if_true, Option.bind_some, nm, ho, rs4 ho, ald_nI (show a < 7 by omega) (by omega : 7 < 2 ^ 31), ald_nI (show b < 7 by omega) (by omega : 7 < 2 ^ 31), (hv a ha).2.2.1, (hv b hb).2.2.1, jabs_adj _ (hv a ha).2.2.2 _ (hv b hb).2.2.2]
  by_cases h1 : σ.1 3 0 = 0
  · simp [h1]
  · by_cases h2 : adjN (P a) (P b)
    · simp [h1, h2]
    · simp [h1, h2]
theorem twinBeside_eq (fu : Nat) {o r n : Nat} (ho : xk o = 6) (hr : xk r = 4) {K P L : Nat → Nat} {σ : St} (hv : Vw σ o n K P) (hz : σ.1 r 1 = nI n) (hL : ∀ p, p < n → σ.1 (r + 1) p = nI (L p) ∧ L p < n) {p : Nat} (hp : p < n) : fX4_hasTwinBeside fu o r (nI p) σ = some (if (0 < p ∧ K (L (p - 1)) = 3) ∨ (p + 1 < n ∧ K (L (p + 1)) = 3) then 1 else 0, σ) := by
  obtain ⟨hn, hv⟩ := hv
  have tw : ∀ q, q < n → fX8_isTwin fu o (σ.1 (r + 1) q) σ = some (if K (L q) = 3 then 1 else 0, σ) := by
    intro q hq
    obtain ⟨l1, l2⟩ := hL q hq
    rw [l1, isTwin_eq fu ho (by omega), (hv _ l2).1]
    simp only [k3 (hv _ l2).2.1]
  have s18 : fX4_hasTwinBeside_18 fu o r (nI p) σ = some (if p + 1 < n ∧ K (L (p + 1)) = 3 then 1 else 0, σ) := by
    unfold fX4_hasTwinBeside_18 fX4_hasTwinBeside_46 fX4_hasTwinBeside_42 fX4_hasTwinBeside_47
    rw [osize_eq fu hr, hz, nI_1]
    simp only [Option.bind_some]
    by_cases c : p + 1 < n
    · rw [if_neg (nI_ge c (by omega)), blockIn_eq fu hr hn c hz]
      simp only [Option.bind_some, tw _ c]
      by_cases d : K (L (p + 1)) = 3
      · simp [c, d]
      · simp [c, d]
    · rw [if_pos (nI_le (by omega) (by omega))]
      simp [c]
  unfold fX4_hasTwinBeside fX4_hasTwinBeside_0
  rw [if_pos ho, if_pos hr]
  by_cases c : 0 < p
  · rw [if_neg (show ¬ nI p ≤ 0 from nI_nle c (by omega)), nI_s1 (by omega), blockIn_eq fu hr hn (by omega) hz]
    simp only [Option.bind_some, tw (p - 1) (by omega), s18]
    by_cases d : K (L (p - 1)) = 3
    · simp [c, d, fX4_hasTwinBeside_42, fX4_hasTwinBeside_47]
    · simp [c, d]
  · rw [if_pos (show nI p ≤ 0 from nI_le (b := 0) (by omega) (by omega)), s18]
    simp [c]
def okp (nw tw : Prop) (P K : Nat → Nat) (n : Nat) (L : Nat → Nat) (p : Nat) : Prop := (0 < p → nw → ¬ adjN (P (L (p - 1))) (P (L p))) ∧ (tw → K (L p) = 3 → (0 < p ∧ K (L (p - 1)) = 3) ∨ (p + 1 < n ∧ K (L (p + 1)) = 3))
def LawN (nw tw : Prop) (P K : Nat → Nat) (n : Nat) (L : Nat → Nat) : Prop := ∀ p, p < n → okp nw tw P K n L p
theorem allows_lp (fu : Nat) {o r n : Nat} (ho : xk o = 6) (hr : xk r = 4) {K P L : Nat → Nat} {σ : St} (hv : Vw σ o n K P) (hz : σ.1 r 1 = nI n) (hL : ∀ p, p < n → σ.1 (r + 1) p = nI (L p) ∧ L p < n) : ∀ (m i : Nat), i ≤ n → n - i < m → (∀ p, p < i → okp (¬ σ.1 3 0 = 0) (¬ σ.1 3 2 = 0) P K n L p) → ∃ k, fX4_allows_2 fu 3 o r m (nI i) σ = some (k, σ) ∧ (k = 0 ∨ k = 1) ∧ (k = 1 ↔ LawN (¬ σ.1 3 0 = 0) (¬ σ.1 3 2 = 0) P K n L) := by
  intro m
  induction m with
  | zero => intro i h1 h2; omega
  | succ m ih =>
    intro i h1 h2 hok
    show ∃ k, fX4_allows_2b fu (fX4_allows_2 fu 3 o r m) 3 o r (nI i) σ = _ ∧ _
    have hn := hv.1
    unfold fX4_allows_2b
    rw [osize_eq fu hr, hz]
    simp only [Option.bind_some]
    by_cases c : i < n
    · rw [if_neg (nI_ge c (by omega)), blockIn_eq fu hr hn c hz]
      simp only [Option.bind_some]
      obtain ⟨l1, l2⟩ := hL i c
      rw [l1]
      have ext : okp (¬ σ.1 3 0 = 0) (¬ σ.1 3 2 = 0) P K n L i → ∀ p, p < i + 1 → okp (¬ σ.1 3 0 = 0) (¬ σ.1 3 2 = 0) P K n L p := by
        intro h p hp
        rcases Nat.lt_or_ge p i with q | q
        · exact hok p q
        · have : p = i := by omega
          rw [this]; exact h
      have s40 : (0 < i → ¬ σ.1 3 0 = 0 → ¬ adjN (P (L (i - 1))) (P (L i))) → ∃ k, fX4_allows_40 fu (fX4_allows_2 fu 3 o r m) 3 o r (nI i) (nI (L i)) σ = some (k, σ) ∧ (k = 0 ∨ k = 1) ∧ (k = 1 ↔ LawN (¬ σ.1 3 0 = 0) (¬ σ.1 3 2 = 0) P K n L) := by
        intro hA
        unfold fX4_allows_40 fX4_allows_67
        simp only [nm]
        rw [nI_1, isTwin_eq fu ho (by omega), (hv.2 _ l2).1]
        simp only [Option.bind_some, k3 (hv.2 _ l2).2.1, twinBeside_eq fu ho hr hv hz hL c]
        by_cases t : σ.1 3 2 = 0
        · rw [if_pos t]
          exact ih (i + 1) (by omega) (by omega) (ext ⟨hA, fun q => absurd t q⟩)
        rw [if_neg t]
        by_cases k3' : K (L i) = 3
        · rw [if_pos k3', if_neg (by decide)]
          by_cases b : (0 < i ∧ K (L (i - 1)) = 3) ∨ (i + 1 < n ∧ K (L (i + 1)) = 3)
          · rw [if_pos b, if_neg (by decide)]
            exact ih (i + 1) (by omega) (by omega) (ext ⟨hA, fun _ _ => b⟩)
          · rw [if_neg b, if_pos rfl]
            exact ⟨0, rfl, Or.inl rfl, ⟨fun q => absurd q (by decide), fun q => absurd ((q i c).2 t k3') b⟩⟩
        · rw [if_neg k3', if_pos rfl]
          exact ih (i + 1) (by omega) (by omega) (ext ⟨hA, fun _ q => absurd q k3'⟩)
      by_cases z : 0 < i
      · rw [if_neg (show ¬ nI i ≤ 0 from nI_nle z (by omega)), nI_s1 (by omega), blockIn_eq fu hr hn (by omega) hz]
        simp only [Option.bind_some]
        obtain ⟨l3, l4⟩ := hL (i - 1) (by omega)
        rw [l3, letsLie_eq fu ho hv l4 l2]
        simp only [Option.bind_some]
        by_cases a : ¬ σ.1 3 0 = 0 ∧ adjN (P (L (i - 1))) (P (L i))
        · rw [if_pos a, if_pos rfl]
          exact ⟨0, rfl, Or.inl rfl, ⟨fun q => absurd q (by decide), fun q => absurd a.2 ((q i c).1 z a.1)⟩⟩
        · rw [if_neg a, if_neg (by decide)]
          exact s40 (fun _ q1 q2 => a ⟨q1, q2⟩)
      · rw [if_pos (show nI i ≤ 0 from nI_le (b := 0) (by omega) (by omega))]
        exact s40 (fun q => absurd q z)
    · have : i = n := by omega
      subst this
      rw [if_pos (nI_le (Nat.le_refl _) (by omega))]
      exact ⟨1, rfl, Or.inr rfl, ⟨fun _ => hok, fun _ => rfl⟩⟩
theorem allows_eq {fu : Nat} (hf : 100 ≤ fu) {o r n : Nat} (ho : xk o = 6) (hr : xk r = 4) {K P L : Nat → Nat} {σ : St} (hv : Vw σ o n K P) (hz : σ.1 r 1 = nI n) (hL : ∀ p, p < n → σ.1 (r + 1) p = nI (L p) ∧ L p < n) : ∃ k, fX4_allows fu 3 o r σ = some (k, σ) ∧ (k = 0 ∨ k = 1) ∧ (k = 1 ↔ LawN (¬ σ.1 3 0 = 0) (¬ σ.1 3 2 = 0) P K n L) := by
  have hn := hv.1
  unfold fX4_allows fX4_allows_0
  rw [if_pos xv_3, if_pos ho, if_pos hr]
  exact allows_lp fu ho hr hv hz hL fu 0 (by omega) (by omega) (fun p hp => by omega)
/-- the reference's street as naturals: lie in row b -/
def Mw (σ : St) (b n : Nat) (K P : Nat → Nat) : Prop := n ≤ 7 ∧ σ.1 43 12 = nI n ∧ ∀ j, j < n → σ.1 45 j = nI (K j) ∧ K j ≤ 4 ∧ σ.1 b j = nI (P j) ∧ P j < 7
theorem isLawful_lp (fu : Nat) {b n : Nat} {K P L : Nat → Nat} {σ : St} (hv : Mw σ b n K P) (hL : ∀ p, p < n → σ.1 51 p = nI (L p) ∧ L p < n) : ∀ (m i : Nat) (x : Int32), i ≤ n → n - i < m → (x = 0 ∨ x = 1) → (x = 1 ↔ ∀ p, p < i → okp (¬ σ.1 43 2 = 0) (¬ σ.1 43 4 = 0) P K n L p) → ∃ k, fX10_isLawful_4 fu 43 b m x (nI i) σ = some (k, σ) ∧ (k = 0 ∨ k = 1) ∧ (k = 1 ↔ LawN (¬ σ.1 43 2 = 0) (¬ σ.1 43 4 = 0) P K n L) := by
  intro m
  induction m with
  | zero => intro i x h1 h2; omega
  | succ m ih =>
    intro i x h1 h2 hx hok
    show ∃ k, fX10_isLawful_4b fu (fX10_isLawful_4 fu 43 b m) 43 b x (nI i) σ = _ ∧ _
    obtain ⟨hn, hz, hv⟩ := hv
    by_cases c : i < n
    · obtain ⟨l1, l2⟩ := hL i c
      have q0 : ∀ q, q < n → ald σ 51 7 (nI q) = some (nI (L q)) := fun q hq => by rw [ald_nI (by omega) (by omega), (hL q hq).1]
      have q1 : ∀ q, q < n → ald σ 45 7 (nI (L q)) = some (nI (K (L q))) := fun q hq => by rw [ald_nI (by have := (hL q hq).2; omega) (by omega), (hv _ (hL q hq).2).1]
      have q2 : ∀ q, q < n → ald σ b 7 (nI (L q)) = some (nI (P (L q))) := fun q hq => by rw [ald_nI (by have := (hL q hq).2; omega) (by omega), (hv _ (hL q hq).2).2.2.1]
      have q3 : ∀ q, q < n → (nI (K (L q)) = 3 ↔ K (L q) = 3) := fun q hq => k3 (hv _ (hL q hq).2).2.1
      have step : ∀ g : Int32, (g = 0 ∨ g = 1) → (g = 1 ↔ x = 1 ∧ okp (¬ σ.1 43 2 = 0) (¬ σ.1 43 4 = 0) P K n L i) → ∃ k, fX10_isLawful_162 fu (fX10_isLawful_4 fu 43 b m) 43 b (nI i) g σ = some (k, σ) ∧ (k = 0 ∨ k = 1) ∧ (k = 1 ↔ LawN (¬ σ.1 43 2 = 0) (¬ σ.1 43 4 = 0) P K n L) := by
        intro g hg h
        unfold fX10_isLawful_162
        simp only [nm]
        rw [nI_1]
        refine ih (i + 1) g (by omega) (by omega) hg ?_
        rw [h, hok]
        constructor
        · intro ⟨z1, z2⟩ p hp
          rcases Nat.lt_or_ge p i with q | q
          · exact z1 p q
          · have : p = i := by omega
            rw [this]; exact z2
        · intro z
          exact ⟨fun p hp => z p (by omega), z i (by omega)⟩
      -- the second half: neighbours
      have s115 : ∀ g : Int32, (g = 0 ∨ g = 1) → (g = 1 ↔ x = 1 ∧ (¬ σ.1 43 4 = 0 → K (L i) = 3 → (0 < i ∧ K (L (i - 1)) = 3) ∨ (i + 1 < n ∧ K (L (i + 1)) = 3))) → ∃ k, fX10_isLawful_115 fu (fX10_isLawful_4 fu 43 b m) 43 b (nI i) g σ = some (k, σ) ∧ (k = 0 ∨ k = 1) ∧ (k = 1 ↔ LawN (¬ σ.1 43 2 = 0) (¬ σ.1 43 4 = 0) P K n L) := by
        intro g hg h
        unfold fX10_isLawful_115 fX10_isLawful_161 fX10_isLawful_157
        by_cases g0 : g = 0
        · rw [if_pos g0]
          exact step 0 (Or.inl rfl) ⟨fun q => absurd q (by decide), fun q => by
            have := h.mpr ⟨q.1, q.2.2⟩
            rw [g0] at this; exact absurd this (by decide)⟩
        rw [if_neg g0]
        have g1 : g = 1 := hg.resolve_left g0
        obtain ⟨x1, tw⟩ := h.mp g1
        by_cases n0 : σ.1 43 2 = 0
        · rw [if_pos n0]
          exact step 1 (Or.inr rfl) ⟨fun _ => ⟨x1, fun _ q => absurd n0 q, tw⟩, fun _ => rfl⟩
        rw [if_neg n0]
        by_cases i0 : i = 0
        · rw [if_pos (show nI i = 0 from by rw [i0]; rfl)]
          exact step 1 (Or.inr rfl) ⟨fun _ => ⟨x1, fun q => by omega, tw⟩, fun _ => rfl⟩
        · rw [if_neg (show ¬ nI i = 0 from nI_ne0 (by omega) (by omega)), rv_43_19, q0 i c]
          simp only [Option.bind_some, q2 i c]
          rw [nI_s1 (by omega), q0 (i - 1) (by omega)]
          simp only [Option.bind_some, q2 (i - 1) (by omega), msize_eq]
          have ha := msize_adj _ (hv _ l2).2.2.2 _ (hv _ (hL (i - 1) (by omega)).2).2.2.2
          by_cases ad : adjN (P (L i)) (P (L (i - 1)))
          · rw [if_pos (ha.mpr ad)]
            exact step 0 (Or.inl rfl) ⟨fun q => absurd q (by decide), fun q => absurd (by rcases ad with z | z; exact Or.inr z; exact Or.inl z) (q.2.1 (by omega) n0)⟩
          · rw [if_neg (fun q => ad (ha.mp q))]
            exact step 1 (Or.inr rfl) ⟨fun _ => ⟨x1, fun _ _ z => ad (by rcases z with z | z; exact Or.inr z; exact Or.inl z), tw⟩, fun _ => rfl⟩
      have s72 : ∀ be bh : Int32, (be = 0 ∨ be = 1) → (bh = 0 ∨ bh = 1) → (be = 1 ↔ 0 < i ∧ K (L (i - 1)) = 3) → (bh = 1 ↔ i + 1 < n ∧ K (L (i + 1)) = 3) → ∃ k, fX10_isLawful_72 fu (fX10_isLawful_4 fu 43 b m) 43 b x (nI i) be bh σ = some (k, σ) ∧ (k = 0 ∨ k = 1) ∧ (k = 1 ↔ LawN (¬ σ.1 43 2 = 0) (¬ σ.1 43 4 = 0) P K n L) := by
        intro be bh hbe hbh e1 e2
        unfold fX10_isLawful_72 fX10_isLawful_114 fX10_isLawful_110
        by_cases x0 : x = 0
        · rw [if_pos x0]
          exact s115 0 (Or.inl rfl) ⟨fun q => absurd q (by decide), fun q => by rw [x0] at q; exact absurd q.1 (by decide)⟩
        rw [if_neg x0]
        have x1 : x = 1 := hx.resolve_left x0
        by_cases t0 : σ.1 43 4 = 0
        · rw [if_pos t0]
          exact s115 1 (Or.inr rfl) ⟨fun _ => ⟨x1, fun q => absurd t0 q⟩, fun _ => rfl⟩
        rw [if_neg t0, rv_43_19, rv_43_13, q0 i c]
        simp only [Option.bind_some, q1 i c, q3 i c]
        by_cases kk : K (L i) = 3
        · rw [if_pos kk]
          by_cases be0 : be = 0
          · rw [if_pos be0]
            have n1 : ¬ (0 < i ∧ K (L (i - 1)) = 3) := fun q => by have := e1.mpr q; rw [be0] at this; exact absurd this (by decide)
            by_cases bh0 : bh = 0
            · rw [if_pos bh0]
              have n2 : ¬ (i + 1 < n ∧ K (L (i + 1)) = 3) := fun q => by have := e2.mpr q; rw [bh0] at this; exact absurd this (by decide)
              exact s115 0 (Or.inl rfl) ⟨fun q => absurd q (by decide), fun q => absurd (q.2 t0 kk) (fun z => z.elim n1 n2)⟩
            · rw [if_neg bh0]
              exact s115 1 (Or.inr rfl) ⟨fun _ => ⟨x1, fun _ _ => Or.inr (e2.mp (hbh.resolve_left bh0))⟩, fun _ => rfl⟩
          · rw [if_neg be0]
            exact s115 1 (Or.inr rfl) ⟨fun _ => ⟨x1, fun _ _ => Or.inl (e1.mp (hbe.resolve_left be0))⟩, fun _ => rfl⟩
        · rw [if_neg kk]
          exact s115 1 (Or.inr rfl) ⟨fun _ => ⟨x1, fun _ q => absurd q kk⟩, fun _ => rfl⟩
      have s38 : ∀ be : Int32, (be = 0 ∨ be = 1) → (be = 1 ↔ 0 < i ∧ K (L (i - 1)) = 3) → ∃ k, fX10_isLawful_38 fu (fX10_isLawful_4 fu 43 b m) 43 b x (nI i) be σ = some (k, σ) ∧ (k = 0 ∨ k = 1) ∧ (k = 1 ↔ LawN (¬ σ.1 43 2 = 0) (¬ σ.1 43 4 = 0) P K n L) := by
        intro be hbe e1
        unfold fX10_isLawful_38 fX10_isLawful_71
        rw [hz, nI_1, nI_s1 (by omega)]
        by_cases z : i + 1 < n
        · rw [if_neg (nI_ge (by omega) (by omega)), rv_43_19, rv_43_13, q0 _ z]
          simp only [Option.bind_some, q1 _ z, q3 _ z]
          by_cases kk : K (L (i + 1)) = 3
          · rw [if_pos kk]
            exact s72 be 1 hbe (Or.inr rfl) e1 ⟨fun _ => ⟨z, kk⟩, fun _ => rfl⟩
          · rw [if_neg kk]
            exact s72 be 0 hbe (Or.inl rfl) e1 ⟨fun q => absurd q (by decide), fun q => absurd q.2 kk⟩
        · rw [if_pos (nI_le (by omega) (by omega))]
          exact s72 be 0 hbe (Or.inl rfl) e1 ⟨fun q => absurd q (by decide), fun q => absurd q.1 z⟩
      unfold fX10_isLawful_4b fX10_isLawful_37
      rw [hz, if_neg (nI_ge c (by omega))]
      by_cases z : 0 < i
      · rw [if_neg (show ¬ nI i ≤ 0 from nI_nle z (by omega)), rv_43_19, rv_43_13, nI_s1 (by omega), q0 (i - 1) (by omega)]
        simp only [Option.bind_some, q1 (i - 1) (by omega), q3 (i - 1) (by omega)]
        by_cases kk : K (L (i - 1)) = 3
        · rw [if_pos kk]
          exact s38 1 (Or.inr rfl) ⟨fun _ => ⟨z, kk⟩, fun _ => rfl⟩
        · rw [if_neg kk]
          exact s38 0 (Or.inl rfl) ⟨fun q => absurd q (by decide), fun q => absurd q.2 kk⟩
      · rw [if_pos (show nI i ≤ 0 from nI_le (b := 0) (by omega) (by omega))]
        exact s38 0 (Or.inl rfl) ⟨fun q => absurd q (by decide), fun q => absurd q.1 z⟩
    · have : i = n := by omega
      subst this
      unfold fX10_isLawful_4b
      rw [hz, if_pos (nI_le (Nat.le_refl _) (by omega)), if_pos hx]
      exact ⟨x, rfl, hx, hok⟩
theorem isLawful_eq {fu : Nat} (hf : 100 ≤ fu) {b n : Nat} (hb : xk b = 16) {K P L : Nat → Nat} {σ : St} (hv : Mw σ b n K P) (hL : ∀ p, p < n → σ.1 51 p = nI (L p) ∧ L p < n) : ∃ k, fX10_isLawful fu 43 b σ = some (k, σ) ∧ (k = 0 ∨ k = 1) ∧ (k = 1 ↔ LawN (¬ σ.1 43 2 = 0) (¬ σ.1 43 4 = 0) P K n L) := by
  have hn := hv.1
  unfold fX10_isLawful fX10_isLawful_0
  rw [if_pos xv_43, if_pos hb]
  exact isLawful_lp fu hv hL fu 0 1 (by omega) (by omega) (Or.inr rfl) ⟨fun _ p hp => by omega, fun _ => rfl⟩
