/-! thief -/
def P1 (p0 : Nat) (P : Nat → Nat) (c : Nat) : Nat := if p0 < P c then P c - 1 else P c
def L1 (p0 : Nat) (L : Nat → Nat) (p : Nat) : Nat := if p0 ≤ p then L (p + 1) else L p
theorem PL1 {n p0 b c : Nat} {P L : Nat → Nat} (hP : ∀ c, c < n → P c < n ∧ L (P c) = c) (hb : b < n) (h0 : P b = p0) (hc : c < n) (hcb : c ≠ b) : P1 p0 P c < n - 1 ∧ L1 p0 L (P1 p0 P c) = c := by
  obtain ⟨h1, h2⟩ := hP c hc
  have h3 := (hP b hb).1
  have hne : P c ≠ p0 := fun e => hcb (by rw [← h2, e, ← h0, (hP b hb).2])
  unfold P1
  by_cases k : p0 < P c
  · rw [if_pos k]
    refine ⟨by omega, ?_⟩
    unfold L1
    rw [if_pos (by omega), show P c - 1 + 1 = P c by omega, h2]
  · rw [if_neg k]
    refine ⟨by omega, ?_⟩
    unfold L1
    rw [if_neg (by omega), h2]
theorem LP1 {n p0 b p : Nat} {P L : Nat → Nat} (hP : ∀ c, c < n → P c < n ∧ L (P c) = c) (hL : ∀ p, p < n → L p < n ∧ P (L p) = p) (hb : b < n) (h0 : P b = p0) (hp : p < n - 1) : L1 p0 L p < n ∧ L1 p0 L p ≠ b ∧ P1 p0 P (L1 p0 L p) = p := by
  unfold L1
  by_cases k : p0 ≤ p
  · rw [if_pos k]
    obtain ⟨h1, h2⟩ := hL (p + 1) (by omega)
    refine ⟨h1, fun e => ?_, ?_⟩
    · rw [e] at h2; omega
    · unfold P1
      rw [h2, if_pos (by omega)]
      omega
  · rw [if_neg k]
    obtain ⟨h1, h2⟩ := hL p (by omega)
    refine ⟨h1, fun e => ?_, ?_⟩
    · rw [e] at h2; omega
    · unfold P1
      rw [h2, if_neg (by omega)]
theorem shf {α : Type} {f g : Nat → α} {b i : Nat} (hb : b ≤ i) (h : ∀ j, f j = if b ≤ j ∧ j < i then g (j + 1) else g j) (j : Nat) : (if j = i then f (i + 1) else f j) = if b ≤ j ∧ j < i + 1 then g (j + 1) else g j := by
  by_cases c : j = i
  · subst c
    rw [if_pos rfl, h, if_neg (by omega), if_pos ⟨hb, by omega⟩]
  · rw [if_neg c, h]
    by_cases d : b ≤ j ∧ j < i
    · rw [if_pos d, if_pos ⟨d.1, by omega⟩]
    · rw [if_neg d, if_neg (by omega)]
def T1 (σ : St) (n p0 : Nat) (P L : Nat → Nat) (i : Nat) (τ : St) : Prop := (∀ r, r ≠ 9 → r ≠ 10 → τ.1 r = σ.1 r) ∧ (∀ p, p < i → τ.1 10 p = nI (L1 p0 L p)) ∧ (∀ p, i ≤ p → p < n → τ.1 10 p = nI (L p)) ∧ ∀ c, c < n → τ.1 9 c = nI (if p0 < P c ∧ P c ≤ i then P c - 1 else P c)
def T2 (σ : St) (n b : Nat) (LL : Nat → Nat) (i : Nat) (τ : St) : Prop := (∀ r, r < 5 ∨ 10 < r → τ.1 r = σ.1 r) ∧ (∀ r, 5 ≤ r → r ≤ 9 → ∀ j, τ.1 r j = if b ≤ j ∧ j < i then σ.1 r (j + 1) else σ.1 r j) ∧ ∀ p, p < n - 1 → τ.1 10 p = nI (if b < LL p ∧ LL p ≤ i then LL p - 1 else LL p)
theorem take38 (fu : Nat) {n b p0 : Nat} {P L : Nat → Nat} {σ : St} (hn : n ≤ 7) (hz : σ.1 4 7 = nI n) (hb : b < n) (h0 : P b = p0) (hP : ∀ c, c < n → P c < n ∧ L (P c) = c) (hL : ∀ p, p < n → L p < n ∧ P (L p) = p) (h9 : ∀ c, c < n → σ.1 9 c = nI (P1 p0 P c)) (x1 : Int32) : ∀ (m i : Nat) (τ : St), b ≤ i → i < n → n - i < m → T2 σ n b (L1 p0 L) i τ → ∃ τ', fX8_takeAway_38 fu 4 x1 m (nI i) τ = some (si τ' 4 7 (nI (n - 1))) ∧ T2 σ n b (L1 p0 L) (n - 1) τ' := by
  intro m
  induction m with
  | zero => intro i _ _ _ h; omega
  | succ m ih =>
    intro i τ hbi hi hm hT
    obtain ⟨t1, t2, t3⟩ := id hT
    show ∃ τ', fX8_takeAway_38b fu (fX8_takeAway_38 fu 4 x1 m) 4 x1 (nI i) τ = _ ∧ _
    unfold fX8_takeAway_38b
    have hz' : τ.1 4 7 = nI n := by rw [t1 4 (by omega)]; exact hz
    rw [hz', nI_1]
    by_cases c : i + 1 < n
    · rw [if_neg (nI_ge c (by omega)), rv_4_0, rv_4_1, rv_4_2, rv_4_3, rv_4_4]
      have q0 : ∀ (υ : St) a, ald υ a 7 (nI (i + 1)) = some (υ.1 a (i + 1)) := fun υ a => ald_nI (by omega) (by omega)
      have q1 : ∀ (υ : St) a x, ast υ a 7 (nI i) x = some (si υ a i x) := fun υ a x => ast_nI (by omega) (by omega)
      simp only [q0, q1, Option.bind_some]
      obtain ⟨υ, eυ⟩ : ∃ υ, υ = si (si (si (si τ 5 i (τ.1 5 (i + 1))) 6 i (τ.1 6 (i + 1))) 7 i (τ.1 7 (i + 1))) 8 i (τ.1 8 (i + 1)) := ⟨_, rfl⟩
      have ex : ∀ w : Option St → Prop, w ((fX8_put fu 4 (nI i) (υ.1 9 (i + 1)) υ).bind fun q112 => nm (nI (i + 1)) fun y113 => fX8_takeAway_38 fu 4 x1 m y113 q112) → w ((fX8_put fu 4 (nI i) ((si (si (si (si τ 5 i (τ.1 5 (i + 1))) 6 i ((si τ 5 i (τ.1 5 (i + 1))).1 6 (i + 1))) 7 i ((si (si τ 5 i (τ.1 5 (i + 1))) 6 i ((si τ 5 i (τ.1 5 (i + 1))).1 6 (i + 1))).1 7 (i + 1))) 8 i ((si (si (si τ 5 i (τ.1 5 (i + 1))) 6 i ((si τ 5 i (τ.1 5 (i + 1))).1 6 (i + 1))) 7 i ((si (si τ 5 i (τ.1 5 (i + 1))) 6 i ((si τ 5 i (τ.1 5 (i + 1))).1 6 (i + 1))).1 7 (i + 1))).1 8 (i + 1))).1 9 (i + 1)) (si (si (si (si τ 5 i (τ.1 5 (i + 1))) 6 i ((si τ 5 i (τ.1 5 (i + 1))).1 6 (i + 1))) 7 i ((si (si τ 5 i (τ.1 5 (i + 1))) 6 i ((si τ 5 i (τ.1 5 (i + 1))).1 6 (i + 1))).1 7 (i + 1))) 8 i ((si (si (si τ 5 i (τ.1 5 (i + 1))) 6 i ((si τ 5 i (τ.1 5 (i + 1))).1 6 (i + 1))) 7 i ((si (si τ 5 i (τ.1 5 (i + 1))) 6 i ((si τ 5 i (τ.1 5 (i + 1))).1 6 (i + 1))).1 7 (i + 1))).1 8 (i + 1)))).bind fun q112 => nm (nI (i + 1)) fun y113 => fX8_takeAway_38 fu 4 x1 m y113 q112) := by
        intro w hw; rw [eυ] at hw; exact hw
      refine ex (fun z => ∃ τ', z = some (si τ' 4 7 (nI (n - 1))) ∧ T2 σ n b (L1 p0 L) (n - 1) τ') ?_
      have hc := PL1 hP hb h0 (show i + 1 < n from c) (show i + 1 ≠ b by omega)
      have v9 : υ.1 9 (i + 1) = nI (P1 p0 P (i + 1)) := by
        rw [eυ]
        show τ.1 9 (i + 1) = _
        rw [t2 9 (by omega) (by omega), if_neg (by omega), h9 _ c]
      rw [v9, put_eq fu xv_4 (show i < 7 by omega) (show P1 p0 P (i + 1) < 7 by omega)]
      simp only [Option.bind_some, nm]
      refine ih (i + 1) _ (by omega) (by omega) (by omega) ⟨fun r hr => ?_, fun r r5 r9 j => ?_, fun p hp => ?_⟩
      · rw [eυ]
        simp only [si_row]
        rw [if_neg (by omega), if_neg (by omega), if_neg (by omega), if_neg (by omega), if_neg (by omega), if_neg (by omega)]
        exact t1 r hr
      · have key := shf hbi (fun j => t2 r r5 r9 j) j
        rw [← key, eυ]
        have h5 : r = 5 ∨ r = 6 ∨ r = 7 ∨ r = 8 ∨ r = 9 := by omega
        rcases h5 with rfl | rfl | rfl | rfl | rfl
        · exact upd_app _ _ _ _
        · exact upd_app _ _ _ _
        · exact upd_app _ _ _ _
        · exact upd_app _ _ _ _
        · show upd (τ.1 9) i (nI (P1 p0 P (i + 1))) j = _
          rw [← v9, eυ]
          exact upd_app _ _ _ _
      · rw [eυ]
        show upd (τ.1 10) (P1 p0 P (i + 1)) (nI i) p = _
        rw [upd_app]
        by_cases d : p = P1 p0 P (i + 1)
        · rw [if_pos d, d, hc.2, if_pos ⟨by omega, by omega⟩]; rfl
        · rw [if_neg d, t3 p hp]
          have hl := LP1 hP hL hb h0 hp
          have : L1 p0 L p ≠ i + 1 := fun e => d (by rw [← e]; exact hl.2.2.symm)
          by_cases e : b < L1 p0 L p ∧ L1 p0 L p ≤ i
          · rw [if_pos e, if_pos ⟨e.1, by omega⟩]
          · rw [if_neg e, if_neg (by omega)]
    · have : i = n - 1 := by omega
      subst this
      rw [if_pos (nI_le (by omega) (by omega)), nI_s1 (by omega)]
      exact ⟨τ, rfl, hT⟩
theorem take7 {fu : Nat} (hf : 100 ≤ fu) {n b p0 : Nat} {P L : Nat → Nat} {σ : St} (hn : n ≤ 7) (hz : σ.1 4 7 = nI n) (hb : b < n) (h0 : P b = p0) (hP : ∀ c, c < n → P c < n ∧ L (P c) = c) (hL : ∀ p, p < n → L p < n ∧ P (L p) = p) : ∀ (m i : Nat) (τ : St), p0 ≤ i → i < n → n - i < m → T1 σ n p0 P L i τ → ∃ σ1 τ', fX8_takeAway_7 fu 4 (nI b) m (nI i) τ = some (si τ' 4 7 (nI (n - 1))) ∧ T1 σ n p0 P L (n - 1) σ1 ∧ T2 σ1 n b (L1 p0 L) (n - 1) τ' := by
  intro m
  induction m with
  | zero => intro i _ _ _ h; omega
  | succ m ih =>
    intro i τ hbi hi hm hT
    obtain ⟨t1, t2, t3, t4⟩ := id hT
    show ∃ σ1 τ', fX8_takeAway_7b fu (fX8_takeAway_7 fu 4 (nI b) m) 4 (nI b) (nI i) τ = _ ∧ _ ∧ _
    unfold fX8_takeAway_7b
    have hz' : τ.1 4 7 = nI n := by rw [t1 4 (by omega) (by omega)]; exact hz
    rw [hz', nI_1]
    by_cases c : i + 1 < n
    · rw [if_neg (nI_ge c (by omega)), rv_4_5, ald_nI (by omega) (by omega), t3 (i + 1) (by omega) c]
      obtain ⟨l1, l2⟩ := hL (i + 1) c
      simp only [Option.bind_some, nm]
      rw [put_eq fu xv_4 (show L (i + 1) < 7 by omega) (show i < 7 by omega)]
      simp only [Option.bind_some]
      refine ih (i + 1) _ (by omega) c (by omega) ⟨fun r r1 r2 => ?_, fun p hp => ?_, fun p g1 g2 => ?_, fun d hd => ?_⟩
      · rw [si_row, if_neg r2, si_row, if_neg r1]; exact t1 r r1 r2
      · show upd (τ.1 10) i (nI (L (i + 1))) p = _
        rw [upd_app]
        by_cases e : p = i
        · rw [if_pos e, e]; unfold L1; rw [if_pos hbi]
        · rw [if_neg e]; exact t2 p (by omega)
      · show upd (τ.1 10) i (nI (L (i + 1))) p = _
        rw [upd_ne _ _ (by omega)]; exact t3 p (by omega) g2
      · show upd (τ.1 9) (L (i + 1)) (nI i) d = _
        rw [upd_app]
        by_cases e : d = L (i + 1)
        · rw [if_pos e, e, l2, if_pos ⟨by omega, by omega⟩]; rfl
        · rw [if_neg e, t4 d hd]
          have : P d ≠ i + 1 := fun q => e (by rw [← q, (hP d hd).2])
          by_cases f : p0 < P d ∧ P d ≤ i
          · rw [if_pos f, if_pos ⟨f.1, by omega⟩]
          · rw [if_neg f, if_neg (by omega)]
    · have : i = n - 1 := by omega
      subst this
      rw [if_pos (nI_le (by omega) (by omega))]
      have h9 : ∀ c, c < n → τ.1 9 c = nI (P1 p0 P c) := fun c hc => by
        rw [t4 c hc]
        have := (hP c hc).1
        unfold P1
        by_cases k : p0 < P c
        · rw [if_pos k, if_pos ⟨k, by omega⟩]
        · rw [if_neg k, if_neg (fun q => k q.1)]
      obtain ⟨τ', k1, k2⟩ := take38 fu hn hz' hb h0 hP hL h9 (nI b) fu b τ (Nat.le_refl _) hb (by omega) ⟨fun r _ => rfl, fun r _ _ j => by rw [if_neg (by omega)], fun p hp => by rw [if_neg (by omega)]; exact t2 p hp⟩
      exact ⟨τ, τ', k1, hT, k2⟩
/-- the reference's rows behind the stolen block move down -/
def T3 (σ : St) (b i : Nat) (τ : St) : Prop := (∀ r, r < 45 ∨ 49 < r → τ.1 r = σ.1 r) ∧ ∀ r, 45 ≤ r → r ≤ 49 → ∀ j, τ.1 r j = if b ≤ j ∧ j < i then σ.1 r (j + 1) else σ.1 r j
def T4 (σ : St) (n p0 b : Nat) (P : Nat → Nat) (i : Nat) (τ : St) : Prop := (∀ r, r ≠ 48 → τ.1 r = σ.1 r) ∧ ∀ j, j < n - 1 → τ.1 48 j = if j < i then nI (P1 p0 P (if j < b then j else j + 1)) else nI (P (if j < b then j else j + 1))
theorem mth129 (fu : Nat) {n b p0 : Nat} {P : Nat → Nat} {σ : St} (hn : n ≤ 7) (hz : σ.1 43 12 = nI (n - 1)) (hP : ∀ c, c < n → P c < n) (hp0 : p0 < n) (x1 : Int32) : ∀ (m i : Nat) (τ : St), i ≤ n - 1 → n - 1 - i < m → T4 σ n p0 b P i τ → ∃ τ', fX10_thief_129 fu 43 x1 m (nI p0) (nI i) τ = some (nI (n - 1), τ') ∧ T4 σ n p0 b P (n - 1) τ' := by
  intro m
  induction m with
  | zero => intro i _ _ h; omega
  | succ m ih =>
    intro i τ hi hm hT
    obtain ⟨t1, t2⟩ := id hT
    show ∃ τ', fX10_thief_129b fu (fX10_thief_129 fu 43 x1 m) 43 x1 (nI p0) (nI i) τ = _ ∧ _
    unfold fX10_thief_129b fX10_thief_159
    have hz' : τ.1 43 12 = nI (n - 1) := by rw [t1 43 (by omega)]; exact hz
    rw [hz']
    by_cases c : i < n - 1
    · have hv := t2 i c
      rw [if_neg (Nat.lt_irrefl i)] at hv
      obtain ⟨k, ek⟩ : ∃ k, k = if i < b then i else i + 1 := ⟨_, rfl⟩
      rw [← ek] at hv
      have hk : k < n := by rw [ek]; split <;> omega
      have hpk := hP k hk
      rw [if_neg (nI_ge c (by omega)), rv_43_16, ald_nI (by omega) (by omega), hv]
      simp only [Option.bind_some, nm]
      have fin : ∀ w : Int32, w = nI (P1 p0 P k) → ∃ τ', ((ast τ 48 7 (nI i) w).bind fun σ101 => fX10_thief_129 fu 43 x1 m (nI p0) (nI i + 1) σ101) = some (nI (n - 1), τ') ∧ T4 σ n p0 b P (n - 1) τ' := by
        intro w hw
        rw [ast_nI (by omega) (by omega), nI_1]
        refine ih (i + 1) _ (by omega) (by omega) ⟨fun r hr => by rw [si_row, if_neg hr]; exact t1 r hr, fun j hj => ?_⟩
        show upd (τ.1 48) i w j = _
        rw [upd_app]
        by_cases e : j = i
        · rw [if_pos e, if_pos (by omega), hw, e, ← ek]
        · rw [if_neg e, t2 j hj]
          by_cases f : j < i
          · rw [if_pos f, if_pos (show j < i + 1 by omega)]
          · rw [if_neg f, if_neg (show ¬ j < i + 1 by omega)]
      by_cases d : P k ≤ p0
      · rw [if_pos (nI_le d (by omega))]
        refine fin _ ?_
        unfold P1
        rw [if_neg (by omega), show (0 : Int32) = nI 0 from rfl, pk_sub (by omega)]
        rfl
      · rw [if_neg (nI_ge (by omega) (by omega))]
        refine fin _ ?_
        unfold P1
        rw [if_pos (by omega), nI_s1 (by omega)]
    · have : i = n - 1 := by omega
      subst this
      rw [if_pos (nI_le (Nat.le_refl _) (by omega))]
      exact ⟨τ, rfl, hT⟩
theorem mth31 {fu : Nat} (hf : 100 ≤ fu) {n b p0 : Nat} {P : Nat → Nat} {σ : St} (hn : n ≤ 7) (hz : σ.1 43 12 = nI n) (hP : ∀ c, c < n → P c < n) (h48 : ∀ c, c < n → σ.1 48 c = nI (P c)) (hp0 : p0 < n) (hb : b < n) (x1 : Int32) : ∀ (m i : Nat) (τ : St), b ≤ i → i < n → n - i < m → T3 σ b i τ → ∃ τ1 τ', fX10_thief_31 fu 43 x1 m (nI p0) (nI i) τ = some (nI (n - 1), τ') ∧ T3 σ b (n - 1) τ1 ∧ T4 (si τ1 43 12 (nI (n - 1))) n p0 b P (n - 1) τ' := by
  intro m
  induction m with
  | zero => intro i _ _ _ h; omega
  | succ m ih =>
    intro i τ hbi hi hm hT
    obtain ⟨t1, t2⟩ := id hT
    show ∃ τ1 τ', fX10_thief_31b fu (fX10_thief_31 fu 43 x1 m) 43 x1 (nI p0) (nI i) τ = _ ∧ _ ∧ _
    unfold fX10_thief_31b
    have hz' : τ.1 43 12 = nI n := by rw [t1 43 (by omega)]; exact hz
    rw [hz', nI_s1 (by omega)]
    by_cases c : i < n - 1
    · rw [if_neg (nI_ge c (by omega)), rv_43_13, rv_43_14, rv_43_15, rv_43_16, rv_43_17, nI_1]
      have q0 : ∀ (υ : St) a, ald υ a 7 (nI (i + 1)) = some (υ.1 a (i + 1)) := fun υ a => ald_nI (by omega) (by omega)
      have q1 : ∀ (υ : St) a x, ast υ a 7 (nI i) x = some (si υ a i x) := fun υ a x => ast_nI (by omega) (by omega)
      simp only [q0, q1, Option.bind_some, nm]
      refine ih (i + 1) _ (by omega) (by omega) (by omega) ⟨fun r hr => ?_, fun r r5 r9 j => ?_⟩
      · simp only [si_row]
        rw [if_neg (by omega), if_neg (by omega), if_neg (by omega), if_neg (by omega), if_neg (by omega)]
        exact t1 r hr
      · have key := shf hbi (fun j => t2 r r5 r9 j) j
        rw [← key]
        have h5 : r = 45 ∨ r = 46 ∨ r = 47 ∨ r = 48 ∨ r = 49 := by omega
        rcases h5 with rfl | rfl | rfl | rfl | rfl
        · exact upd_app _ _ _ _
        · exact upd_app _ _ _ _
        · exact upd_app _ _ _ _
        · exact upd_app _ _ _ _
        · exact upd_app _ _ _ _
    · have : i = n - 1 := by omega
      subst this
      rw [if_pos (nI_le (by omega) (by omega))]
      simp only [nm]
      obtain ⟨τ', k1, k2⟩ := mth129 fu (σ := si τ 43 12 (nI (n - 1))) (b := b) hn rfl hP hp0 x1 fu 0 (si τ 43 12 (nI (n - 1))) (by omega) (by omega) ⟨fun r _ => rfl, fun j hj => by
        rw [if_neg (by omega)]
        show τ.1 48 j = _
        rw [t2 48 (by omega) (by omega)]
        by_cases d : j < b
        · rw [if_pos d, if_neg (by omega)]; exact h48 j (by omega)
        · rw [if_neg d, if_pos ⟨by omega, hj⟩]; exact h48 (j + 1) (by omega)⟩
      exact ⟨τ, τ', k1, hT, k2⟩
theorem sm_thief {fu : Nat} (hf : 100 ≤ fu) : Sm_thief fu Inv := by
  intro σ x hI
  obtain ⟨⟨n, hW, hM⟩, hPg, hLw, hC, hIm⟩ := id hI
  obtain ⟨hn, hz, w1, w2, w3, w4⟩ := id hW
  by_cases hb : x < 0 ∨ nI n ≤ x
  · refine ⟨(-101, σ), (-101, σ), ?_, ?_, rfl, hI⟩
    · simp [fX9_thief_0, fX9_thief, xv_0, xv_1, xv_3, xv_4, xv_12, xv_20, xv_22, xv_27, xv_29, xv_32, xv_34, xv_35, xv_43, rv_0_0, rv_0_1, rv_0_2, rv_0_3, rv_0_4, rv_0_5, rv_0_6, rv_0_7, rv_1_0, rv_4_0, rv_4_1, rv_4_2, rv_4_3, rv_4_4, rv_4_5, rv_4_6, rv_12_0, rv_12_1, rv_12_2, rv_12_3, rv_12_4, rv_12_5, rv_12_6, rv_35_0, rv_35_1, rv_35_2, rv_35_3, rv_35_4, rv_35_5, rv_35_6, rv_20_0, rv_27_0, rv_32_0, rv_22_0, rv_22_1, rv_22_2, rv_22_3, rv_22_4, rv_29_0, rv_29_1, rv_29_2, rv_34_0, rv_43_0, rv_43_13, rv_43_14, rv_43_15, rv_43_16, rv_43_17, rv_43_18, rv_43_19, rv_43_20, rv_43_21, rv_43_22, rv_43_30, if_true, Option.bind_some, nm, hasBlock4, hz, hb]
    · simp [fX10_thief_159, fX10_thief_129b, fX10_thief_129, fX10_thief_31b, fX10_thief_31, fX10_thief_0, fX10_thief, xv_0, xv_1, xv_3, xv_4, xv_12, xv_20, xv_22, xv_27, xv_29, xv_32, xv_34, xv_35, xv_43, rv_0_0, rv_0_1, rv_0_2, rv_0_3, rv_0_4, rv_0_5, rv_0_6, rv_0_7, rv_1_0, rv_4_0, rv_4_1, rv_4_2, rv_4_3, rv_4_4, rv_4_5, rv_4_6, rv_12_0, rv_12_1, rv_12_2, rv_12_3, rv_12_4, rv_12_5, rv_12_6, rv_35_0, rv_35_1, rv_35_2, rv_35_3, rv_35_4, rv_35_5, rv_35_6, rv_20_0, rv_27_0, rv_32_0, rv_22_0, rv_22_1, rv_22_2, rv_22_3, rv_22_4, rv_29_0, rv_29_1, rv_29_2, rv_34_0, rv_43_0, rv_43_13, rv_43_14, rv_43_15, rv_43_16, rv_43_17, rv_43_18, rv_43_19, rv_43_20, rv_43_21, rv_43_22, rv_43_30, if_true, Option.bind_some, nm, isBlock_eq fu x hn hM.1, hb]
  obtain ⟨b, hb', rfl⟩ := in_nlt n (fun q => hb (Or.inl q)) (fun q => hb (Or.inr q)) (by omega)
  have b1 := hasBlock4 fu (nI b) σ
  rw [hz, if_neg hb] at b1
  by_cases h : n < 3
  · have b2 := isBlock_eq fu (nI b) hn hM.1
    rw [if_neg hb] at b2
    refine ⟨(-103, σ), (-103, σ), ?_, ?_, rfl, hI⟩
    · simp only [fX9_thief_0, fX9_thief, xv_0, xv_1, xv_3, xv_4, xv_12, xv_20, xv_22, xv_27, xv_29, xv_32, xv_34, xv_35, xv_43, rv_0_0, rv_0_1, rv_0_2, rv_0_3, rv_0_4, rv_0_5, rv_0_6, rv_0_7, rv_1_0, rv_4_0, rv_4_1, rv_4_2, rv_4_3, rv_4_4, rv_4_5, rv_4_6, rv_12_0, rv_12_1, rv_12_2, rv_12_3, rv_12_4, rv_12_5, rv_12_6, rv_35_0, rv_35_1, rv_35_2, rv_35_3, rv_35_4, rv_35_5, rv_35_6, rv_20_0, rv_27_0, rv_32_0, rv_22_0, rv_22_1, rv_22_2, rv_22_3, rv_22_4, rv_29_0, rv_29_1, rv_29_2, rv_34_0, rv_43_0, rv_43_13, rv_43_14, rv_43_15, rv_43_16, rv_43_17, rv_43_18, rv_43_19, rv_43_20, rv_43_21, rv_43_22, rv_43_30, if_true, Option.bind_some, nm, b1, size_eq fu xv_4, hz]
      rw [if_neg (by decide), if_neg (show ¬ (2 : Int32) < nI n from nI_nlt (a := 2) (by omega) (by omega))]
    · simp only [fX10_thief_159, fX10_thief_129b, fX10_thief_129, fX10_thief_31b, fX10_thief_31, fX10_thief_0, fX10_thief, xv_0, xv_1, xv_3, xv_4, xv_12, xv_20, xv_22, xv_27, xv_29, xv_32, xv_34, xv_35, xv_43, rv_0_0, rv_0_1, rv_0_2, rv_0_3, rv_0_4, rv_0_5, rv_0_6, rv_0_7, rv_1_0, rv_4_0, rv_4_1, rv_4_2, rv_4_3, rv_4_4, rv_4_5, rv_4_6, rv_12_0, rv_12_1, rv_12_2, rv_12_3, rv_12_4, rv_12_5, rv_12_6, rv_35_0, rv_35_1, rv_35_2, rv_35_3, rv_35_4, rv_35_5, rv_35_6, rv_20_0, rv_27_0, rv_32_0, rv_22_0, rv_22_1, rv_22_2, rv_22_3, rv_22_4, rv_29_0, rv_29_1, rv_29_2, rv_34_0, rv_43_0, rv_43_13, rv_43_14, rv_43_15, rv_43_16, rv_43_17, rv_43_18, rv_43_19, rv_43_20, rv_43_21, rv_43_22, rv_43_30, if_true, Option.bind_some, nm, b2]
      rw [if_neg (by decide), show σ.1 43 12 = nI n from hM.1, if_neg (show ¬ (3 : Int32) ≤ nI n from nI_ge (b := 3) (by omega) (by omega))]
  obtain ⟨P, eP⟩ : ∃ P, P = nv σ 9 := ⟨_, rfl⟩
  obtain ⟨L, eL⟩ : ∃ L, L = nv σ 10 := ⟨_, rfl⟩
  have hP9 : ∀ c, c < n → σ.1 9 c = nI (P c) ∧ P c < n := fun c hc => by rw [eP]; exact ⟨(WS_pl hW c hc).1, (WS_pl hW c hc).2.1⟩
  have hL10 : ∀ c, c < n → σ.1 10 c = nI (L c) ∧ L c < n := fun c hc => by rw [eL]; exact ⟨(WS_ly hW c hc).1, (WS_ly hW c hc).2.1⟩
  have hP : ∀ c, c < n → P c < n ∧ L (P c) = c := fun c hc => ⟨(hP9 c hc).2, by
    have := (WS_pl hW c hc).2.2
    rw [← eP, show (4 + 6 : Nat) = 10 from rfl, (hL10 _ (hP9 c hc).2).1] at this
    have l := (hL10 _ (hP9 c hc).2).2
    exact (nI_eq (by omega) (by omega)).mp this⟩
  have hL : ∀ p, p < n → L p < n ∧ P (L p) = p := fun p hp => ⟨(hL10 p hp).2, by
    have := (WS_ly hW p hp).2.2
    rw [← eL, show (4 + 5 : Nat) = 9 from rfl, (hP9 _ (hL10 p hp).2).1] at this
    have l := (hP9 _ (hL10 p hp).2).2
    exact (nI_eq (by omega) (by omega)).mp this⟩
  obtain ⟨p0, h0⟩ : ∃ p0, P b = p0 := ⟨_, rfl⟩
  have hp0 : p0 < n := by rw [← h0]; exact (hP b hb').1
  obtain ⟨σ1, τ, k1, k2, k3⟩ := take7 hf hn hz hb' h0 hP hL fu p0 σ (Nat.le_refl _) hp0 (by omega) ⟨fun r _ _ => rfl, fun p hp => by unfold L1; rw [if_neg (by omega)]; exact (hL10 p (by omega)).1, fun p _ hp => (hL10 p hp).1, fun c hc => by rw [if_neg (by omega)]; exact (hP9 c hc).1⟩
  obtain ⟨σ2, e2⟩ : ∃ σ2, σ2 = si τ 4 7 (nI (n - 1)) := ⟨_, rfl⟩
  rw [← e2] at k1
  have u1 : fX9_thief fu 0 (nI b) σ = some (nI (n - 1), σ2) := by
    simp only [fX9_thief_0, fX9_thief, xv_0, xv_1, xv_3, xv_4, xv_12, xv_20, xv_22, xv_27, xv_29, xv_32, xv_34, xv_35, xv_43, rv_0_0, rv_0_1, rv_0_2, rv_0_3, rv_0_4, rv_0_5, rv_0_6, rv_0_7, rv_1_0, rv_4_0, rv_4_1, rv_4_2, rv_4_3, rv_4_4, rv_4_5, rv_4_6, rv_12_0, rv_12_1, rv_12_2, rv_12_3, rv_12_4, rv_12_5, rv_12_6, rv_35_0, rv_35_1, rv_35_2, rv_35_3, rv_35_4, rv_35_5, rv_35_6, rv_20_0, rv_27_0, rv_32_0, rv_22_0, rv_22_1, rv_22_2, rv_22_3, rv_22_4, rv_29_0, rv_29_1, rv_29_2, rv_34_0, rv_43_0, rv_43_13, rv_43_14, rv_43_15, rv_43_16, rv_43_17, rv_43_18, rv_43_19, rv_43_20, rv_43_21, rv_43_22, rv_43_30, if_true, Option.bind_some, nm, b1, size_eq fu xv_4, hz]
    rw [if_neg (by decide), if_pos (show (2 : Int32) < nI n from nI_lt (a := 2) (by omega) (by omega))]
    have : fX8_takeAway fu 4 (nI b) σ = some σ2 := by
      unfold fX8_takeAway fX8_takeAway_0
      rw [if_pos xv_4, rv_4_4, ald_nI (by omega) (by omega), (hP9 b hb').1, h0]
      exact k1
    rw [this]
    simp only [Option.bind_some]
    rw [e2]; rfl
  have g2 : ∀ r, r < 4 ∨ 10 < r → σ2.1 r = σ.1 r := fun r hr => by
    rw [e2, si_row, if_neg (by omega), k3.1 r (by omega), k2.1 r (by omega) (by omega)]
  have z2 : σ2.1 43 12 = nI n := by rw [g2 43 (by omega)]; exact hM.1
  have b2 := isBlock_eq fu (nI b) hn z2
  rw [if_neg hb] at b2
  have h48 : ∀ c, c < n → σ2.1 48 c = nI (P c) := fun c hc => by
    rw [g2 48 (by omega), (hM.2.1 c hc).2.2.2.1]; exact (hP9 c hc).1
  obtain ⟨τ1, τ2, m1, m2, m3⟩ := mth31 hf hn z2 (fun c hc => (hP c hc).1) h48 hp0 hb' (nI b) fu b σ2 (Nat.le_refl _) hb' (by omega) ⟨fun r _ => rfl, fun r _ _ j => by rw [if_neg (by omega)]⟩
  have u2 : fX10_thief fu 43 (nI b) σ2 = some (nI (n - 1), τ2) := by
    simp only [fX10_thief_159, fX10_thief_129b, fX10_thief_129, fX10_thief_31b, fX10_thief_31, fX10_thief_0, fX10_thief, xv_0, xv_1, xv_3, xv_4, xv_12, xv_20, xv_22, xv_27, xv_29, xv_32, xv_34, xv_35, xv_43, rv_0_0, rv_0_1, rv_0_2, rv_0_3, rv_0_4, rv_0_5, rv_0_6, rv_0_7, rv_1_0, rv_4_0, rv_4_1, rv_4_2, rv_4_3, rv_4_4, rv_4_5, rv_4_6, rv_12_0, rv_12_1, rv_12_2, rv_12_3, rv_12_4, rv_12_5, rv_12_6, rv_35_0, rv_35_1, rv_35_2, rv_35_3, rv_35_4, rv_35_5, rv_35_6, rv_20_0, rv_27_0, rv_32_0, rv_22_0, rv_22_1, rv_22_2, rv_22_3, rv_22_4, rv_29_0, rv_29_1, rv_29_2, rv_34_0, rv_43_0, rv_43_13, rv_43_14, rv_43_15, rv_43_16, rv_43_17, rv_43_18, rv_43_19, rv_43_20, rv_43_21, rv_43_22, rv_43_30, if_true, Option.bind_some, nm, b2]
    rw [if_neg (by decide), z2, if_pos (show (3 : Int32) ≤ nI n from nI_le (a := 3) (by omega) (by omega)), ald_nI (by omega) (by omega), h48 b hb', h0]
    exact m1
  refine ⟨_, _, u1, u2, rfl, ?_⟩
  have gm : ∀ r, r < 43 ∨ r = 44 ∨ 49 < r → τ2.1 r = σ2.1 r := fun r hr => by
    rw [m3.1 r (by omega), si_row, if_neg (by omega), m2.1 r (by omega)]
  have gs : ∀ j, j ≠ 12 → τ2.1 43 j = σ.1 43 j := fun j hj => by
    rw [m3.1 43 (by omega)]
    show upd (τ1.1 43) 12 (nI (n - 1)) j = _
    rw [upd_ne _ _ hj, m2.1 43 (by omega), g2 43 (by omega)]
  have gg : ∀ r, r < 4 ∨ (10 < r ∧ r < 43) ∨ r = 44 ∨ 49 < r → τ2.1 r = σ.1 r := fun r hr => (gm r (by omega)).trans (g2 r (by omega))
  have r58 : ∀ r, 5 ≤ r → r ≤ 8 → ∀ j, j < n - 1 → σ2.1 r j = σ.1 r (if j < b then j else j + 1) := fun r h1 h2 j hj => by
    rw [e2, si_row, if_neg (by omega), k3.2.1 r h1 (by omega), k2.1 r (by omega) (by omega)]
    by_cases d : j < b
    · rw [if_pos d, if_neg (by omega)]
    · rw [if_neg d, if_pos ⟨by omega, hj⟩]
  have h91 : ∀ c, c < n → σ1.1 9 c = nI (P1 p0 P c) := fun c hc => by
    rw [k2.2.2.2 c hc]
    have := (hP c hc).1
    unfold P1
    by_cases k : p0 < P c
    · rw [if_pos k, if_pos ⟨k, by omega⟩]
    · rw [if_neg k, if_neg (fun q => k q.1)]
  have r9 : ∀ j, j < n - 1 → σ2.1 9 j = nI (P1 p0 P (if j < b then j else j + 1)) := fun j hj => by
    rw [e2, si_row, if_neg (by omega), k3.2.1 9 (by omega) (by omega)]
    by_cases d : j < b
    · rw [if_pos d, if_neg (by omega)]; exact h91 j (by omega)
    · rw [if_neg d, if_pos ⟨by omega, hj⟩]; exact h91 (j + 1) (by omega)
  have r10 : ∀ p, p < n - 1 → σ2.1 10 p = nI (if b < L1 p0 L p then L1 p0 L p - 1 else L1 p0 L p) := fun p hp => by
    rw [e2, si_row, if_neg (by omega), k3.2.2 p hp]
    have := (LP1 hP hL hb' h0 hp).1
    by_cases d : b < L1 p0 L p
    · rw [if_pos d, if_pos ⟨d, by omega⟩]
    · rw [if_neg d, if_neg (fun q => d q.1)]
  have cl : ∀ j, j < n - 1 → (if j < b then j else j + 1) < n ∧ (if j < b then j else j + 1) ≠ b := fun j hj => by split <;> omega
  have hW2 : WS σ2 4 (n - 1) := by
    refine ⟨by omega, by rw [e2]; rfl, fun j hj => ?_, fun j hj => ?_, fun p hp => ?_, ?_⟩
    · rw [r58 5 (by omega) (by omega) j hj, r58 6 (by omega) (by omega) j hj, r58 7 (by omega) (by omega) j hj, r58 8 (by omega) (by omega) j hj]
      exact w1 _ (cl j hj).1
    · have a := PL1 hP hb' h0 (cl j hj).1 (cl j hj).2
      refine ⟨_, a.1, r9 j hj, ?_⟩
      show σ2.1 10 _ = _
      rw [r10 _ a.1, a.2]
      by_cases d : j < b
      · rw [if_pos d, if_neg (by omega)]
      · rw [if_neg d, if_pos (by omega)]; rfl
    · have a := LP1 hP hL hb' h0 hp
      refine ⟨if b < L1 p0 L p then L1 p0 L p - 1 else L1 p0 L p, by split <;> omega, r10 p hp, ?_⟩
      show σ2.1 9 _ = _
      rw [r9 _ (by split <;> omega)]
      by_cases d : b < L1 p0 L p
      · rw [if_pos d, if_neg (by omega), show L1 p0 L p - 1 + 1 = L1 p0 L p by omega, a.2.2]
      · rw [if_neg d, if_pos (by omega), a.2.2]
    · rw [g2 11 (by omega)]; exact w4
  have r4 : ∀ r, 45 ≤ r → r ≤ 49 → r ≠ 48 → ∀ j, j < n - 1 → τ2.1 r j = σ.1 r (if j < b then j else j + 1) := fun r h1 h2 h3 j hj => by
    rw [m3.1 r h3, si_row, if_neg (by omega), m2.2 r h1 h2, g2 r (by omega)]
    by_cases d : j < b
    · rw [if_pos d, if_neg (by omega)]
    · rw [if_neg d, if_pos ⟨by omega, hj⟩]
  refine ⟨⟨n - 1, WS_congr (fun i a b => gm i (by omega)) hW2, by rw [m3.1 43 (by omega)]; rfl, fun j hj => ⟨?_, ?_, ?_, ?_, ?_⟩, fun p hp => ?_⟩, ?_, ?_, ?_, ?_⟩
  · rw [r4 45 (by omega) (by omega) (by omega) j hj, gm 5 (by omega), r58 5 (by omega) (by omega) j hj]; exact (hM.2.1 _ (cl j hj).1).1
  · rw [r4 46 (by omega) (by omega) (by omega) j hj, gm 6 (by omega), r58 6 (by omega) (by omega) j hj]; exact (hM.2.1 _ (cl j hj).1).2.1
  · rw [r4 47 (by omega) (by omega) (by omega) j hj, gm 7 (by omega), r58 7 (by omega) (by omega) j hj]; exact (hM.2.1 _ (cl j hj).1).2.2.1
  · rw [m3.2 j hj, if_pos hj, gm 9 (by omega), r9 j hj]
  · rw [r4 49 (by omega) (by omega) (by omega) j hj, gm 8 (by omega), r58 8 (by omega) (by omega) j hj]; exact (hM.2.1 _ (cl j hj).1).2.2.2.2
  · rw [gg 50 (by omega), gg 11 (by omega)]; exact hM.2.2 p hp
  · unfold Pg; rw [gg 1 (by omega), gs 1 (by omega), gg 44 (by omega), gg 2 (by omega)]; exact hPg
  · unfold Lw; rw [gg 3 (by omega), gs 2 (by omega), gs 3 (by omega), gs 4 (by omega), gs 5 (by omega)]; exact hLw
  · unfold Cn; rw [gg 0 (by omega), gs 6 (by omega), gs 25 (by omega), gs 27 (by omega), gs 28 (by omega)]; exact hC
  · unfold Im
    rw [gg 0 (by omega), gs 29 (by omega), gg 55 (by omega), gg 13 (by omega), gg 14 (by omega), gg 15 (by omega), gg 16 (by omega), gg 17 (by omega), gg 19 (by omega)]
    rcases hIm with q | ⟨q1, m, q2, q3⟩
    · exact Or.inl q
    · exact Or.inr ⟨q1, m, WS_congr (fun i a b => gg i (by omega)) q2, q3⟩
