theorem append_eq (fu : Nat) {r : Nat} (hr : xk r = 4) {k : Nat} (hk : k < 7) {σ : St} (hz : σ.1 r 1 = nI k) (x : Int32) : fX6_append fu r x σ = some (si (si σ (r + 1) k x) r 1 (nI (k + 1))) := by
  simp only [fX6_append_29, fX6_append_0, fX6_append, hr, if_true, rf_or hr, hz]
  rw [if_neg (show ¬ (7 : Int32) ≤ nI k from nI_ge (b := 7) hk (by omega)), ast_nI hk (by omega)]
  simp only [Option.bind_some, nm]
  rw [show (si σ (r + 1) k x).1 r 1 = nI k from by rw [si_row, if_neg (by omega)]; exact hz, nI_1]
/-- an order of k blocks stands in r -/
def Or_ (σ : St) (r k : Nat) (L : Nat → Nat) (τ : St) : Prop := τ.2 = σ.2 ∧ (∀ i, i ≠ r → i ≠ r + 1 → τ.1 i = σ.1 i) ∧ τ.1 r 1 = nI k ∧ ∀ p, p < k → τ.1 (r + 1) p = nI (L p)
theorem Or_app {σ τ : St} {r k : Nat} {L : Nat → Nat} (h : Or_ σ r k L τ) : Or_ σ r (k + 1) L (si (si τ (r + 1) k (nI (L k))) r 1 (nI (k + 1))) := by
  obtain ⟨h0, h1, h2, h3⟩ := h
  refine ⟨h0, fun i a b => ?_, ?_, fun p hp => ?_⟩
  · rw [si_row, if_neg a, si_row, if_neg b]; exact h1 i a b
  · rw [si_row, if_pos rfl, upd_same]
  · rw [si_row, if_neg (by omega), si_row, if_pos rfl]
    by_cases c : p = k
    · rw [c, upd_same]
    · rw [upd_ne _ _ c]; exact h3 p (by omega)
theorem read_lp (fu : Nat) {r : Nat} (hr : xk r = 4) {X n : Nat} (hX : X < 2 ^ 31) (hn : n ≤ 7) (x1 : Int32) (σ : St) : ∀ (m p : Nat) (τ : St), p ≤ n → n - p < m → okP X n p → Or_ σ r p (dg X) τ → ∃ τ' k, fX6_read_12 fu r x1 (nI n) m (nI (X / 8 ^ p)) (nI (sn X p)) (nI p) τ = some (k, τ') ∧ (k = 0 ∨ k = 1) ∧ (k = 1 ↔ okP X n n ∧ X / 8 ^ n = 0) ∧ τ'.2 = σ.2 ∧ (∀ i, i ≠ r → i ≠ r + 1 → τ'.1 i = σ.1 i) ∧ (k = 1 → Or_ σ r n (dg X) τ') := by
  intro m
  induction m with
  | zero => intro p τ h1 h2; omega
  | succ m ih =>
    intro p τ h1 h2 hok hO
    show ∃ τ' k, fX6_read_12b fu (fX6_read_12 fu r x1 (nI n) m) r x1 (nI n) _ _ (nI p) τ = _ ∧ _
    have hd := dg_lt X p
    have hs := sn_lt X p
    have hXp : X / 8 ^ p < 2 ^ 31 := Nat.lt_of_le_of_lt (Nat.div_le_self _ _) hX
    by_cases c : p < n
    · simp only [fX6_read_45, fX6_read_81, fX6_read_72, fX6_read_12b, fX6_read_12, fX6_read_0, fX6_read, nm]
      rw [if_neg (nI_ge c (by omega)), if_neg (nI_pos hXp), (dg_step hX).1, (dg_step hX).2, bt1 _ hd, fa_or]
      by_cases d : n ≤ dg X p
      · rw [if_pos (nI_le d (by omega))]
        exact ⟨τ, 0, rfl, Or.inl rfl, ⟨fun q => absurd q (by decide), fun q => by have := (q.1 p c).1; omega⟩, hO.1, hO.2.1, fun q => absurd q (by decide)⟩
      rw [if_neg (nI_ge (by omega) (by omega))]
      by_cases e : (sn X p).testBit (dg X p) = true
      · rw [if_pos ((bt2 _ hs _ hd).mpr e)]
        exact ⟨τ, 0, rfl, Or.inl rfl, ⟨fun q => absurd q (by decide), fun q => by have := (q.1 p c).2; rw [e] at this; cases this⟩, hO.1, hO.2.1, fun q => absurd q (by decide)⟩
      · rw [if_neg (fun q => e ((bt2 _ hs _ hd).mp q)), append_eq fu hr (by omega) hO.2.2.1]
        simp only [Option.bind_some]
        rw [nI_1]
        refine ih (p + 1) _ (by omega) (by omega) ?_ (Or_app hO)
        intro q hq
        rcases Nat.lt_or_ge q p with z | z
        · exact hok q z
        · have : q = p := by omega
          subst this
          exact ⟨by omega, by simpa using e⟩
    · have : p = n := by omega
      subst this
      simp only [fX6_read_12b, fX6_read_72, fX6_read_81]
      rw [if_pos (nI_le (Nat.le_refl _) (by omega))]
      have hz : nI (X / 8 ^ p) = 0 ↔ X / 8 ^ p = 0 := nI_eq (b := 0) hXp (by omega)
      by_cases d : X / 8 ^ p = 0
      · rw [if_pos (hz.mpr d)]
        exact ⟨τ, 1, rfl, Or.inr rfl, ⟨fun _ => ⟨hok, d⟩, fun _ => rfl⟩, hO.1, hO.2.1, fun _ => hO⟩
      · rw [if_neg (fun q => d (hz.mp q))]
        exact ⟨τ, 0, rfl, Or.inl rfl, ⟨fun q => absurd q (by decide), fun q => absurd q.2 d⟩, hO.1, hO.2.1, fun q => absurd q (by decide)⟩
theorem clear_eq (fu : Nat) {r : Nat} (hr : xk r = 4) (σ : St) : fX6_clear fu r σ = some (si σ r 1 0) := by
  simp only [fX6_clear_0, fX6_clear, hr, if_true, nm]
theorem Or_0 (σ : St) (r : Nat) (L : Nat → Nat) : Or_ σ r 0 L (si σ r 1 0) := by
  refine ⟨rfl, fun i a b => ?_, ?_, fun p hp => by omega⟩
  · rw [si_row, if_neg a]
  · rw [si_row, if_pos rfl, upd_same]; rfl
theorem read_eq {fu : Nat} (hf : 100 ≤ fu) {r : Nat} (hr : xk r = 4) {X n : Nat} (hX : X < 2 ^ 31) (hn : n ≤ 7) (σ : St) : ∃ τ k, fX6_read fu r (nI X) (nI n) σ = some (k, τ) ∧ (k = 0 ∨ k = 1) ∧ (k = 1 ↔ okP X n n ∧ X / 8 ^ n = 0) ∧ τ.2 = σ.2 ∧ (∀ i, i ≠ r → i ≠ r + 1 → τ.1 i = σ.1 i) ∧ (k = 1 → Or_ σ r n (dg X) τ) := by
  unfold fX6_read fX6_read_0
  rw [if_pos hr, clear_eq fu hr]
  simp only [Option.bind_some]
  have := read_lp fu hr hX hn (nI X) σ fu 0 _ (by omega) (by omega) (fun q hq => by omega) (Or_0 σ r (dg X))
  rw [Nat.pow_zero, Nat.div_one] at this
  exact this
theorem read_neg {fu : Nat} (hf : 100 ≤ fu) {r : Nat} (hr : xk r = 4) {x : Int32} (hx : x < 0) {n : Nat} (hn : n ≤ 7) (σ : St) : fX6_read fu r x (nI n) σ = some (0, si σ r 1 0) := by
  unfold fX6_read fX6_read_0
  rw [if_pos hr, clear_eq fu hr]
  simp only [Option.bind_some]
  obtain ⟨m, rfl⟩ : ∃ m, fu = m + 1 := ⟨fu - 1, by omega⟩
  show fX6_read_12b _ _ r x (nI n) x 0 0 _ = _
  have h0 : ¬ x = 0 := by rintro rfl; exact absurd hx (by decide)
  simp only [fX6_read_12b, fX6_read_72, fX6_read_81, hx, h0, if_true, if_false]
  split <;> rfl
/-- the reference's order -/
def Mor (σ : St) (k : Nat) (τ : St) : Prop := τ.2 = σ.2 ∧ ∀ i, i ≠ 51 → τ.1 i = σ.1 i
theorem readOrder_lp (fu : Nat) {X n : Nat} (hX : X < 2 ^ 31) (hn : n ≤ 7) {σ : St} (hz : σ.1 43 12 = nI n) : ∀ (m p : Nat) (τ : St), p ≤ n → n - p < m → τ.2 = σ.2 → (∀ i, i ≠ 51 → τ.1 i = σ.1 i) → (∀ q, q < p → τ.1 51 q = nI (dg X q)) → ∃ τ' k, fX10_readOrder_7 fu 43 (nI X) m (nI (X / 8 ^ p)) (nI (sn X p)) (nI p) τ = some (k, τ') ∧ (k = 0 ∨ k = 1) ∧ (k = 1 ↔ okP X n n ∧ X / 8 ^ n = 0) ∧ τ'.2 = σ.2 ∧ (∀ i, i ≠ 51 → τ'.1 i = σ.1 i) ∧ (∀ q, q < n → τ'.1 51 q = nI (dg X q)) := by
  intro m
  induction m with
  | zero => intro p τ h1 h2; omega
  | succ m ih =>
    intro p τ h1 h2 e0 e1 e2
    show ∃ τ' k, fX10_readOrder_7b fu (fX10_readOrder_7 fu 43 (nI X) m) 43 (nI X) _ _ (nI p) τ = _ ∧ _
    have hd := dg_lt X p
    have hXp : X / 8 ^ p < 2 ^ 31 := Nat.lt_of_le_of_lt (Nat.div_le_self _ _) hX
    have hz' : τ.1 43 12 = nI n := by rw [e1 43 (by omega)]; exact hz
    simp only [fX10_readOrder_74, fX10_readOrder_73, fX10_readOrder_7b, fX10_readOrder_7, fX10_readOrder_0, fX10_readOrder, nm, hz', rv_43_19]
    by_cases c : p < n
    · rw [if_neg (nI_ge c (by omega)), (dg_step hX).1, (dg_step hX).2, ast_nI (by omega) (by omega)]
      simp only [Option.bind_some]
      rw [ald_nI (by omega) (by omega)]
      simp only [Option.bind_some]
      rw [show (si τ 51 p (nI (dg X p))).1 51 p = nI (dg X p) from upd_same _ _ _, bt1 _ hd, fa_or, nI_1]
      refine ih (p + 1) _ (by omega) (by omega) e0 (fun i hi => ?_) (fun q hq => ?_)
      · rw [si_row, if_neg hi]; exact e1 i hi
      · show upd (τ.1 51) p (nI (dg X p)) q = _
        by_cases z : q = p
        · rw [z, upd_same]
        · rw [upd_ne _ _ z]; exact e2 q (by omega)
    · have : p = n := by omega
      subst this
      rw [if_pos (nI_le (Nat.le_refl _) (by omega)), if_neg (nI_pos hX)]
      have hz2 : nI (X / 8 ^ p) = 0 ↔ X / 8 ^ p = 0 := nI_eq (b := 0) hXp (by omega)
      have h2p : 2 ^ p ≤ 2 ^ 7 := Nat.pow_le_pow_right (by decide) hn
      have h1p : 1 ≤ 2 ^ p := Nat.one_le_two_pow
      have e7 : (1 : Int32) <<< (nI p &&& 31) - 1 = nI (2 ^ p - 1) := by rw [bt1 _ (by omega), show (1 : Int32) = nI 1 from rfl, pk_sub h1p]
      have hs3 : nI (sn X p) = nI (2 ^ p - 1) ↔ sn X p = 2 ^ p - 1 := nI_eq (by have := sn_lt X p; omega) (by omega)
      have hfl := okP_full (X := X) hn
      rw [e7]
      by_cases d : X / 8 ^ p = 0
      · rw [if_pos (hz2.mpr d)]
        by_cases f : sn X p = 2 ^ p - 1
        · rw [if_pos (hs3.mpr f)]
          exact ⟨τ, 1, rfl, Or.inr rfl, ⟨fun _ => ⟨hfl.mpr f, d⟩, fun _ => rfl⟩, e0, e1, e2⟩
        · rw [if_neg (fun q => f (hs3.mp q))]
          exact ⟨τ, 0, rfl, Or.inl rfl, ⟨fun q => absurd q (by decide), fun q => absurd (hfl.mp q.1) f⟩, e0, e1, e2⟩
      · rw [if_neg (fun q => d (hz2.mp q))]
        exact ⟨τ, 0, rfl, Or.inl rfl, ⟨fun q => absurd q (by decide), fun q => absurd q.2 d⟩, e0, e1, e2⟩
theorem readOrder_eq {fu : Nat} (hf : 100 ≤ fu) {X n : Nat} (hX : X < 2 ^ 31) (hn : n ≤ 7) {σ : St} (hz : σ.1 43 12 = nI n) : ∃ τ' k, fX10_readOrder fu 43 (nI X) σ = some (k, τ') ∧ (k = 0 ∨ k = 1) ∧ (k = 1 ↔ okP X n n ∧ X / 8 ^ n = 0) ∧ τ'.2 = σ.2 ∧ (∀ i, i ≠ 51 → τ'.1 i = σ.1 i) ∧ (∀ q, q < n → τ'.1 51 q = nI (dg X q)) := by
  unfold fX10_readOrder fX10_readOrder_0
  rw [if_pos xv_43]
  have := readOrder_lp fu hX hn hz fu 0 σ (by omega) (by omega) rfl (fun _ _ => rfl) (fun q hq => by omega)
  rw [Nat.pow_zero, Nat.div_one] at this
  exact this
theorem readOrder_neg_lp (fu : Nat) {x : Int32} (hx : x < 0) {n : Nat} (hn : n ≤ 7) {σ : St} (hz : σ.1 43 12 = nI n) : ∀ (m p : Nat) (a b : Int32) (τ : St), p ≤ n → n - p < m → τ.2 = σ.2 → (∀ i, i ≠ 51 → τ.1 i = σ.1 i) → ∃ τ', fX10_readOrder_7 fu 43 x m a b (nI p) τ = some (0, τ') ∧ τ'.2 = σ.2 ∧ (∀ i, i ≠ 51 → τ'.1 i = σ.1 i) := by
  intro m
  induction m with
  | zero => intro p a b τ h1 h2; omega
  | succ m ih =>
    intro p a b τ h1 h2 e0 e1
    show ∃ τ', fX10_readOrder_7b fu (fX10_readOrder_7 fu 43 x m) 43 x _ _ (nI p) τ = _ ∧ _
    have hz' : τ.1 43 12 = nI n := by rw [e1 43 (by omega)]; exact hz
    simp only [fX10_readOrder_74, fX10_readOrder_73, fX10_readOrder_7b, fX10_readOrder_7, fX10_readOrder_0, fX10_readOrder, nm, hz', rv_43_19]
    by_cases c : p < n
    · rw [if_neg (nI_ge c (by omega)), ast_nI (by omega) (by omega)]
      simp only [Option.bind_some]
      rw [ald_nI (by omega) (by omega)]
      simp only [Option.bind_some]
      rw [nI_1]
      refine ih (p + 1) _ _ _ (by omega) (by omega) e0 (fun i hi => ?_)
      rw [si_row, if_neg hi]; exact e1 i hi
    · have : p = n := by omega
      subst this
      rw [if_pos (nI_le (Nat.le_refl _) (by omega)), if_pos hx]
      exact ⟨τ, rfl, e0, e1⟩
theorem readOrder_neg {fu : Nat} (hf : 100 ≤ fu) {x : Int32} (hx : x < 0) {n : Nat} (hn : n ≤ 7) {σ : St} (hz : σ.1 43 12 = nI n) : ∃ τ', fX10_readOrder fu 43 x σ = some (0, τ') ∧ τ'.2 = σ.2 ∧ (∀ i, i ≠ 51 → τ'.1 i = σ.1 i) := by
  unfold fX10_readOrder fX10_readOrder_0
  rw [if_pos xv_43]
  exact readOrder_neg_lp fu hx hn hz fu 0 x 0 σ (by omega) (by omega) rfl (fun _ _ => rfl)
