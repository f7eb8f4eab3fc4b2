/-! the reference's walk over the orders -/
def Od (τ : St) (n : Nat) (l : List Nat) : Prop := l.length = n ∧ (∀ p, p < n → gd l p < 8) ∧ ∀ p, p < n → τ.1 51 p = nI (gd l p)
def xi (i : Nat) : Int32 := if i = 0 then -1 else nI (i - 1)
theorem xi_s (i : Nat) : xi (i + 1) = nI i := by unfold xi; rw [if_neg (by omega)]; rfl
theorem xi_d (i : Nat) (h : i < 7) : nI i + (-1) = xi i := by
  match i, h with
  | 0, _ => exact dec70
  | i + 1, h => rw [xi_s]; exact dec7 i (by omega)
theorem ble_le {a b : Nat} : Nat.ble a b = true ↔ a ≤ b := ⟨Nat.le_of_ble_eq_true, Nat.ble_eq_true_of_le⟩
theorem next7 (fu : Nat) {n : Nat} {l : List Nat} {τ : St} (hn : n ≤ 7) (hO : Od τ n l) : ∀ (m i : Nat), i < n → i < m → fX10_nextOrder_7 fu 43 m (xi i) τ = fX10_nextOrder_34 fu 43 (match n7 l i with | none => -1 | some j => nI j) τ := by
  intro m
  induction m with
  | zero => intro i _ h; omega
  | succ m ih =>
    intro i hi hm
    show fX10_nextOrder_7b fu (fX10_nextOrder_7 fu 43 m) 43 (xi i) τ = _
    unfold fX10_nextOrder_7b
    match i, hi, hm with
    | 0, _, _ => rw [if_pos (by decide)]; rfl
    | i + 1, hi, hm =>
      have b1 := hO.2.1 i (by omega)
      have b2 := hO.2.1 (i + 1) hi
      rw [xi_s, if_neg (nI_pos (by omega)), rv_43_19, nI_1, ald_nI (by omega) (by omega), ald_nI (by omega) (by omega), hO.2.2 i (by omega), hO.2.2 (i + 1) hi]
      simp only [Option.bind_some, nm]
      unfold n7
      by_cases c : gd l i ≤ gd l (i + 1)
      · rw [if_pos (nI_le c (by omega)), ble_le.mpr c]
        rfl
      · rw [if_neg (nI_ge (by omega) (by omega)), show Nat.ble (gd l i) (gd l (i + 1)) = false from by cases e : Nat.ble (gd l i) (gd l (i + 1)); rfl; exact absurd (ble_le.mp e) c, xi_d i (by omega)]
        exact ih i (by omega) (by omega)
def swS (τ : St) (l : List Nat) (i j : Nat) : St := si (si τ 51 i (nI (gd l j))) 51 j (nI (gd l i))
def swL (l : List Nat) (i j : Nat) : List Nat := stl (stl l i (gd l j)) j (gd l i)
theorem sw_Od {τ : St} {n i j : Nat} {l : List Nat} (hi : i < n) (hj : j < n) (hO : Od τ n l) : Od (swS τ l i j) n (swL l i j) := by
  obtain ⟨h1, h2, h3⟩ := hO
  have hl : (stl l i (gd l j)).length = n := by rw [stl_len]; exact h1
  refine ⟨by unfold swL; rw [stl_len, hl], fun p hp => ?_, fun p hp => ?_⟩
  · unfold swL
    rw [stl_gd _ _ _ _ (by omega), stl_gd _ _ _ _ (by omega)]
    split
    · exact h2 i hi
    · split
      · exact h2 j hj
      · exact h2 p hp
  · show upd (upd (τ.1 51) i (nI (gd l j))) j (nI (gd l i)) p = _
    unfold swL
    rw [upd_app, upd_app, stl_gd _ _ _ _ (by omega), stl_gd _ _ _ _ (by omega)]
    by_cases c : p = j
    · rw [if_pos c, if_pos c]
    · rw [if_neg c, if_neg c]
      by_cases d : p = i
      · rw [if_pos d, if_pos d]
      · rw [if_neg d, if_neg d]; exact h3 p hp
theorem swS_row (τ : St) (l : List Nat) (i j r : Nat) (h : r ≠ 51) : (swS τ l i j).1 r = τ.1 r := by
  unfold swS
  rw [si_row, if_neg h, si_row, if_neg h]
theorem next107 (fu : Nat) {n : Nat} (hn : n ≤ 7) : ∀ (m f hi lo : Nat) (l : List Nat) (τ : St), hi < n → lo ≤ n → hi - lo ≤ f → hi - lo < m → Od τ n l → ∃ τ', fX10_nextOrder_107 fu 43 m (nI hi) (nI lo) τ = some (1, τ') ∧ Od τ' n (n107 f l hi lo) ∧ ∀ r, r ≠ 51 → τ'.1 r = τ.1 r := by
  intro m
  induction m with
  | zero => intro f hi lo l τ _ _ _ h; omega
  | succ m ih =>
    intro f hi lo l τ h1 hlo h2 h3 hO
    show ∃ τ', fX10_nextOrder_107b fu (fX10_nextOrder_107 fu 43 m) 43 (nI hi) (nI lo) τ = _ ∧ _ ∧ _
    unfold fX10_nextOrder_107b
    by_cases c : hi ≤ lo
    · by_cases d : lo < 2 ^ 31
      · rw [if_pos (nI_le c d)]
        refine ⟨τ, rfl, ?_, fun _ _ => rfl⟩
        match f with
        | 0 => exact hO
        | f + 1 =>
          unfold n107
          rw [ble_le.mpr c]
          exact hO
      · omega
    · match f, h2 with
      | 0, h2 => omega
      | f + 1, h2 =>
        rw [if_neg (nI_ge (by omega) (by omega)), rv_43_19, ald_nI (by omega) (by omega), ald_nI (by omega) (by omega), hO.2.2 lo (by omega), hO.2.2 hi h1]
        simp only [Option.bind_some, nm]
        rw [ast_nI (by omega) (by omega)]
        simp only [Option.bind_some]
        rw [ast_nI (by omega) (by omega)]
        simp only [Option.bind_some]
        obtain ⟨h', rfl⟩ : ∃ h', hi = h' + 1 := ⟨hi - 1, by omega⟩
        rw [dec7 h' (by omega), nI_1]
        obtain ⟨τ', k1, k2, k3⟩ := ih f h' (lo + 1) (swL l lo (h' + 1)) (swS τ l lo (h' + 1)) (by omega) (by omega) (by omega) (by omega) (sw_Od (by omega) (by omega) hO)
        refine ⟨τ', k1, ?_, fun r hr => (k3 r hr).trans (swS_row _ _ _ _ r hr)⟩
        unfold n107
        rw [show Nat.ble (h' + 1) lo = false from by cases e : Nat.ble (h' + 1) lo; rfl; exact absurd (ble_le.mp e) c]
        exact k2
theorem n47_le (l : List Nat) (i : Nat) : ∀ j, n47 l i j ≤ j
  | 0 => Nat.le_refl _
  | j + 1 => by
    unfold n47
    cases Nat.ble (gd l i) (gd l (j + 1))
    · exact Nat.le_trans (n47_le l i j) (Nat.le_succ _)
    · exact Nat.le_refl _
theorem next47 {fu : Nat} (hf : 100 ≤ fu) {n : Nat} {l : List Nat} {τ : St} (hn : n ≤ 7) (hz : τ.1 43 12 = nI n) (hO : Od τ n l) {i : Nat} : ∀ (m j : Nat), i ≤ j → j < n → j < m → ∃ τ', fX10_nextOrder_47 fu 43 m (nI i) (nI j) τ = some (1, τ') ∧ Od τ' n (n107 n (swL l i (n47 l i j)) (n - 1) (i + 1)) ∧ ∀ r, r ≠ 51 → τ'.1 r = τ.1 r := by
  intro m
  induction m with
  | zero => intro j _ _ h; omega
  | succ m ih =>
    intro j h1 h2 h3
    show ∃ τ', fX10_nextOrder_47b fu (fX10_nextOrder_47 fu 43 m) 43 (nI i) (nI j) τ = _ ∧ _ ∧ _
    unfold fX10_nextOrder_47b
    have b1 := hO.2.1 i (by omega)
    have b2 := hO.2.1 j h2
    rw [rv_43_19, ald_nI (by omega) (by omega), ald_nI (by omega) (by omega), hO.2.2 j h2, hO.2.2 i (by omega)]
    simp only [Option.bind_some, nm]
    by_cases c : gd l i ≤ gd l j
    · rw [if_pos (nI_le c (by omega)), ast_nI (by omega) (by omega)]
      simp only [Option.bind_some]
      rw [ast_nI (by omega) (by omega)]
      simp only [Option.bind_some]
      have e : n47 l i j = j := by
        match j, c with
        | 0, _ => rfl
        | j + 1, c => unfold n47; rw [ble_le.mpr c]; rfl
      rw [e, show (si (si τ 51 i (nI (gd l j))) 51 j (nI (gd l i))).1 43 12 = nI n from hz, nI_s1 (by omega), nI_1]
      obtain ⟨τ', k1, k2, k3⟩ := next107 fu hn fu n (n - 1) (i + 1) (swL l i j) (swS τ l i j) (by omega) (by omega) (by omega) (by omega) (sw_Od (by omega) h2 hO)
      exact ⟨τ', k1, k2, fun r hr => (k3 r hr).trans (swS_row _ _ _ _ r hr)⟩
    · rw [if_neg (nI_ge (by omega) (by omega))]
      have hne : i ≠ j := fun e => c (by rw [e]; exact Nat.le_refl _)
      obtain ⟨j', rfl⟩ : ∃ j', j = j' + 1 := ⟨j - 1, by omega⟩
      rw [dec7 j' (by omega)]
      have e : n47 l i (j' + 1) = n47 l i j' := by
        conv => lhs; unfold n47
        rw [show Nat.ble (gd l i) (gd l (j' + 1)) = false from by cases e : Nat.ble (gd l i) (gd l (j' + 1)); rfl; exact absurd (ble_le.mp e) c]
        rfl
      rw [e]
      exact ih j' (by omega) (by omega) (by omega)
theorem n7_lt (l : List Nat) : ∀ i j, n7 l i = some j → j < i
  | 0, j, h => by unfold n7 at h; simp at h
  | i + 1, j, h => by
    unfold n7 at h
    cases e : Nat.ble (gd l i) (gd l (i + 1))
    · rw [e] at h
      have := n7_lt l i j h
      omega
    · rw [e] at h
      have : i = j := Option.some.inj h
      omega
theorem next_eq {fu : Nat} (hf : 100 ≤ fu) {n : Nat} {l : List Nat} {τ : St} (hn : n ≤ 7) (hn2 : 2 ≤ n) (hz : τ.1 43 12 = nI n) (hO : Od τ n l) : (nxt n l = none → fX10_nextOrder fu 43 τ = some (0, τ)) ∧ ∀ l', nxt n l = some l' → ∃ τ', fX10_nextOrder fu 43 τ = some (1, τ') ∧ Od τ' n l' ∧ ∀ r, r ≠ 51 → τ'.1 r = τ.1 r := by
  have h7 := next7 fu hn hO fu (n - 1) (by omega) (by omega)
  have e0 : fX10_nextOrder fu 43 τ = fX10_nextOrder_34 fu 43 (match n7 l (n - 1) with | none => -1 | some j => nI j) τ := by
    rw [← h7]
    unfold fX10_nextOrder fX10_nextOrder_0
    rw [if_pos xv_43, hz]
    simp only [nm]
    rw [show (2 : Int32) = nI 2 from rfl, pk_sub hn2]
    obtain ⟨k, rfl⟩ : ∃ k, n = k + 2 := ⟨n - 2, by omega⟩
    rw [show k + 2 - 1 = k + 1 by omega, xi_s]
    rfl
  rw [e0]
  unfold nxt
  cases e : n7 l (n - 1) with
  | none =>
    refine ⟨fun _ => ?_, fun l' h => by simp at h⟩
    unfold fX10_nextOrder_34
    rw [if_neg (by decide)]
  | some i =>
    have hi := n7_lt l _ _ e
    refine ⟨fun h => by simp at h, fun l' h => ?_⟩
    have hl : n107 n (swL l i (n47 l i (n - 1))) (n - 1) (i + 1) = l' := Option.some.inj h
    unfold fX10_nextOrder_34
    rw [if_pos (nI_pos' (by omega)), hz]
    simp only [nm]
    rw [nI_s1 (by omega)]
    obtain ⟨τ', k1, k2, k3⟩ := next47 hf hn hz hO (i := i) fu (n - 1) (by omega) (by omega) (by omega)
    rw [hl] at k2
    exact ⟨τ', k1, k2, k3⟩
/-- the first order -/
theorem gd_range {n p : Nat} (h : p < n) : gd (List.range n) p = p := by
  have e : ∀ (l : List Nat) (p : Nat) (h : p < l.length), gd l p = l[p] := by
    intro l
    induction l with
    | nil => intro p h; exact absurd h (Nat.not_lt_zero _)
    | cons x l ih =>
      intro p h
      match p, h with
      | 0, _ => rfl
      | p + 1, h => exact ih p (by rw [List.length_cons] at h; omega)
  rw [e _ p (by rw [List.length_range]; exact h), List.getElem_range]
theorem firstOrder_lp (fu : Nat) {n : Nat} {σ : St} (hn : n ≤ 7) (hz : σ.1 43 12 = nI n) : ∀ (m i : Nat) (τ : St), i ≤ n → n - i < m → (∀ r, r ≠ 51 → τ.1 r = σ.1 r) → (∀ p, p < i → τ.1 51 p = nI p) → ∃ τ', fX10_firstOrder_2 fu 43 m (nI i) τ = some τ' ∧ (∀ r, r ≠ 51 → τ'.1 r = σ.1 r) ∧ ∀ p, p < n → τ'.1 51 p = nI p := by
  intro m
  induction m with
  | zero => intro i _ _ h; omega
  | succ m ih =>
    intro i τ h1 h2 h3 h4
    show ∃ τ', fX10_firstOrder_2b fu (fX10_firstOrder_2 fu 43 m) 43 (nI i) τ = _ ∧ _ ∧ _
    unfold fX10_firstOrder_2b
    rw [show τ.1 43 12 = nI n by rw [h3 43 (by omega)]; exact hz]
    by_cases c : i < n
    · rw [if_neg (nI_ge c (by omega)), rv_43_19, ast_nI (by omega) (by omega)]
      simp only [Option.bind_some, nm]
      rw [nI_1]
      refine ih (i + 1) _ (by omega) (by omega) (fun r hr => by rw [si_row, if_neg hr]; exact h3 r hr) (fun p hp => ?_)
      show upd (τ.1 51) i (nI i) p = _
      rw [upd_app]
      by_cases d : p = i
      · rw [if_pos d, d]
      · rw [if_neg d]; exact h4 p (by omega)
    · have : i = n := by omega
      subst this
      rw [if_pos (nI_le (Nat.le_refl _) (by omega))]
      exact ⟨τ, rfl, h3, h4⟩
theorem firstOrder_eq {fu : Nat} (hf : 100 ≤ fu) {n : Nat} {σ : St} (hn : n ≤ 7) (hz : σ.1 43 12 = nI n) : ∃ τ', fX10_firstOrder fu 43 σ = some τ' ∧ (∀ r, r ≠ 51 → τ'.1 r = σ.1 r) ∧ Od τ' n (List.range n) := by
  obtain ⟨τ', k1, k2, k3⟩ := firstOrder_lp fu hn hz fu 0 σ (by omega) (by omega) (fun _ _ => rfl) (fun p hp => by omega)
  refine ⟨τ', ?_, k2, List.length_range, fun p hp => by rw [gd_range hp]; omega, fun p hp => by rw [gd_range hp]; exact k3 p hp⟩
  unfold fX10_firstOrder fX10_firstOrder_0
  rw [if_pos xv_43]
  exact k1
/-- the number of an order -/
def num : List Nat → Nat
  | [] => 0
  | x :: l => x + 8 * num l
theorem drop_gd : ∀ (l : List Nat) (i : Nat), i < l.length → l.drop i = gd l i :: l.drop (i + 1)
  | [], i, h => absurd h (Nat.not_lt_zero _)
  | x :: l, 0, _ => rfl
  | x :: l, i + 1, h => by
    show l.drop i = gd l i :: l.drop (i + 1)
    exact drop_gd l i (by rw [List.length_cons] at h; omega)
theorem numberOf_eq {fu : Nat} (hf : 100 ≤ fu) {n : Nat} {l : List Nat} {τ : St} (hn : n ≤ 7) (h1 : 1 ≤ n) (hz : τ.1 43 12 = nI n) (hO : Od τ n l) : fX10_numberOf fu 43 τ = some (nI (num l), τ) := by
  have lp : ∀ (m i : Nat), i ≤ n → i < m → fX10_numberOf_9 fu 43 m (nI (num (l.drop i))) (xi i) τ = some (nI (num l), τ) := by
    intro m
    induction m with
    | zero => intro i _ h; omega
    | succ m ih =>
      intro i hi hm
      show fX10_numberOf_9b fu (fX10_numberOf_9 fu 43 m) 43 _ (xi i) τ = _
      unfold fX10_numberOf_9b
      match i, hi, hm with
      | 0, _, _ => rw [if_pos (by decide)]; rfl
      | i + 1, hi, hm =>
        rw [xi_s, if_neg (nI_pos (by omega)), rv_43_19, ald_nI (by omega) (by omega), hO.2.2 i (by omega)]
        simp only [Option.bind_some, nm]
        rw [show (8 : Int32) = nI 8 from rfl, pk_mul, nI_add, xi_d i (by omega)]
        have := ih i (by omega) (by omega)
        rw [drop_gd l i (by rw [hO.1]; omega), show num (gd l i :: l.drop (i + 1)) = 8 * num (l.drop (i + 1)) + gd l i from Nat.add_comm _ _] at this
        exact this
  unfold fX10_numberOf fX10_numberOf_0
  rw [if_pos xv_43, hz]
  simp only [nm]
  have := lp fu n (by omega) (by omega)
  rw [List.drop_of_length_le (by rw [hO.1]; exact Nat.le_refl _)] at this
  obtain ⟨k, rfl⟩ : ∃ k, n = k + 1 := ⟨n - 1, by omega⟩
  rw [xi_s] at this
  rw [nI_s1 h1]
  exact this
