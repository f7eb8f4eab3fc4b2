/-- the reference's rows, restored up to i -/
def Rst (σ : St) (i : Nat) (τ : St) : Prop := τ.2 = σ.2 ∧ (∀ r, r < 45 ∨ 50 < r → τ.1 r = σ.1 r) ∧ (∀ j, τ.1 45 j = if j < i then σ.1 55 (6 * j) else σ.1 45 j) ∧ (∀ j, τ.1 46 j = if j < i then σ.1 55 (6 * j + 1) else σ.1 46 j) ∧ (∀ j, τ.1 47 j = if j < i then σ.1 55 (6 * j + 2) else σ.1 47 j) ∧ (∀ j, τ.1 48 j = if j < i then σ.1 55 (6 * j + 3) else σ.1 48 j) ∧ (∀ j, τ.1 49 j = if j < i then σ.1 55 (6 * j + 4) else σ.1 49 j) ∧ (∀ j, τ.1 50 j = if j < i then σ.1 55 (6 * j + 5) else σ.1 50 j)
theorem ifs {α : Type} {j i : Nat} {a b x : α} (h : x = if j < i then a else b) (hj : j ≠ i) : x = if j < i + 1 then a else b := by
  by_cases c : j < i
  · rw [if_pos c] at h; rw [if_pos (by omega)]; exact h
  · rw [if_neg c] at h; rw [if_neg (by omega)]; exact h
theorem mrestore_lp (fu : Nat) (σ : St) : ∀ (m i : Nat) (τ : St), i ≤ 7 → 7 - i < m → Rst σ i τ → ∃ τ', Rst σ 7 τ' ∧ fX10_restore_13 fu 43 m (nI i) τ = some (σ.1 43 29, si τ' 43 12 (σ.1 43 29)) := by
  intro m
  induction m with
  | zero => intro i τ h1 h2; omega
  | succ m ih =>
    intro i τ h1 h2 hR
    show ∃ τ', Rst σ 7 τ' ∧ fX10_restore_13b fu (fX10_restore_13 fu 43 m) 43 (nI i) τ = _
    obtain ⟨r0, r1, r2, r3, r4, r5, r6, r7⟩ := hR
    unfold fX10_restore_13b
    by_cases c : i < 7
    · rw [if_neg (show ¬ (7 : Int32) ≤ nI i from nI_ge (b := 7) c (by omega))]
      have q1 : ∀ (τ : St) a x, ast τ a 7 (nI i) x = some (si τ a i x) := fun τ a x => ast_nI c (by omega)
      have q0 : ∀ (τ : St) t, t < 6 → ald τ 55 42 (nI (6 * i + t)) = some (τ.1 55 (6 * i + t)) := fun τ t ht => ald_nI (by omega) (by omega)
      have q2 : ∀ (τ : St), ald τ 55 42 (nI (6 * i)) = some (τ.1 55 (6 * i)) := fun τ => ald_nI (by omega) (by omega)
      simp only [xv_0, xv_1, xv_3, xv_4, xv_12, xv_20, xv_22, xv_27, xv_29, xv_32, xv_34, xv_35, xv_43, rv_0_0, rv_0_1, rv_0_2, rv_0_3, rv_0_4, rv_0_5, rv_0_6, rv_0_7, rv_1_0, rv_4_0, rv_4_1, rv_4_2, rv_4_3, rv_4_4, rv_4_5, rv_4_6, rv_12_0, rv_12_1, rv_12_2, rv_12_3, rv_12_4, rv_12_5, rv_12_6, rv_35_0, rv_35_1, rv_35_2, rv_35_3, rv_35_4, rv_35_5, rv_35_6, rv_20_0, rv_27_0, rv_32_0, rv_22_0, rv_22_1, rv_22_2, rv_22_3, rv_22_4, rv_29_0, rv_29_1, rv_29_2, rv_34_0, rv_43_0, rv_43_13, rv_43_14, rv_43_15, rv_43_16, rv_43_17, rv_43_18, rv_43_19, rv_43_20, rv_43_21, rv_43_22, rv_43_30, if_true, Option.bind_some, nm, q1, six0]
      rw [show (1 : Int32) = nI 1 from rfl, show (2 : Int32) = nI 2 from rfl, show (3 : Int32) = nI 3 from rfl, show (4 : Int32) = nI 4 from rfl, show (5 : Int32) = nI 5 from rfl]
      simp only [nI_add, q2, q0 _ 1 (by omega), q0 _ 2 (by omega), q0 _ 3 (by omega), q0 _ 4 (by omega), q0 _ 5 (by omega), Option.bind_some]
      refine ih (i + 1) _ (by omega) (by omega) ?_
      have e55 := r1 55 (by omega)
      refine ⟨r0, fun r hr => ?_, fun j => ?_, fun j => ?_, fun j => ?_, fun j => ?_, fun j => ?_, fun j => ?_⟩
      · simp only [si_row]
        rw [if_neg (by omega), if_neg (by omega), if_neg (by omega), if_neg (by omega), if_neg (by omega), if_neg (by omega)]
        exact r1 r hr
      · show upd (τ.1 45) i (τ.1 55 (6 * i)) j = _
        by_cases h : j = i
        · subst h; rw [upd_same, if_pos (by omega), e55]
        · rw [upd_ne _ _ h]; exact ifs (r2 j) h
      · show upd (τ.1 46) i (τ.1 55 (6 * i + 1)) j = _
        by_cases h : j = i
        · subst h; rw [upd_same, if_pos (by omega), e55]
        · rw [upd_ne _ _ h]; exact ifs (r3 j) h
      · show upd (τ.1 47) i (τ.1 55 (6 * i + 2)) j = _
        by_cases h : j = i
        · subst h; rw [upd_same, if_pos (by omega), e55]
        · rw [upd_ne _ _ h]; exact ifs (r4 j) h
      · show upd (τ.1 48) i (τ.1 55 (6 * i + 3)) j = _
        by_cases h : j = i
        · subst h; rw [upd_same, if_pos (by omega), e55]
        · rw [upd_ne _ _ h]; exact ifs (r5 j) h
      · show upd (τ.1 49) i (τ.1 55 (6 * i + 4)) j = _
        by_cases h : j = i
        · subst h; rw [upd_same, if_pos (by omega), e55]
        · rw [upd_ne _ _ h]; exact ifs (r6 j) h
      · show upd (τ.1 50) i (τ.1 55 (6 * i + 5)) j = _
        by_cases h : j = i
        · subst h; rw [upd_same, if_pos (by omega), e55]
        · rw [upd_ne _ _ h]; exact ifs (r7 j) h
    · have : i = 7 := by omega
      subst this
      refine ⟨τ, ⟨r0, r1, r2, r3, r4, r5, r6, r7⟩, ?_⟩
      rw [if_pos (show (7 : Int32) ≤ nI 7 from nI_le (Nat.le_refl _) (by omega))]
      simp only [nm]
      rw [show τ.1 43 29 = σ.1 43 29 from congrFun (r1 43 (by omega)) 29]
      rfl
theorem nI_ne_m1 {n : Nat} (h : n < 2 ^ 31) : ¬ nI n = -1 := by
  rw [i_eq, nI_toInt h, show (-1 : Int32).toInt = -1 from rfl]
  omega
theorem sm_restore {fu : Nat} (hf : 100 ≤ fu) : Sm_restore fu Inv := by
  intro σ hI
  obtain ⟨⟨n, hW, hM⟩, hP, hL, hC, hIm⟩ := id hI
  rcases hIm with ⟨h1, h2⟩ | ⟨h1, n', hW', h2, h3, h4⟩
  · exact ⟨(-103, σ), (-103, σ), by simp [fX9_restore, fX9_restore_0, xv_0, xv_1, xv_3, xv_4, xv_12, xv_20, xv_22, xv_27, xv_29, xv_32, xv_34, xv_35, xv_43, rv_0_0, rv_0_1, rv_0_2, rv_0_3, rv_0_4, rv_0_5, rv_0_6, rv_0_7, rv_1_0, rv_4_0, rv_4_1, rv_4_2, rv_4_3, rv_4_4, rv_4_5, rv_4_6, rv_12_0, rv_12_1, rv_12_2, rv_12_3, rv_12_4, rv_12_5, rv_12_6, rv_35_0, rv_35_1, rv_35_2, rv_35_3, rv_35_4, rv_35_5, rv_35_6, rv_20_0, rv_27_0, rv_32_0, rv_22_0, rv_22_1, rv_22_2, rv_22_3, rv_22_4, rv_29_0, rv_29_1, rv_29_2, rv_34_0, rv_43_0, rv_43_13, rv_43_14, rv_43_15, rv_43_16, rv_43_17, rv_43_18, rv_43_19, rv_43_20, rv_43_21, rv_43_22, rv_43_30, if_true, Option.bind_some, nm, h1], by simp [fX10_restore, fX10_restore_0, xv_0, xv_1, xv_3, xv_4, xv_12, xv_20, xv_22, xv_27, xv_29, xv_32, xv_34, xv_35, xv_43, rv_0_0, rv_0_1, rv_0_2, rv_0_3, rv_0_4, rv_0_5, rv_0_6, rv_0_7, rv_1_0, rv_4_0, rv_4_1, rv_4_2, rv_4_3, rv_4_4, rv_4_5, rv_4_6, rv_12_0, rv_12_1, rv_12_2, rv_12_3, rv_12_4, rv_12_5, rv_12_6, rv_35_0, rv_35_1, rv_35_2, rv_35_3, rv_35_4, rv_35_5, rv_35_6, rv_20_0, rv_27_0, rv_32_0, rv_22_0, rv_22_1, rv_22_2, rv_22_3, rv_22_4, rv_29_0, rv_29_1, rv_29_2, rv_34_0, rv_43_0, rv_43_13, rv_43_14, rv_43_15, rv_43_16, rv_43_17, rv_43_18, rv_43_19, rv_43_20, rv_43_21, rv_43_22, rv_43_30, if_true, Option.bind_some, nm, h2], rfl, hI⟩
  obtain ⟨τ, hR, e1⟩ := mrestore_lp fu (cpS σ 4 12) fu 0 (cpS σ 4 12) (by omega) (by omega) ⟨rfl, fun _ _ => rfl, fun j => by rw [if_neg (by omega)], fun j => by rw [if_neg (by omega)], fun j => by rw [if_neg (by omega)], fun j => by rw [if_neg (by omega)], fun j => by rw [if_neg (by omega)], fun j => by rw [if_neg (by omega)]⟩
  obtain ⟨r0, r1, r2, r3, r4, r5, r6, r7⟩ := hR
  have hn' := hW'.1
  refine ⟨(nI n', cpS σ 4 12), _, ?_, Eq.trans ?_ e1, h2.symm, ?_⟩
  · simp only [fX9_restore, fX9_restore_0, xv_0, xv_1, xv_3, xv_4, xv_12, xv_20, xv_22, xv_27, xv_29, xv_32, xv_34, xv_35, xv_43, rv_0_0, rv_0_1, rv_0_2, rv_0_3, rv_0_4, rv_0_5, rv_0_6, rv_0_7, rv_1_0, rv_4_0, rv_4_1, rv_4_2, rv_4_3, rv_4_4, rv_4_5, rv_4_6, rv_12_0, rv_12_1, rv_12_2, rv_12_3, rv_12_4, rv_12_5, rv_12_6, rv_35_0, rv_35_1, rv_35_2, rv_35_3, rv_35_4, rv_35_5, rv_35_6, rv_20_0, rv_27_0, rv_32_0, rv_22_0, rv_22_1, rv_22_2, rv_22_3, rv_22_4, rv_29_0, rv_29_1, rv_29_2, rv_34_0, rv_43_0, rv_43_13, rv_43_14, rv_43_15, rv_43_16, rv_43_17, rv_43_18, rv_43_19, rv_43_20, rv_43_21, rv_43_22, rv_43_30, if_true, Option.bind_some, nm, h1, copy_4_12, size_eq fu xv_4]
    rw [show (cpS σ 4 12).1 4 7 = nI n' from hW'.2.1]
    simp
  · simp only [fX10_restore, fX10_restore_0, xv_0, xv_1, xv_3, xv_4, xv_12, xv_20, xv_22, xv_27, xv_29, xv_32, xv_34, xv_35, xv_43, rv_0_0, rv_0_1, rv_0_2, rv_0_3, rv_0_4, rv_0_5, rv_0_6, rv_0_7, rv_1_0, rv_4_0, rv_4_1, rv_4_2, rv_4_3, rv_4_4, rv_4_5, rv_4_6, rv_12_0, rv_12_1, rv_12_2, rv_12_3, rv_12_4, rv_12_5, rv_12_6, rv_35_0, rv_35_1, rv_35_2, rv_35_3, rv_35_4, rv_35_5, rv_35_6, rv_20_0, rv_27_0, rv_32_0, rv_22_0, rv_22_1, rv_22_2, rv_22_3, rv_22_4, rv_29_0, rv_29_1, rv_29_2, rv_34_0, rv_43_0, rv_43_13, rv_43_14, rv_43_15, rv_43_16, rv_43_17, rv_43_18, rv_43_19, rv_43_20, rv_43_21, rv_43_22, rv_43_30, if_true, Option.bind_some, nm]
    rw [if_neg (show ¬ (cpS σ 4 12).1 43 29 = -1 from by rw [show (cpS σ 4 12).1 43 29 = nI n' from h2]; exact nI_ne_m1 (by omega))]
    rfl
  · have k : ∀ r, r < 43 ∨ 50 < r ∨ r = 44 → (si τ 43 12 ((cpS σ 4 12).1 43 29)).1 r = (cpS σ 4 12).1 r := by
      intro r hr
      rw [si_row, if_neg (by omega)]
      exact r1 r (by omega)
    have k43 : ∀ j, j ≠ 12 → (si τ 43 12 ((cpS σ 4 12).1 43 29)).1 43 j = σ.1 43 j := by
      intro j hj
      show upd (τ.1 43) 12 _ j = _
      rw [upd_ne _ _ hj, r1 43 (by omega)]
      rfl
    have kk : ∀ k, 1 ≤ k → k ≤ 7 → ∀ j, j < 7 → (si τ 43 12 ((cpS σ 4 12).1 43 29)).1 (4 + k) j = σ.1 (12 + k) j := by
      intro k' g1 g2 j hj
      rw [k (4 + k') (by omega)]
      rcases k17 g1 g2 with rfl | rfl | rfl | rfl | rfl | rfl | rfl <;> exact cpy7 hj
    refine ⟨⟨n', WS_cp (σ := σ) (u := 12) ?_ kk hW', ?_, fun j hj => ?_, fun p hp => ?_⟩, ?_, ?_, ?_, ?_⟩
    · rw [k 4 (by omega)]; rfl
    · exact h2
    · obtain ⟨m1, m2, m3, m4, m5⟩ := h3 j hj
      have z5 := kk 1 (by omega) (by omega) j (by omega)
      have z6 := kk 2 (by omega) (by omega) j (by omega)
      have z7 := kk 3 (by omega) (by omega) j (by omega)
      have z8 := kk 4 (by omega) (by omega) j (by omega)
      have z9 := kk 5 (by omega) (by omega) j (by omega)
      refine ⟨?_, ?_, ?_, ?_, ?_⟩
      · rw [z5]; exact Eq.trans (r2 j) (by rw [if_pos (by omega)]; exact m1)
      · rw [z6]; exact Eq.trans (r3 j) (by rw [if_pos (by omega)]; exact m2)
      · rw [z7]; exact Eq.trans (r4 j) (by rw [if_pos (by omega)]; exact m3)
      · rw [z9]; exact Eq.trans (r5 j) (by rw [if_pos (by omega)]; exact m4)
      · rw [z8]; exact Eq.trans (r6 j) (by rw [if_pos (by omega)]; exact m5)
    · rw [kk 7 (by omega) (by omega) p hp]; exact Eq.trans (r7 p) (by rw [if_pos hp]; exact h4 p hp)
    · obtain ⟨a, a1, a2, a3, a4⟩ := hP
      exact ⟨a, a1, by rw [k 1 (by omega)]; exact a2, by rw [k43 1 (by omega)]; exact a3, fun j hj => by rw [k 44 (by omega), k 2 (by omega)]; exact a4 j hj⟩
    · unfold Lw
      rw [k 3 (by omega), k43 2 (by omega), k43 3 (by omega), k43 4 (by omega), k43 5 (by omega)]
      exact hL
    · unfold Cn
      rw [k 0 (by omega), k43 6 (by omega), k43 25 (by omega), k43 27 (by omega), k43 28 (by omega)]
      exact hC
    · refine Or.inr ⟨by rw [k 0 (by omega)]; exact h1, n', WS_congr (fun i g1 g2 => ?_) hW', by rw [k43 29 (by omega)]; exact h2, fun j hj => ?_, fun p hp => ?_⟩
      · rw [k i (by omega)]
        show (cpS σ 4 12).1 i = σ.1 i
        unfold cpS
        simp only [si_row, sc_row]
        rw [if_neg (by omega), if_neg (by omega), if_neg (by omega), if_neg (by omega), if_neg (by omega), if_neg (by omega), if_neg (by omega), if_neg (by omega)]
      · rw [k 55 (by omega), k 13 (by omega), k 14 (by omega), k 15 (by omega), k 17 (by omega), k 16 (by omega)]; exact h3 j hj
      · rw [k 55 (by omega), k 19 (by omega)]; exact h4 p hp
theorem blockAt_lp (fu : Nat) {n p b : Nat} {σ : St} (hn : n ≤ 7) (hz : σ.1 43 12 = nI n) (hb : b < n) (hb1 : σ.1 48 b = nI p) (hu : ∀ j, j < n → σ.1 48 j = nI p → j = b) : ∀ (m i : Nat) (x2 : Int32), i ≤ n → n - i < m → x2 = (if b < i then nI b else -1) → fX10_blockAt_4 fu 43 (nI p) m x2 (nI i) σ = some (nI b, σ) := by
  intro m
  induction m with
  | zero => intro i x2 h1 h2; omega
  | succ m ih =>
    intro i x2 h1 h2 h3
    show fX10_blockAt_4b fu (fX10_blockAt_4 fu 43 (nI p) m) 43 (nI p) x2 (nI i) σ = _
    unfold fX10_blockAt_4b fX10_blockAt_27
    rw [hz]
    by_cases c : i < n
    · rw [if_neg (nI_ge c (by omega)), rv_43_16, ald_nI (by omega) (by omega)]
      simp only [Option.bind_some, nm]
      rw [nI_1]
      by_cases d : σ.1 48 i = nI p
      · rw [if_pos d]
        have : i = b := hu i c d
        subst this
        exact ih (i + 1) _ (by omega) (by omega) (by rw [if_pos (by omega)])
      · rw [if_neg d]
        refine ih (i + 1) _ (by omega) (by omega) ?_
        rw [h3]
        by_cases h4 : b < i
        · rw [if_pos h4, if_pos (by omega)]
        · rw [if_neg h4, if_neg]
          intro h5
          have : b = i := by omega
          subst this
          exact d hb1
    · have : i = n := by omega
      subst this
      rw [if_pos (nI_le (Nat.le_refl _) (by omega)), h3, if_pos hb]
theorem blockAt_eq {fu : Nat} (hf : 100 ≤ fu) {n p : Nat} {σ : St} (hW : WS σ 4 n) (hM : Mo σ n) (hp : p < n) : fX10_blockAt fu 43 (nI p) σ = some (σ.1 10 p, σ) := by
  unfold fX10_blockAt fX10_blockAt_0
  rw [if_pos xv_43]
  obtain ⟨g1, g2, g3⟩ := WS_ly hW p hp
  have hn := hW.1
  rw [show σ.1 10 p = nI (nv σ 10 p) from g1]
  refine blockAt_lp fu hn hM.1 g2 ?_ (fun j hj he => ?_) fu 0 (-1) (by omega) (by omega) (by rw [if_neg (by omega)])
  · rw [(hM.2.1 _ g2).2.2.2.1]; exact g3
  · rw [(hM.2.1 j hj).2.2.2.1] at he
    obtain ⟨q1, q2, q3⟩ := WS_pl hW j hj
    have e : nv σ 9 j = p := by
      have := q1.symm.trans he
      exact (nI_eq (by have : nv σ 9 j < n := q2; omega) (by omega)).mp this
    have q4 : σ.1 10 p = nI j := by rw [← e]; exact q3
    have := q4.symm.trans g1
    exact (nI_eq (by omega) (by have : nv σ (4 + 6) p < n := g2; omega)).mp this
theorem sm_at {fu : Nat} (hf : 100 ≤ fu) : Sm_at fu Inv := by
  intro σ a0 hI
  obtain ⟨⟨n, hW, hM⟩, hP, hL, hC, hIm⟩ := id hI
  obtain ⟨hn, hz, w1, w2, w3, w4⟩ := id hW
  have b1 := hasBlock4 fu a0 σ
  have b2 := isBlock_eq fu a0 hn hM.1
  rw [hz] at b1
  by_cases hb : a0 < 0 ∨ nI n ≤ a0
  · rw [if_pos hb] at b1 b2
    exact ⟨(-101, σ), (-101, σ), by simp [fX9_at_24, fX9_at_0, fX9_at, xv_0, xv_1, xv_3, xv_4, xv_12, xv_20, xv_22, xv_27, xv_29, xv_32, xv_34, xv_35, xv_43, rv_0_0, rv_0_1, rv_0_2, rv_0_3, rv_0_4, rv_0_5, rv_0_6, rv_0_7, rv_1_0, rv_4_0, rv_4_1, rv_4_2, rv_4_3, rv_4_4, rv_4_5, rv_4_6, rv_12_0, rv_12_1, rv_12_2, rv_12_3, rv_12_4, rv_12_5, rv_12_6, rv_35_0, rv_35_1, rv_35_2, rv_35_3, rv_35_4, rv_35_5, rv_35_6, rv_20_0, rv_27_0, rv_32_0, rv_22_0, rv_22_1, rv_22_2, rv_22_3, rv_22_4, rv_29_0, rv_29_1, rv_29_2, rv_34_0, rv_43_0, rv_43_13, rv_43_14, rv_43_15, rv_43_16, rv_43_17, rv_43_18, rv_43_19, rv_43_20, rv_43_21, rv_43_22, rv_43_30, if_true, Option.bind_some, nm, b1], by simp [fX10_at_18, fX10_at_0, fX10_at, xv_0, xv_1, xv_3, xv_4, xv_12, xv_20, xv_22, xv_27, xv_29, xv_32, xv_34, xv_35, xv_43, rv_0_0, rv_0_1, rv_0_2, rv_0_3, rv_0_4, rv_0_5, rv_0_6, rv_0_7, rv_1_0, rv_4_0, rv_4_1, rv_4_2, rv_4_3, rv_4_4, rv_4_5, rv_4_6, rv_12_0, rv_12_1, rv_12_2, rv_12_3, rv_12_4, rv_12_5, rv_12_6, rv_35_0, rv_35_1, rv_35_2, rv_35_3, rv_35_4, rv_35_5, rv_35_6, rv_20_0, rv_27_0, rv_32_0, rv_22_0, rv_22_1, rv_22_2, rv_22_3, rv_22_4, rv_29_0, rv_29_1, rv_29_2, rv_34_0, rv_43_0, rv_43_13, rv_43_14, rv_43_15, rv_43_16, rv_43_17, rv_43_18, rv_43_19, rv_43_20, rv_43_21, rv_43_22, rv_43_30, if_true, Option.bind_some, nm, b2], rfl, hI⟩
  rw [if_neg hb] at b1 b2
  obtain ⟨p, hp, rfl⟩ := in_nlt n (fun q => hb (Or.inl q)) (fun q => hb (Or.inr q)) (by omega)
  exact ⟨(σ.1 10 p, σ), (σ.1 10 p, σ), by simp [fX9_at_24, fX9_at_0, fX9_at, fX8_blockIn_0, fX8_blockIn, xv_0, xv_1, xv_3, xv_4, xv_12, xv_20, xv_22, xv_27, xv_29, xv_32, xv_34, xv_35, xv_43, rv_0_0, rv_0_1, rv_0_2, rv_0_3, rv_0_4, rv_0_5, rv_0_6, rv_0_7, rv_1_0, rv_4_0, rv_4_1, rv_4_2, rv_4_3, rv_4_4, rv_4_5, rv_4_6, rv_12_0, rv_12_1, rv_12_2, rv_12_3, rv_12_4, rv_12_5, rv_12_6, rv_35_0, rv_35_1, rv_35_2, rv_35_3, rv_35_4, rv_35_5, rv_35_6, rv_20_0, rv_27_0, rv_32_0, rv_22_0, rv_22_1, rv_22_2, rv_22_3, rv_22_4, rv_29_0, rv_29_1, rv_29_2, rv_34_0, rv_43_0, rv_43_13, rv_43_14, rv_43_15, rv_43_16, rv_43_17, rv_43_18, rv_43_19, rv_43_20, rv_43_21, rv_43_22, rv_43_30, if_true, Option.bind_some, nm, b1, ald_nI (show p < 7 by omega) (by omega : 7 < 2 ^ 31)], by simp [fX10_at_18, fX10_at_0, fX10_at, xv_0, xv_1, xv_3, xv_4, xv_12, xv_20, xv_22, xv_27, xv_29, xv_32, xv_34, xv_35, xv_43, rv_0_0, rv_0_1, rv_0_2, rv_0_3, rv_0_4, rv_0_5, rv_0_6, rv_0_7, rv_1_0, rv_4_0, rv_4_1, rv_4_2, rv_4_3, rv_4_4, rv_4_5, rv_4_6, rv_12_0, rv_12_1, rv_12_2, rv_12_3, rv_12_4, rv_12_5, rv_12_6, rv_35_0, rv_35_1, rv_35_2, rv_35_3, rv_35_4, rv_35_5, rv_35_6, rv_20_0, rv_27_0, rv_32_0, rv_22_0, rv_22_1, rv_22_2, rv_22_3, rv_22_4, rv_29_0, rv_29_1, rv_29_2, rv_34_0, rv_43_0, rv_43_13, rv_43_14, rv_43_15, rv_43_16, rv_43_17, rv_43_18, rv_43_19, rv_43_20, rv_43_21, rv_43_22, rv_43_30, if_true, Option.bind_some, nm, b2, blockAt_eq hf hW hM hp], rfl, hI⟩
