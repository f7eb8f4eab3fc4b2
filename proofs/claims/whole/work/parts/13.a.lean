theorem put_eq (fu : Nat) {o : Nat} (ho : xk o = 6) {b p : Nat} (hb : b < 7) (hp : p < 7) (σ : St) : fX8_put fu o (nI b) (nI p) σ = some (si (si σ (o + 5) b (nI p)) (o + 6) p (nI b)) := by
  simp only [fX8_put_0, fX8_put, ho, if_true, rs4 ho, rs5 ho, ast_nI hb (by omega : 7 < 2 ^ 31), ast_nI hp (by omega : 7 < 2 ^ 31), Option.bind_some]
theorem sm_block {fu : Nat} : Sm_block fu Inv := by
  intro σ a0 a1 a2 hI
  obtain ⟨⟨n, hW, hM⟩, hP, hL, hC, hIm⟩ := id hI
  obtain ⟨hn, hz, w1, w2, w3, w4⟩ := id hW
  have i0 : ∀ τ, fX10_in fu a0.toInt64 0 4 τ = some (if a0 < 0 ∨ 4 < a0 then 0 else 1, τ) := fun τ => in_eq32 fu a0 0 4 τ
  have i1 : ∀ τ, fX10_in fu a1.toInt64 0 999 τ = some (if a1 < 0 ∨ 999 < a1 then 0 else 1, τ) := fun τ => in_eq32 fu a1 0 999 τ
  have i2 : ∀ τ, fX10_in fu a2.toInt64 0 999 τ = some (if a2 < 0 ∨ 999 < a2 then 0 else 1, τ) := fun τ => in_eq32 fu a2 0 999 τ
  have j0 := isKind_eq fu a0 σ
  have j1 := isWithin_eq fu a1 0 999 σ
  have j2 := isWithin_eq fu a2 0 999 σ
  by_cases c0 : a0 < 0 ∨ 4 < a0
  · rw [if_pos c0] at j0
    have k0 := i0 σ
    rw [if_pos c0] at k0
    exact ⟨(-102, σ), (-102, σ), by simp [fX9_block_29, fX9_block_0, fX9_block, xv_0, xv_1, xv_3, xv_4, xv_12, xv_20, xv_22, xv_27, xv_29, xv_32, xv_34, xv_35, xv_43, rv_0_0, rv_0_1, rv_0_2, rv_0_3, rv_0_4, rv_0_5, rv_0_6, rv_0_7, rv_1_0, rv_4_0, rv_4_1, rv_4_2, rv_4_3, rv_4_4, rv_4_5, rv_4_6, rv_12_0, rv_12_1, rv_12_2, rv_12_3, rv_12_4, rv_12_5, rv_12_6, rv_35_0, rv_35_1, rv_35_2, rv_35_3, rv_35_4, rv_35_5, rv_35_6, rv_20_0, rv_27_0, rv_32_0, rv_22_0, rv_22_1, rv_22_2, rv_22_3, rv_22_4, rv_29_0, rv_29_1, rv_29_2, rv_34_0, rv_43_0, rv_43_13, rv_43_14, rv_43_15, rv_43_16, rv_43_17, rv_43_18, rv_43_19, rv_43_20, rv_43_21, rv_43_22, rv_43_30, if_true, Option.bind_some, nm, j0], by simp [fX10_block_36, fX10_block_0, fX10_block, xv_0, xv_1, xv_3, xv_4, xv_12, xv_20, xv_22, xv_27, xv_29, xv_32, xv_34, xv_35, xv_43, rv_0_0, rv_0_1, rv_0_2, rv_0_3, rv_0_4, rv_0_5, rv_0_6, rv_0_7, rv_1_0, rv_4_0, rv_4_1, rv_4_2, rv_4_3, rv_4_4, rv_4_5, rv_4_6, rv_12_0, rv_12_1, rv_12_2, rv_12_3, rv_12_4, rv_12_5, rv_12_6, rv_35_0, rv_35_1, rv_35_2, rv_35_3, rv_35_4, rv_35_5, rv_35_6, rv_20_0, rv_27_0, rv_32_0, rv_22_0, rv_22_1, rv_22_2, rv_22_3, rv_22_4, rv_29_0, rv_29_1, rv_29_2, rv_34_0, rv_43_0, rv_43_13, rv_43_14, rv_43_15, rv_43_16, rv_43_17, rv_43_18, rv_43_19, rv_43_20, rv_43_21, rv_43_22, rv_43_30, if_true, Option.bind_some, nm, k0], rfl, hI⟩
  rw [if_neg c0] at j0
  by_cases c1 : a1 < 0 ∨ 999 < a1
  · rw [if_pos c1] at j1
    have k0 := i0 σ
    have k1 := i1 σ
    rw [if_neg c0] at k0
    rw [if_pos c1] at k1
    exact ⟨(-102, σ), (-102, σ), by simp [fX9_block_29, fX9_block_0, fX9_block, xv_0, xv_1, xv_3, xv_4, xv_12, xv_20, xv_22, xv_27, xv_29, xv_32, xv_34, xv_35, xv_43, rv_0_0, rv_0_1, rv_0_2, rv_0_3, rv_0_4, rv_0_5, rv_0_6, rv_0_7, rv_1_0, rv_4_0, rv_4_1, rv_4_2, rv_4_3, rv_4_4, rv_4_5, rv_4_6, rv_12_0, rv_12_1, rv_12_2, rv_12_3, rv_12_4, rv_12_5, rv_12_6, rv_35_0, rv_35_1, rv_35_2, rv_35_3, rv_35_4, rv_35_5, rv_35_6, rv_20_0, rv_27_0, rv_32_0, rv_22_0, rv_22_1, rv_22_2, rv_22_3, rv_22_4, rv_29_0, rv_29_1, rv_29_2, rv_34_0, rv_43_0, rv_43_13, rv_43_14, rv_43_15, rv_43_16, rv_43_17, rv_43_18, rv_43_19, rv_43_20, rv_43_21, rv_43_22, rv_43_30, if_true, Option.bind_some, nm, j0, j1], by simp [fX10_block_36, fX10_block_0, fX10_block, xv_0, xv_1, xv_3, xv_4, xv_12, xv_20, xv_22, xv_27, xv_29, xv_32, xv_34, xv_35, xv_43, rv_0_0, rv_0_1, rv_0_2, rv_0_3, rv_0_4, rv_0_5, rv_0_6, rv_0_7, rv_1_0, rv_4_0, rv_4_1, rv_4_2, rv_4_3, rv_4_4, rv_4_5, rv_4_6, rv_12_0, rv_12_1, rv_12_2, rv_12_3, rv_12_4, rv_12_5, rv_12_6, rv_35_0, rv_35_1, rv_35_2, rv_35_3, rv_35_4, rv_35_5, rv_35_6, rv_20_0, rv_27_0, rv_32_0, rv_22_0, rv_22_1, rv_22_2, rv_22_3, rv_22_4, rv_29_0, rv_29_1, rv_29_2, rv_34_0, rv_43_0, rv_43_13, rv_43_14, rv_43_15, rv_43_16, rv_43_17, rv_43_18, rv_43_19, rv_43_20, rv_43_21, rv_43_22, rv_43_30, if_true, Option.bind_some, nm, k0, k1], rfl, hI⟩
  rw [if_neg c1] at j1
  by_cases c2 : a2 < 0 ∨ 999 < a2
  · rw [if_pos c2] at j2
    have k0 := i0 σ
    have k1 := i1 σ
    have k2 := i2 σ
    rw [if_neg c0] at k0
    rw [if_neg c1] at k1
    rw [if_pos c2] at k2
    exact ⟨(-102, σ), (-102, σ), by simp [fX9_block_29, fX9_block_0, fX9_block, xv_0, xv_1, xv_3, xv_4, xv_12, xv_20, xv_22, xv_27, xv_29, xv_32, xv_34, xv_35, xv_43, rv_0_0, rv_0_1, rv_0_2, rv_0_3, rv_0_4, rv_0_5, rv_0_6, rv_0_7, rv_1_0, rv_4_0, rv_4_1, rv_4_2, rv_4_3, rv_4_4, rv_4_5, rv_4_6, rv_12_0, rv_12_1, rv_12_2, rv_12_3, rv_12_4, rv_12_5, rv_12_6, rv_35_0, rv_35_1, rv_35_2, rv_35_3, rv_35_4, rv_35_5, rv_35_6, rv_20_0, rv_27_0, rv_32_0, rv_22_0, rv_22_1, rv_22_2, rv_22_3, rv_22_4, rv_29_0, rv_29_1, rv_29_2, rv_34_0, rv_43_0, rv_43_13, rv_43_14, rv_43_15, rv_43_16, rv_43_17, rv_43_18, rv_43_19, rv_43_20, rv_43_21, rv_43_22, rv_43_30, if_true, Option.bind_some, nm, j0, j1, j2], by simp [fX10_block_36, fX10_block_0, fX10_block, xv_0, xv_1, xv_3, xv_4, xv_12, xv_20, xv_22, xv_27, xv_29, xv_32, xv_34, xv_35, xv_43, rv_0_0, rv_0_1, rv_0_2, rv_0_3, rv_0_4, rv_0_5, rv_0_6, rv_0_7, rv_1_0, rv_4_0, rv_4_1, rv_4_2, rv_4_3, rv_4_4, rv_4_5, rv_4_6, rv_12_0, rv_12_1, rv_12_2, rv_12_3, rv_12_4, rv_12_5, rv_12_6, rv_35_0, rv_35_1, rv_35_2, rv_35_3, rv_35_4, rv_35_5, rv_35_6, rv_20_0, rv_27_0, rv_32_0, rv_22_0, rv_22_1, rv_22_2, rv_22_3, rv_22_4, rv_29_0, rv_29_1, rv_29_2, rv_34_0, rv_43_0, rv_43_13, rv_43_14, rv_43_15, rv_43_16, rv_43_17, rv_43_18, rv_43_19, rv_43_20, rv_43_21, rv_43_22, rv_43_30, if_true, Option.bind_some, nm, k0, k1, k2], rfl, hI⟩
  rw [if_neg c2] at j2
  have f0 : ∀ τ, fX10_in fu a0.toInt64 0 4 τ = some (1, τ) := fun τ => by rw [i0, if_neg c0]
  have f1 : ∀ τ, fX10_in fu a1.toInt64 0 999 τ = some (1, τ) := fun τ => by rw [i1, if_neg c1]
  have f2 : ∀ τ, fX10_in fu a2.toInt64 0 999 τ = some (1, τ) := fun τ => by rw [i2, if_neg c2]
  have h0 := isN_in 4 (by omega) c0
  have h1 := isN_in 999 (by omega) c1
  have h2 := isN_in 999 (by omega) c2
  by_cases c7 : n = 7
  · subst c7
    refine ⟨(-104, σ), (-104, σ), ?_, ?_, rfl, hI⟩
    · simp only [fX9_block_29, fX9_block_0, fX9_block, fX8_add_0, fX8_add, xv_0, xv_1, xv_3, xv_4, xv_12, xv_20, xv_22, xv_27, xv_29, xv_32, xv_34, xv_35, xv_43, rv_0_0, rv_0_1, rv_0_2, rv_0_3, rv_0_4, rv_0_5, rv_0_6, rv_0_7, rv_1_0, rv_4_0, rv_4_1, rv_4_2, rv_4_3, rv_4_4, rv_4_5, rv_4_6, rv_12_0, rv_12_1, rv_12_2, rv_12_3, rv_12_4, rv_12_5, rv_12_6, rv_35_0, rv_35_1, rv_35_2, rv_35_3, rv_35_4, rv_35_5, rv_35_6, rv_20_0, rv_27_0, rv_32_0, rv_22_0, rv_22_1, rv_22_2, rv_22_3, rv_22_4, rv_29_0, rv_29_1, rv_29_2, rv_34_0, rv_43_0, rv_43_13, rv_43_14, rv_43_15, rv_43_16, rv_43_17, rv_43_18, rv_43_19, rv_43_20, rv_43_21, rv_43_22, rv_43_30, if_true, Option.bind_some, nm, j0, j1, j2, hz]
      rfl
    · simp only [fX10_block_36, fX10_block_0, fX10_block, xv_0, xv_1, xv_3, xv_4, xv_12, xv_20, xv_22, xv_27, xv_29, xv_32, xv_34, xv_35, xv_43, rv_0_0, rv_0_1, rv_0_2, rv_0_3, rv_0_4, rv_0_5, rv_0_6, rv_0_7, rv_1_0, rv_4_0, rv_4_1, rv_4_2, rv_4_3, rv_4_4, rv_4_5, rv_4_6, rv_12_0, rv_12_1, rv_12_2, rv_12_3, rv_12_4, rv_12_5, rv_12_6, rv_35_0, rv_35_1, rv_35_2, rv_35_3, rv_35_4, rv_35_5, rv_35_6, rv_20_0, rv_27_0, rv_32_0, rv_22_0, rv_22_1, rv_22_2, rv_22_3, rv_22_4, rv_29_0, rv_29_1, rv_29_2, rv_34_0, rv_43_0, rv_43_13, rv_43_14, rv_43_15, rv_43_16, rv_43_17, rv_43_18, rv_43_19, rv_43_20, rv_43_21, rv_43_22, rv_43_30, if_true, Option.bind_some, nm, f0, f1, f2, hM.1]
      rfl
  have hn7 : n < 7 := by omega
  have q1 : ∀ (τ : St) a x, ast τ a 7 (nI n) x = some (si τ a n x) := fun τ a x => ast_nI hn7 (by omega)
  have l7 : nI n < (7 : Int32) := nI_lt (b := 7) hn7 (by omega)
  have n7 : ¬ nI n = (7 : Int32) := fun q => c7 ((nI_eq (b := 7) (by omega) (by omega)).mp q)
  generalize e1 : si (si (si (si (si (si (si σ 5 n a0) 6 n a1) 7 n a2) 8 n (-1)) 9 n (nI n)) 10 n (nI n)) 4 7 (nI (n + 1)) = σ1
  have u1 : fX9_block fu 0 a0 a1 a2 σ = some (nI n, σ1) := by
    simp only [fX9_block_29, fX9_block_0, fX9_block, fX8_add_0, fX8_add, xv_0, xv_1, xv_3, xv_4, xv_12, xv_20, xv_22, xv_27, xv_29, xv_32, xv_34, xv_35, xv_43, rv_0_0, rv_0_1, rv_0_2, rv_0_3, rv_0_4, rv_0_5, rv_0_6, rv_0_7, rv_1_0, rv_4_0, rv_4_1, rv_4_2, rv_4_3, rv_4_4, rv_4_5, rv_4_6, rv_12_0, rv_12_1, rv_12_2, rv_12_3, rv_12_4, rv_12_5, rv_12_6, rv_35_0, rv_35_1, rv_35_2, rv_35_3, rv_35_4, rv_35_5, rv_35_6, rv_20_0, rv_27_0, rv_32_0, rv_22_0, rv_22_1, rv_22_2, rv_22_3, rv_22_4, rv_29_0, rv_29_1, rv_29_2, rv_34_0, rv_43_0, rv_43_13, rv_43_14, rv_43_15, rv_43_16, rv_43_17, rv_43_18, rv_43_19, rv_43_20, rv_43_21, rv_43_22, rv_43_30, if_true, Option.bind_some, nm, j0, j1, j2, hz]
    rw [if_neg (by decide), if_neg (by decide), if_neg (by decide), if_pos l7]
    simp only [q1, Option.bind_some, put_eq fu xv_4 hn7 hn7]
    rw [show (si (si (si (si (si (si σ 5 n a0) 6 n a1) 7 n a2) 8 n (-1)) (4 + 5) n (nI n)) (4 + 6) n (nI n)).1 4 7 = nI n from hz, nI_1, ← e1]
  have z43 : σ1.1 43 12 = nI n := by rw [← e1]; exact hM.1
  have u2 : fX10_block fu 43 a0 a1 a2 σ1 = some (nI n, si (si (si (si (si (si σ1 45 n a0) 46 n a1) 47 n a2) 48 n (nI n)) 49 n (-1)) 43 12 (nI (n + 1))) := by
    simp only [fX10_block_36, fX10_block_0, fX10_block, xv_0, xv_1, xv_3, xv_4, xv_12, xv_20, xv_22, xv_27, xv_29, xv_32, xv_34, xv_35, xv_43, rv_0_0, rv_0_1, rv_0_2, rv_0_3, rv_0_4, rv_0_5, rv_0_6, rv_0_7, rv_1_0, rv_4_0, rv_4_1, rv_4_2, rv_4_3, rv_4_4, rv_4_5, rv_4_6, rv_12_0, rv_12_1, rv_12_2, rv_12_3, rv_12_4, rv_12_5, rv_12_6, rv_35_0, rv_35_1, rv_35_2, rv_35_3, rv_35_4, rv_35_5, rv_35_6, rv_20_0, rv_27_0, rv_32_0, rv_22_0, rv_22_1, rv_22_2, rv_22_3, rv_22_4, rv_29_0, rv_29_1, rv_29_2, rv_34_0, rv_43_0, rv_43_13, rv_43_14, rv_43_15, rv_43_16, rv_43_17, rv_43_18, rv_43_19, rv_43_20, rv_43_21, rv_43_22, rv_43_30, if_true, Option.bind_some, nm, f0, f1, f2]
    rw [if_neg (by decide), if_neg (by decide), if_neg (by decide)]
    simp only [z43, n7, if_false, q1, Option.bind_some, si_row, upd_app, if_true]
    simp [z43, q1, nI_1, nI_pred, si_row, upd_app]
  refine ⟨_, _, u1, u2, rfl, ?_⟩
  subst e1
  have ms : ∀ {f g : Nat → Int32} {v : Int32}, (∀ j, j < n → f j = g j) → ∀ j, j < n + 1 → upd f n v j = upd g n v j := by
    intro f g v h j hj
    unfold upd
    split
    · rfl
    · exact h j (by omega)
  refine ⟨⟨n + 1, ⟨by omega, rfl, fun j hj => ⟨?_, ?_, ?_, ?_⟩, fun j hj => ?_, fun p hp => ?_, w4⟩, rfl, fun j hj => ⟨ms (fun j hj => (hM.2.1 j hj).1) j hj, ms (fun j hj => (hM.2.1 j hj).2.1) j hj, ms (fun j hj => (hM.2.1 j hj).2.2.1) j hj, ms (fun j hj => (hM.2.1 j hj).2.2.2.1) j hj, ms (fun j hj => (hM.2.1 j hj).2.2.2.2) j hj⟩, hM.2.2⟩, hP, hL, hC, hIm⟩
  · show isN (upd (σ.1 5) n a0 j) 4
    by_cases h : j = n
    · rw [h, upd_same]; exact h0
    · rw [upd_ne _ _ h]; exact (w1 j (by omega)).1
  · show isN (upd (σ.1 6) n a1 j) 999
    by_cases h : j = n
    · rw [h, upd_same]; exact h1
    · rw [upd_ne _ _ h]; exact (w1 j (by omega)).2.1
  · show isN (upd (σ.1 7) n a2 j) 999
    by_cases h : j = n
    · rw [h, upd_same]; exact h2
    · rw [upd_ne _ _ h]; exact (w1 j (by omega)).2.2.1
  · show upd (σ.1 8) n (-1) j = -1 ∨ isN (upd (σ.1 8) n (-1) j) 999
    by_cases h : j = n
    · rw [h, upd_same]; exact Or.inl rfl
    · rw [upd_ne _ _ h]; exact (w1 j (by omega)).2.2.2
  · show ∃ p, p < n + 1 ∧ upd (σ.1 9) n (nI n) j = nI p ∧ upd (σ.1 10) n (nI n) p = nI j
    by_cases h : j = n
    · exact ⟨n, by omega, by rw [h, upd_same], by rw [h, upd_same]⟩
    · obtain ⟨p, p1, p2, p3⟩ := w2 j (by omega)
      exact ⟨p, by omega, by rw [upd_ne _ _ h]; exact p2, by rw [upd_ne _ _ (by omega)]; exact p3⟩
  · show ∃ j, j < n + 1 ∧ upd (σ.1 10) n (nI n) p = nI j ∧ upd (σ.1 9) n (nI n) j = nI p
    by_cases h : p = n
    · exact ⟨n, by omega, by rw [h, upd_same], by rw [h, upd_same]⟩
    · obtain ⟨j, p1, p2, p3⟩ := w3 p (by omega)
      exact ⟨j, by omega, by rw [upd_ne _ _ h]; exact p2, by rw [upd_ne _ _ (by omega)]; exact p3⟩
