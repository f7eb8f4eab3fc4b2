/-! springs -/
theorem bnC_congr {A B A' B' : Nat → Int32} (W : Int32) {j : Nat} (h1 : A' j = A j) (h2 : B' j = B j) : bnC A' B' W j = bnC A B W j := by
  unfold bnC
  rw [h1, h2]
theorem bnN_congr {A B A' B' : Nat → Int32} (W : Int32) : ∀ i, (∀ j, j < i → A' j = A j ∧ B' j = B j) → bnN A' B' W i = bnN A B W i
  | 0, _ => rfl
  | i + 1, h => by
    unfold bnN
    rw [bnN_congr W i (fun j hj => h j (by omega)), bnC_congr W (h i (by omega)).1 (h i (by omega)).2]
theorem spr_burn {fu : Nat} (hf : 100 ≤ fu) {σ : St} {n : Nat} (hW : WS σ 35 n) : ∃ σ' c, c ≤ 7 ∧ fX8_burnWorn fu 35 (σ.1 3 3 * 100) σ = some (nI c, σ') ∧ WS σ' 35 n ∧ Gc σ σ' ∧ ∀ τ, Rs σ τ n → ∃ τ', fX10_burn fu 43 τ = some (nI c, τ') ∧ Rs σ' τ' n ∧ Gm τ τ' := by
  obtain ⟨hn, hz, w1, w2, w3, w4⟩ := id hW
  obtain ⟨W, eW⟩ : ∃ W, W = σ.1 3 3 * 100 := ⟨_, rfl⟩
  have b := burnWorn_eq hf xv_35 hn hz W
  have r0 : isN (0 : Int32) 999 := ⟨0, by omega, rfl⟩
  have hr : ∀ r, r ≠ 37 → r ≠ 38 → (bnS σ 37 38 W n).1 r = σ.1 r := fun r a c => bnS_r σ W n r a c
  have h37 : (bnS σ 37 38 W n).1 37 = bnF (σ.1 37) (σ.1 37) (σ.1 38) W n := bnS_u σ (by omega) W n
  have h38 : (bnS σ 37 38 W n).1 38 = bnF (σ.1 38) (σ.1 37) (σ.1 38) W n := bnS_d σ W n
  refine ⟨bnS σ 37 38 W n, bnN (σ.1 37) (σ.1 38) W n, by have := bnN_le (σ.1 37) (σ.1 38) W n; omega, by rw [← eW]; exact b, ?_, ⟨fun r h => hr r (by omega) (by omega), hr 34 (by omega) (by omega)⟩, fun τ hR => ?_⟩
  · refine ⟨hn, by rw [hr 35 (by omega) (by omega)]; exact hz, fun j hj => ?_, ?_, ?_, by rw [hr (35 + 7) (by omega) (by omega)]; exact w4⟩
    · rw [hr (35 + 1) (by omega) (by omega), show (35 + 2 : Nat) = 37 from rfl, h37, show (35 + 3 : Nat) = 38 from rfl, h38, hr (35 + 4) (by omega) (by omega)]
      refine ⟨(w1 j hj).1, ?_, ?_, (w1 j hj).2.2.2⟩
      · unfold bnF
        split
        · exact r0
        · exact (w1 j hj).2.1
      · unfold bnF
        split
        · exact r0
        · exact (w1 j hj).2.2.1
    · rw [hr (35 + 5) (by omega) (by omega), hr (35 + 6) (by omega) (by omega)]; exact w2
    · rw [hr (35 + 5) (by omega) (by omega), hr (35 + 6) (by omega) (by omega)]; exact w3
  · obtain ⟨lq, rz, rj, rp⟩ := hR
    have m := mburn_eq hf hn rz
    have eW2 : 100 * τ.1 43 5 = W := by rw [lq.2.2.2, eW, Int32.mul_comm]
    rw [eW2, bnN_congr W n (fun j hj => ⟨(rj j hj).2.1, (rj j hj).2.2.1⟩)] at m
    have tr : ∀ r, r ≠ 52 → r ≠ 53 → (bnS τ 52 53 W n).1 r = τ.1 r := fun r a c => bnS_r τ W n r a c
    refine ⟨_, m, ?_, fun r h h' => tr r (by omega) (by omega), fun j _ _ => by rw [tr 43 (by omega) (by omega)]⟩
    refine ⟨?_, by rw [tr 43 (by omega) (by omega)]; exact rz, fun j hj => ?_, fun p hp => by rw [tr 50 (by omega) (by omega), hr 42 (by omega) (by omega)]; exact rp p hp⟩
    · unfold LwQ
      rw [tr 43 (by omega) (by omega), hr 3 (by omega) (by omega)]
      exact lq
    · rw [tr 45 (by omega) (by omega), hr 36 (by omega) (by omega), h37, h38, bnS_u τ (by omega), bnS_d, tr 54 (by omega) (by omega), hr 40 (by omega) (by omega)]
      refine ⟨(rj j hj).1, ?_, ?_, (rj j hj).2.2.2⟩
      · unfold bnF
        rw [bnC_congr W (rj j hj).2.1 (rj j hj).2.2.1, (rj j hj).2.1]
      · unfold bnF
        rw [bnC_congr W (rj j hj).2.1 (rj j hj).2.2.1, (rj j hj).2.2.1]
/-- what is noted -/
theorem note_eq (fu : Nat) {σ : St} {B c k : Nat} {f : Int32} (hc : c ≤ 7) (h1 : σ.1 34 1 = nI B) (h2 : σ.1 34 2 = f) : ∃ σ', fX2_note fu 34 (nI k) (nI c) σ = some σ' ∧ (∀ r, r ≠ 34 → σ'.1 r = σ.1 r) ∧ σ'.1 34 1 = nI (B + c) ∧ σ'.1 34 2 = if c = 0 then f else if f = -1 then nI k else f := by
  unfold fX2_note fX2_note_0 fX2_note_17
  rw [if_pos xv_34, h2]
  simp only [nm]
  by_cases z : c = 0
  · rw [if_pos z, if_pos (by rw [z]; decide), h1, nI_add]
    exact ⟨_, rfl, fun r hr => by rw [si_row, if_neg hr], rfl, h2⟩
  · rw [if_neg z, if_neg (nI_nle (by omega) (by omega))]
    by_cases e : f = -1
    · rw [if_pos e, if_pos e, show (si σ 34 2 (nI k)).1 34 1 = nI B from h1, nI_add]
      exact ⟨_, rfl, fun r hr => by rw [si_row, if_neg hr, si_row, if_neg hr], rfl, rfl⟩
    · rw [if_neg e, if_neg e, h1, nI_add]
      exact ⟨_, rfl, fun r hr => by rw [si_row, if_neg hr], rfl, h2⟩
theorem Rs_cl {σ σ' τ : St} {n : Nat} (h : Rs σ τ n) (h3 : σ'.1 3 = σ.1 3) (h36 : σ'.1 36 = σ.1 36) (h37 : σ'.1 37 = σ.1 37) (h38 : σ'.1 38 = σ.1 38) (h40 : σ'.1 40 = σ.1 40) (h42 : σ'.1 42 = σ.1 42) : Rs σ' τ n := by
  unfold Rs LwQ
  rw [h3, h36, h37, h38, h40, h42]
  exact h
theorem spr_lp {fu : Nat} (hf : 6000 ≤ fu) {n s : Nat} (h2 : 2 ≤ n) (hs : s ≤ 12) (x2 : Int32) : ∀ (m k B : Nat) (f : Int32) (σ : St), 1 ≤ k → k ≤ s + 1 → s + 1 - k < m → WS σ 35 n → LwC σ → σ.1 34 1 = nI B → σ.1 34 2 = f → (f = -1 → B = 0) → B ≤ 7 * k → ∃ σ' B' f', fX2_run_21 fu 34 4 3 22 (nI s) m (nI k) σ = some σ' ∧ (∀ r, r < 22 ∨ 42 < r → σ'.1 r = σ.1 r) ∧ WS σ' 35 n ∧ σ'.1 34 1 = nI B' ∧ σ'.1 34 2 = f' ∧ ∀ τ, Rs σ τ n → ∃ τ', fX10_springs_117 fu 43 (nI s) x2 m (nI B) f (nI k) τ = (if x2 = 0 then some (nI B', τ') else if x2 = 1 then some (f', τ') else (fX10_worstOf fu 43 52 τ').bind fun q => some (q.1, q.2)) ∧ Rs σ' τ' n ∧ Gm τ τ' := by
  intro m
  induction m with
  | zero => intro k _ _ _ _ _ h; omega
  | succ m ih =>
    intro k B f σ h1 hk hm hW hL e1 e2 hfB hB
    show ∃ σ' B' f', fX2_run_21b fu (fX2_run_21 fu 34 4 3 22 (nI s) m) 34 4 3 22 (nI s) (nI k) σ = _ ∧ _
    by_cases c : k ≤ s
    · obtain ⟨σ1, a1, a2, a3, a4⟩ := spr_lay hf hW hL h2 c (by omega) (fX2_run_21 fu 34 4 3 22 (nI s) m)
      obtain ⟨σ2, b1, b2, b3, b4⟩ := spr_year (fu := fu) (by omega) a2
      obtain ⟨σ3, q, c0, c1, c2, c3, c4⟩ := spr_burn (fu := fu) (by omega) b2
      have G3 : Gc σ σ3 := (a3.tr b3).tr c3
      obtain ⟨σ4, d1, d2, d3, d4⟩ := note_eq fu (σ := σ3) (k := k) (f := f) c0 (by rw [G3.2]; exact e1) (by rw [G3.2]; exact e2)
      have g3 : ∀ r, r < 22 ∨ 42 < r → σ4.1 r = σ.1 r := fun r hr => (d2 r (by omega)).trans (G3.1 r hr)
      obtain ⟨σ', B', f', k1, k2, k3, k4, k5, k6⟩ := ih (k + 1) (B + q) (if q = 0 then f else if f = -1 then nI k else f) σ4 (by omega) (by omega) (by omega) (WS_congr (fun i a b => d2 i (by omega)) c2) (by unfold LwC; rw [g3 3 (by omega)]; exact hL) d3 d4 (fun z => by
        by_cases y : q = 0
        · rw [if_pos y] at z
          have := hfB z
          omega
        · rw [if_neg y] at z
          by_cases y2 : f = -1
          · rw [if_pos y2] at z; exact absurd z (nI_ne_m1 (by omega))
          · rw [if_neg y2] at z; exact absurd z y2) (by omega)
      refine ⟨σ', B', f', ?_, fun r hr => (k2 r hr).trans (g3 r hr), k3, k4, k5, fun τ hR => ?_⟩
      · rw [a1]
        unfold fX2_run_59
        rw [rv_34_0, b1]
        simp only [Option.bind_some, nm]
        rw [show fX4_burningWear fu 3 σ2 = some (σ2.1 3 3 * 100, σ2) from by unfold fX4_burningWear fX4_burningWear_0; rw [if_pos xv_3]]
        simp only [Option.bind_some]
        rw [c1]
        simp only [Option.bind_some]
        rw [d1]
        simp only [Option.bind_some]
        rw [nI_1]
        exact k1
      · obtain ⟨τ1, t1, t2, t3⟩ := a4 τ hR
        obtain ⟨τ2, u1, u2, u3⟩ := b4 τ1 t2
        obtain ⟨τ3, v1, v2, v3⟩ := c4 τ2 u2
        obtain ⟨τ', y1, y2, y3⟩ := k6 τ3 (Rs_cl v2 (d2 3 (by omega)) (d2 36 (by omega)) (d2 37 (by omega)) (d2 38 (by omega)) (d2 40 (by omega)) (d2 42 (by omega)))
        refine ⟨τ', ?_, y2, ((t3.tr u3).tr v3).tr y3⟩
        rw [← y1]
        show fX10_springs_117b fu (fX10_springs_117 fu 43 (nI s) x2 m) 43 (nI s) x2 (nI B) f (nI k) τ = _
        unfold fX10_springs_117b fX10_springs_149 fX10_springs_151
        rw [if_neg (nI_nlt c (by omega)), t1, u1]
        simp only [Option.bind_some, nm]
        rw [v1]
        simp only [Option.bind_some]
        rw [nI_add, nI_1]
        by_cases z : f = -1
        · have B0 := hfB z
          rw [if_pos z]
          by_cases w : q = 0
          · rw [if_pos (by rw [w, B0]; decide), if_pos w]
          · rw [if_neg (nI_nle (by omega) (by omega)), if_neg w, if_pos z]
        · rw [if_neg z]
          by_cases w : q = 0
          · rw [if_pos w]
          · rw [if_neg w, if_neg z]
    · refine ⟨σ, B, f, ?_, fun _ _ => rfl, hW, e1, e2, fun τ hR => ⟨τ, ?_, hR, fun _ _ _ => rfl, fun _ _ _ => rfl⟩⟩
      · unfold fX2_run_21b
        rw [if_pos (nI_lt (by omega) (by omega))]
      · show fX10_springs_117b fu (fX10_springs_117 fu 43 (nI s) x2 m) 43 (nI s) x2 (nI B) f (nI k) τ = _
        unfold fX10_springs_117b fX10_springs_185
        rw [if_pos (nI_lt (by omega) (by omega)), rv_43_20]
/-- the reference copies -/
theorem cp61 (fu : Nat) (x1 x2 : Int32) {σ : St} : ∀ (m i : Nat) (τ : St), i ≤ 7 → 7 - i < m → (∀ r, r < 52 ∨ 54 < r → τ.1 r = σ.1 r) → (∀ j, j < i → τ.1 52 j = σ.1 46 j ∧ τ.1 53 j = σ.1 47 j ∧ τ.1 54 j = σ.1 48 j) → ∃ τ', fX10_springs_61 fu 43 x1 x2 m (nI i) τ = fX10_springs_117 fu 43 x1 x2 fu 0 (-1) 1 τ' ∧ (∀ r, r < 52 ∨ 54 < r → τ'.1 r = σ.1 r) ∧ ∀ j, j < 7 → τ'.1 52 j = σ.1 46 j ∧ τ'.1 53 j = σ.1 47 j ∧ τ'.1 54 j = σ.1 48 j := by
  intro m
  induction m with
  | zero => intro i _ _ h; omega
  | succ m ih =>
    intro i τ hi hm h1 h2
    show ∃ τ', fX10_springs_61b fu (fX10_springs_61 fu 43 x1 x2 m) 43 x1 x2 (nI i) τ = _ ∧ _ ∧ _
    unfold fX10_springs_61b
    by_cases c : i < 7
    · have q0 : ∀ (υ : St) a, ald υ a 7 (nI i) = some (υ.1 a i) := fun υ a => ald_nI (by omega) (by omega)
      have q1 : ∀ (υ : St) a x, ast υ a 7 (nI i) x = some (si υ a i x) := fun υ a x => ast_nI (by omega) (by omega)
      rw [if_neg (show ¬ (7 : Int32) ≤ nI i from nI_ge (b := 7) c (by omega)), rv_43_14, rv_43_15, rv_43_16, rv_43_20, rv_43_21, rv_43_22]
      simp only [q0, q1, Option.bind_some, nm]
      rw [nI_1]
      refine ih (i + 1) _ (by omega) (by omega) (fun r hr => ?_) (fun j hj => ?_)
      · simp only [si_row]
        rw [if_neg (by omega), if_neg (by omega), if_neg (by omega)]
        exact h1 r hr
      · show upd (τ.1 52) i (τ.1 46 i) j = _ ∧ upd (τ.1 53) i (τ.1 47 i) j = _ ∧ upd (τ.1 54) i (τ.1 48 i) j = _
        rw [upd_app, upd_app, upd_app, h1 46 (by omega), h1 47 (by omega), h1 48 (by omega)]
        by_cases d : j = i
        · rw [if_pos d, if_pos d, if_pos d, d]; exact ⟨rfl, rfl, rfl⟩
        · rw [if_neg d, if_neg d, if_neg d]; exact h2 j (by omega)
    · have : i = 7 := by omega
      subst this
      rw [if_pos (show (7 : Int32) ≤ nI 7 by decide)]
      exact ⟨τ, rfl, h1, h2⟩
theorem cpS_row (σ : St) (o u r : Nat) (h : r < o ∨ o + 7 < r) : (cpS σ o u).1 r = σ.1 r := by
  unfold cpS
  rw [si_row, if_neg (by omega), sc_row, if_neg (by omega), sc_row, if_neg (by omega), sc_row, if_neg (by omega), sc_row, if_neg (by omega), sc_row, if_neg (by omega), sc_row, if_neg (by omega), sc_row, if_neg (by omega)]
theorem in1_12 {x : Int32} (h : ¬ (x < 1 ∨ 12 < x)) : ∃ s, 1 ≤ s ∧ s ≤ 12 ∧ x = nI s := by
  have h0 : ¬ x < 0 := fun q => h (Or.inl (by
    rw [i_lt] at q ⊢
    rw [l0] at q
    rw [l1]
    omega))
  obtain ⟨s, s1, s2⟩ := in_nI 12 h0 (by
    rcases Classical.em (x ≤ nI 12) with q | q
    · exact q
    · exact absurd (Or.inr (not_le_lt.mp q)) h) (by omega)
  refine ⟨s, ?_, s1, s2⟩
  rcases Nat.lt_or_ge s 1 with q | q
  · exact absurd (Or.inl (by rw [s2, show s = 0 by omega]; decide)) h
  · exact q
theorem l10 : (10 : Int32) = nI 10 := rfl
theorem sm_springs {fu : Nat} (hf : 6000 ≤ fu) : Sm_springs fu Inv := by
  intro σ x y hI
  obtain ⟨⟨n, hW, hM⟩, hP, hL, hC, hIm⟩ := id hI
  obtain ⟨hn, hz, w1, w2, w3, w4⟩ := id hW
  obtain ⟨c1, c2, c3, ⟨k, d1, d2, d3⟩⟩ := id hC
  have s1 := isTooShort_eq fu hn hz
  have s2 := lacks_eq fu hn hM.1
  by_cases h : n < 2
  · rw [if_pos h] at s1 s2
    exact ⟨(-103, σ), (-103, σ), by simp [fX9_springs_29, fX9_springs_0, fX9_springs, xv_0, xv_1, xv_3, xv_4, xv_12, xv_20, xv_22, xv_27, xv_29, xv_32, xv_34, xv_35, xv_43, rv_0_0, rv_0_1, rv_0_2, rv_0_3, rv_0_4, rv_0_5, rv_0_6, rv_0_7, rv_1_0, rv_4_0, rv_4_1, rv_4_2, rv_4_3, rv_4_4, rv_4_5, rv_4_6, rv_12_0, rv_12_1, rv_12_2, rv_12_3, rv_12_4, rv_12_5, rv_12_6, rv_35_0, rv_35_1, rv_35_2, rv_35_3, rv_35_4, rv_35_5, rv_35_6, rv_20_0, rv_27_0, rv_32_0, rv_22_0, rv_22_1, rv_22_2, rv_22_3, rv_22_4, rv_29_0, rv_29_1, rv_29_2, rv_34_0, rv_43_0, rv_43_13, rv_43_14, rv_43_15, rv_43_16, rv_43_17, rv_43_18, rv_43_19, rv_43_20, rv_43_21, rv_43_22, rv_43_30, if_true, Option.bind_some, nm, s1], by simp [fX10_springs_34, fX10_springs_151, fX10_springs_149, fX10_springs_185, fX10_springs_117b, fX10_springs_117, fX10_springs_61b, fX10_springs_61, fX10_springs_0, fX10_springs, xv_0, xv_1, xv_3, xv_4, xv_12, xv_20, xv_22, xv_27, xv_29, xv_32, xv_34, xv_35, xv_43, rv_0_0, rv_0_1, rv_0_2, rv_0_3, rv_0_4, rv_0_5, rv_0_6, rv_0_7, rv_1_0, rv_4_0, rv_4_1, rv_4_2, rv_4_3, rv_4_4, rv_4_5, rv_4_6, rv_12_0, rv_12_1, rv_12_2, rv_12_3, rv_12_4, rv_12_5, rv_12_6, rv_35_0, rv_35_1, rv_35_2, rv_35_3, rv_35_4, rv_35_5, rv_35_6, rv_20_0, rv_27_0, rv_32_0, rv_22_0, rv_22_1, rv_22_2, rv_22_3, rv_22_4, rv_29_0, rv_29_1, rv_29_2, rv_34_0, rv_43_0, rv_43_13, rv_43_14, rv_43_15, rv_43_16, rv_43_17, rv_43_18, rv_43_19, rv_43_20, rv_43_21, rv_43_22, rv_43_30, if_true, Option.bind_some, nm, s2], rfl, hI⟩
  rw [if_neg h] at s1 s2
  have i1 := isWithin_eq fu x 1 12 σ
  have i2 : ∀ τ : St, fX10_in fu x.toInt64 (1 : Int64) (12 : Int64) τ = _ := fun τ => in_eq32 fu x 1 12 τ
  by_cases hx : x < 1 ∨ 12 < x
  · have i2 := i2 σ
    rw [if_pos hx] at i1 i2
    exact ⟨(-102, σ), (-102, σ), by simp [fX9_springs_29, fX9_springs_0, fX9_springs, xv_0, xv_1, xv_3, xv_4, xv_12, xv_20, xv_22, xv_27, xv_29, xv_32, xv_34, xv_35, xv_43, rv_0_0, rv_0_1, rv_0_2, rv_0_3, rv_0_4, rv_0_5, rv_0_6, rv_0_7, rv_1_0, rv_4_0, rv_4_1, rv_4_2, rv_4_3, rv_4_4, rv_4_5, rv_4_6, rv_12_0, rv_12_1, rv_12_2, rv_12_3, rv_12_4, rv_12_5, rv_12_6, rv_35_0, rv_35_1, rv_35_2, rv_35_3, rv_35_4, rv_35_5, rv_35_6, rv_20_0, rv_27_0, rv_32_0, rv_22_0, rv_22_1, rv_22_2, rv_22_3, rv_22_4, rv_29_0, rv_29_1, rv_29_2, rv_34_0, rv_43_0, rv_43_13, rv_43_14, rv_43_15, rv_43_16, rv_43_17, rv_43_18, rv_43_19, rv_43_20, rv_43_21, rv_43_22, rv_43_30, if_true, Option.bind_some, nm, s1, i1], by simp [fX10_springs_34, fX10_springs_151, fX10_springs_149, fX10_springs_185, fX10_springs_117b, fX10_springs_117, fX10_springs_61b, fX10_springs_61, fX10_springs_0, fX10_springs, xv_0, xv_1, xv_3, xv_4, xv_12, xv_20, xv_22, xv_27, xv_29, xv_32, xv_34, xv_35, xv_43, rv_0_0, rv_0_1, rv_0_2, rv_0_3, rv_0_4, rv_0_5, rv_0_6, rv_0_7, rv_1_0, rv_4_0, rv_4_1, rv_4_2, rv_4_3, rv_4_4, rv_4_5, rv_4_6, rv_12_0, rv_12_1, rv_12_2, rv_12_3, rv_12_4, rv_12_5, rv_12_6, rv_35_0, rv_35_1, rv_35_2, rv_35_3, rv_35_4, rv_35_5, rv_35_6, rv_20_0, rv_27_0, rv_32_0, rv_22_0, rv_22_1, rv_22_2, rv_22_3, rv_22_4, rv_29_0, rv_29_1, rv_29_2, rv_34_0, rv_43_0, rv_43_13, rv_43_14, rv_43_15, rv_43_16, rv_43_17, rv_43_18, rv_43_19, rv_43_20, rv_43_21, rv_43_22, rv_43_30, if_true, Option.bind_some, nm, s2, i2], rfl, hI⟩
  rw [if_neg hx] at i1
  simp only [if_neg hx] at i2
  have j1 := isWithin_eq fu y 0 2 σ
  have j2 : ∀ τ : St, fX10_in fu y.toInt64 (0 : Int64) (2 : Int64) τ = _ := fun τ => in_eq32 fu y 0 2 τ
  by_cases hy : y < 0 ∨ 2 < y
  · have i2 := i2 σ
    have j2 := j2 σ
    rw [if_pos hy] at j1 j2
    exact ⟨(-102, σ), (-102, σ), by simp [fX9_springs_29, fX9_springs_0, fX9_springs, xv_0, xv_1, xv_3, xv_4, xv_12, xv_20, xv_22, xv_27, xv_29, xv_32, xv_34, xv_35, xv_43, rv_0_0, rv_0_1, rv_0_2, rv_0_3, rv_0_4, rv_0_5, rv_0_6, rv_0_7, rv_1_0, rv_4_0, rv_4_1, rv_4_2, rv_4_3, rv_4_4, rv_4_5, rv_4_6, rv_12_0, rv_12_1, rv_12_2, rv_12_3, rv_12_4, rv_12_5, rv_12_6, rv_35_0, rv_35_1, rv_35_2, rv_35_3, rv_35_4, rv_35_5, rv_35_6, rv_20_0, rv_27_0, rv_32_0, rv_22_0, rv_22_1, rv_22_2, rv_22_3, rv_22_4, rv_29_0, rv_29_1, rv_29_2, rv_34_0, rv_43_0, rv_43_13, rv_43_14, rv_43_15, rv_43_16, rv_43_17, rv_43_18, rv_43_19, rv_43_20, rv_43_21, rv_43_22, rv_43_30, if_true, Option.bind_some, nm, s1, i1, j1], by simp [fX10_springs_34, fX10_springs_151, fX10_springs_149, fX10_springs_185, fX10_springs_117b, fX10_springs_117, fX10_springs_61b, fX10_springs_61, fX10_springs_0, fX10_springs, xv_0, xv_1, xv_3, xv_4, xv_12, xv_20, xv_22, xv_27, xv_29, xv_32, xv_34, xv_35, xv_43, rv_0_0, rv_0_1, rv_0_2, rv_0_3, rv_0_4, rv_0_5, rv_0_6, rv_0_7, rv_1_0, rv_4_0, rv_4_1, rv_4_2, rv_4_3, rv_4_4, rv_4_5, rv_4_6, rv_12_0, rv_12_1, rv_12_2, rv_12_3, rv_12_4, rv_12_5, rv_12_6, rv_35_0, rv_35_1, rv_35_2, rv_35_3, rv_35_4, rv_35_5, rv_35_6, rv_20_0, rv_27_0, rv_32_0, rv_22_0, rv_22_1, rv_22_2, rv_22_3, rv_22_4, rv_29_0, rv_29_1, rv_29_2, rv_34_0, rv_43_0, rv_43_13, rv_43_14, rv_43_15, rv_43_16, rv_43_17, rv_43_18, rv_43_19, rv_43_20, rv_43_21, rv_43_22, rv_43_30, if_true, Option.bind_some, nm, s2, i2, j2], rfl, hI⟩
  rw [if_neg hy] at j1
  simp only [if_neg hy] at j2
  by_cases hk : k = 10
  · subst hk
    refine ⟨(-103, σ), (-103, σ), ?_, ?_, rfl, hI⟩
    · simp only [fX9_springs_29, fX9_springs_0, fX9_springs, xv_0, xv_1, xv_3, xv_4, xv_12, xv_20, xv_22, xv_27, xv_29, xv_32, xv_34, xv_35, xv_43, rv_0_0, rv_0_1, rv_0_2, rv_0_3, rv_0_4, rv_0_5, rv_0_6, rv_0_7, rv_1_0, rv_4_0, rv_4_1, rv_4_2, rv_4_3, rv_4_4, rv_4_5, rv_4_6, rv_12_0, rv_12_1, rv_12_2, rv_12_3, rv_12_4, rv_12_5, rv_12_6, rv_35_0, rv_35_1, rv_35_2, rv_35_3, rv_35_4, rv_35_5, rv_35_6, rv_20_0, rv_27_0, rv_32_0, rv_22_0, rv_22_1, rv_22_2, rv_22_3, rv_22_4, rv_29_0, rv_29_1, rv_29_2, rv_34_0, rv_43_0, rv_43_13, rv_43_14, rv_43_15, rv_43_16, rv_43_17, rv_43_18, rv_43_19, rv_43_20, rv_43_21, rv_43_22, rv_43_30, if_true, Option.bind_some, nm, s1, i1, j1, d2]
      rfl
    · simp only [fX10_springs_34, fX10_springs_151, fX10_springs_149, fX10_springs_185, fX10_springs_117b, fX10_springs_117, fX10_springs_61b, fX10_springs_61, fX10_springs_0, fX10_springs, xv_0, xv_1, xv_3, xv_4, xv_12, xv_20, xv_22, xv_27, xv_29, xv_32, xv_34, xv_35, xv_43, rv_0_0, rv_0_1, rv_0_2, rv_0_3, rv_0_4, rv_0_5, rv_0_6, rv_0_7, rv_1_0, rv_4_0, rv_4_1, rv_4_2, rv_4_3, rv_4_4, rv_4_5, rv_4_6, rv_12_0, rv_12_1, rv_12_2, rv_12_3, rv_12_4, rv_12_5, rv_12_6, rv_35_0, rv_35_1, rv_35_2, rv_35_3, rv_35_4, rv_35_5, rv_35_6, rv_20_0, rv_27_0, rv_32_0, rv_22_0, rv_22_1, rv_22_2, rv_22_3, rv_22_4, rv_29_0, rv_29_1, rv_29_2, rv_34_0, rv_43_0, rv_43_13, rv_43_14, rv_43_15, rv_43_16, rv_43_17, rv_43_18, rv_43_19, rv_43_20, rv_43_21, rv_43_22, rv_43_30, if_true, Option.bind_some, nm, s2, i2, j2, d3]
      rfl
  obtain ⟨s, s3, s4, rfl⟩ := in1_12 hx
  obtain ⟨σ1, e1⟩ : ∃ σ1, σ1 = si σ 0 12 (nI (k + 1)) := ⟨_, rfl⟩
  have g1 : ∀ r, r ≠ 0 → σ1.1 r = σ.1 r := fun r hr => by rw [e1, si_row, if_neg hr]
  obtain ⟨σ2, e2⟩ : ∃ σ2, σ2 = si (si (cpS σ1 35 4) 34 1 0) 34 2 (-1) := ⟨_, rfl⟩
  have g2 : ∀ r, r < 34 ∨ 42 < r → σ2.1 r = σ1.1 r := fun r hr => by
    rw [e2, si_row, if_neg (by omega), si_row, if_neg (by omega)]
    exact cpS_row σ1 35 4 r (by omega)
  have hc : ∀ t, 1 ≤ t → t ≤ 7 → ∀ j, j < 7 → σ2.1 (35 + t) j = σ1.1 (4 + t) j := fun t h1 h2 j hj => by
    rw [e2]
    rcases k17 h1 h2 with rfl | rfl | rfl | rfl | rfl | rfl | rfl <;> exact cpy7 hj
  have hW2 : WS σ2 35 n := WS_cp (σ := σ1) (u := 4) (by rw [e2]; rfl) hc (WS_congr (fun i a b => g1 i (by omega)) hW)
  have hL2 : LwC σ2 := by
    unfold LwC
    rw [g2 3 (by omega), g1 3 (by omega)]
    exact ⟨hL.2.1, hL.2.2.1⟩
  obtain ⟨σ3, B', f', k1, k2, k3, k4, k5, k6⟩ := spr_lp hf (by omega) s4 y fu 1 0 (-1) σ2 (by omega) (by omega) (by omega) hW2 hL2 (by rw [e2]; rfl) (by rw [e2]; rfl) (fun _ => rfl) (by omega)
  have run : fX2_run fu 34 4 3 22 (nI s) σ1 = some σ3 := by
    unfold fX2_run fX2_run_0
    rw [if_pos xv_34, if_pos xv_4, if_pos xv_3, if_pos xv_22, rv_34_0, copy_35_4]
    simp only [Option.bind_some, nm]
    rw [← e2]
    exact k1
  obtain ⟨ans, ea⟩ : ∃ ans, ans = if y = 0 then nI B' else if y = 1 then f' else wst (σ3.1 37) n := ⟨_, rfl⟩
  have u1 : fX9_springs fu 0 (nI s) y σ = some (ans, σ3) := by
    simp only [fX9_springs_29, fX9_springs_0, fX9_springs, xv_0, xv_1, xv_3, xv_4, xv_12, xv_20, xv_22, xv_27, xv_29, xv_32, xv_34, xv_35, xv_43, rv_0_0, rv_0_1, rv_0_2, rv_0_3, rv_0_4, rv_0_5, rv_0_6, rv_0_7, rv_1_0, rv_4_0, rv_4_1, rv_4_2, rv_4_3, rv_4_4, rv_4_5, rv_4_6, rv_12_0, rv_12_1, rv_12_2, rv_12_3, rv_12_4, rv_12_5, rv_12_6, rv_35_0, rv_35_1, rv_35_2, rv_35_3, rv_35_4, rv_35_5, rv_35_6, rv_20_0, rv_27_0, rv_32_0, rv_22_0, rv_22_1, rv_22_2, rv_22_3, rv_22_4, rv_29_0, rv_29_1, rv_29_2, rv_34_0, rv_43_0, rv_43_13, rv_43_14, rv_43_15, rv_43_16, rv_43_17, rv_43_18, rv_43_19, rv_43_20, rv_43_21, rv_43_22, rv_43_30, if_true, Option.bind_some, nm, s1, i1, j1, d2]
    rw [if_neg (by decide), if_neg (by decide), l10, if_pos (nI_lt (show k < 10 by omega) (by omega)), nI_1, ← e1, run]
    simp only [Option.bind_some]
    unfold fX2_told fX2_told_0
    rw [if_pos xv_34, k4, k5, rv_34_0, worstWear_eq (by omega) xv_35 hn k3.2.1, ea]
    by_cases y0 : y = 0
    · rw [if_pos y0, if_pos y0]; rfl
    · rw [if_neg y0, if_neg y0]
      by_cases y1 : y = 1
      · rw [if_pos y1, if_pos y1]; rfl
      · rw [if_neg y1, if_neg y1]; rfl
  have g3 : ∀ r, r < 22 ∨ 42 < r → r ≠ 0 → σ3.1 r = σ.1 r := fun r hr h0 => (k2 r hr).trans ((g2 r (by omega)).trans (g1 r h0))
  have z3 : σ3.1 43 12 = nI n := by rw [g3 43 (by omega) (by omega)]; exact hM.1
  have s5 := lacks_eq fu hn z3
  rw [if_neg h] at s5
  obtain ⟨τ0, e3⟩ : ∃ τ0, τ0 = si σ3 43 28 (nI (k + 1)) := ⟨_, rfl⟩
  have gs : ∀ j, j ≠ 28 → τ0.1 43 j = σ.1 43 j := fun j hj => by
    rw [e3]
    show upd (σ3.1 43) 28 _ j = _
    rw [upd_ne _ _ hj, g3 43 (by omega) (by omega)]
  have gr : ∀ r, r ≠ 43 → r ≠ 0 → (r < 22 ∨ 42 < r) → τ0.1 r = σ.1 r := fun r x p q => by
    rw [e3, si_row, if_neg x]; exact g3 r q p
  obtain ⟨τ1, t1, t2, t3⟩ := cp61 fu (nI s) y (σ := τ0) fu 0 τ0 (by omega) (by omega) (fun _ _ => rfl) (fun j hj => by omega)
  have hR : Rs σ2 τ1 n := by
    refine ⟨?_, by rw [t2 43 (by omega), gs 12 (by omega)]; exact hM.1, fun j hj => ?_, fun p hp => ?_⟩
    · unfold LwQ
      rw [t2 43 (by omega), gs 2 (by omega), gs 3 (by omega), gs 4 (by omega), gs 5 (by omega), g2 3 (by omega), g1 3 (by omega)]
      exact ⟨hL.2.2.2.2.1, hL.2.2.2.2.2.1, hL.2.2.2.2.2.2.1, hL.2.2.2.2.2.2.2⟩
    · obtain ⟨m1, m2, m3, m4, m5⟩ := hM.2.1 j hj
      obtain ⟨v1, v2, v3⟩ := t3 j (by omega)
      have f1 := hc 1 (by omega) (by omega) j (by omega)
      have f2 := hc 2 (by omega) (by omega) j (by omega)
      have f3 := hc 3 (by omega) (by omega) j (by omega)
      have f5 := hc 5 (by omega) (by omega) j (by omega)
      rw [v1, v2, v3, t2 45 (by omega), gr 45 (by omega) (by omega) (by omega), gr 46 (by omega) (by omega) (by omega), gr 47 (by omega) (by omega) (by omega), gr 48 (by omega) (by omega) (by omega), m1, m2, m3, m4]
      refine ⟨?_, ?_, ?_, ?_⟩
      · rw [show (36 : Nat) = 35 + 1 from rfl, f1, show (4 + 1 : Nat) = 5 from rfl, g1 5 (by omega)]
      · rw [show (37 : Nat) = 35 + 2 from rfl, f2, show (4 + 2 : Nat) = 6 from rfl, g1 6 (by omega)]
      · rw [show (38 : Nat) = 35 + 3 from rfl, f3, show (4 + 3 : Nat) = 7 from rfl, g1 7 (by omega)]
      · rw [show (40 : Nat) = 35 + 5 from rfl, f5, show (4 + 5 : Nat) = 9 from rfl, g1 9 (by omega)]
    · have f7 := hc 7 (by omega) (by omega) p hp
      rw [t2 50 (by omega), gr 50 (by omega) (by omega) (by omega), hM.2.2 p hp, show (42 : Nat) = 35 + 7 from rfl, f7, show (4 + 7 : Nat) = 11 from rfl, g1 11 (by omega)]
  obtain ⟨τ', v1, v2, v3⟩ := k6 τ1 hR
  have wo := worstOf_eq (fu := fu) (by omega) (show xk 52 = 16 from rfl) hn v2.2.1
  rw [wst_congr n (fun j hj => (v2.2.2.1 j hj).2.1)] at wo
  have fin : fX10_springs_117 fu 43 (nI s) y fu 0 (-1) 1 τ1 = some (ans, τ') := by
    refine Eq.trans v1 ?_
    rw [wo, ea]
    by_cases y0 : y = 0
    · rw [if_pos y0, if_pos y0]
    · rw [if_neg y0, if_neg y0]
      by_cases y1 : y = 1
      · rw [if_pos y1, if_pos y1]
      · rw [if_neg y1, if_neg y1]; rfl
  have u2 : fX10_springs fu 43 (nI s) y σ3 = some (ans, τ') := by
    unfold fX10_springs fX10_springs_0
    rw [if_pos xv_43, s5]
    simp only [Option.bind_some, nm]
    rw [if_pos trivial, i2]
    simp only [Option.bind_some]
    rw [if_neg (by decide), j2]
    simp only [Option.bind_some]
    rw [if_neg (by decide), show σ3.1 43 28 = nI k by rw [g3 43 (by omega) (by omega)]; exact d3, l10, if_neg (fun q => hk ((nI_eq (by omega) (by omega)).mp q)), nI_1, ← e3]
    exact t1.trans fin
  refine ⟨_, _, u1, u2, rfl, ?_⟩
  refine Inv_Fr ⟨fun r r1 r2 r3 => ?_, fun j a1 a2 a3 a4 => ?_⟩ (Inv_c12 (k := k) hI (by omega))
  · rw [v3.1 r (by omega) r2, t2 r (by omega), e3, si_row, if_neg r2, si_row, if_neg r2, k2 r (by omega), g2 r (by omega), e1]
  · rw [v3.2 j a2 a3, t2 43 (by omega), e3]
    show upd (σ3.1 43) 28 _ j = upd (σ.1 43) 28 _ j
    rw [g3 43 (by omega) (by omega)]
