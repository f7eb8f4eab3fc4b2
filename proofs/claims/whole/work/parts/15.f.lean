/-! the class's study of a street -/
def Cv (τ : St) (o n : Nat) (K U D V P : Nat → Nat) (tn nb tb : Bool) : Prop := (n ≤ 7) ∧ (2 ≤ n) ∧ (xk o = 6) ∧ (τ.1 o 7 = nI n) ∧ (∀ j, j < n → τ.1 (o + 1) j = nI (K j) ∧ K j ≤ 4) ∧ (∀ j, j < n → τ.1 (o + 2) j = nI (U j) ∧ U j ≤ 999) ∧ (∀ j, j < n → τ.1 (o + 3) j = nI (D j) ∧ D j ≤ 999) ∧ (∀ j, j < n → τ.1 (o + 5) j = nI (P j) ∧ P j < 7) ∧ (∀ p, p < 7 → τ.1 (o + 7) p = nI (V p) ∧ V p ≤ 9) ∧ (¬ τ.1 3 1 = 0 ↔ tn = true) ∧ (¬ τ.1 3 0 = 0 ↔ nb = true) ∧ (¬ τ.1 3 2 = 0 ↔ tb = true) ∧ (τ.1 3 1 = 0 ∨ τ.1 3 1 = 1) ∧ (τ.1 3 2 = 0 ∨ τ.1 3 2 = 1)
theorem Cv.hn {τ : St} {o n : Nat} {K U D V P : Nat → Nat} {tn nb tb : Bool} (h : Cv τ o n K U D V P tn nb tb) : n ≤ 7 := h.1
theorem Cv.hn2 {τ : St} {o n : Nat} {K U D V P : Nat → Nat} {tn nb tb : Bool} (h : Cv τ o n K U D V P tn nb tb) : 2 ≤ n := h.2.1
theorem Cv.ho {τ : St} {o n : Nat} {K U D V P : Nat → Nat} {tn nb tb : Bool} (h : Cv τ o n K U D V P tn nb tb) : xk o = 6 := h.2.2.1
theorem Cv.hz {τ : St} {o n : Nat} {K U D V P : Nat → Nat} {tn nb tb : Bool} (h : Cv τ o n K U D V P tn nb tb) : τ.1 o 7 = nI n := h.2.2.2.1
theorem Cv.hk {τ : St} {o n : Nat} {K U D V P : Nat → Nat} {tn nb tb : Bool} (h : Cv τ o n K U D V P tn nb tb) : ∀ j, j < n → τ.1 (o + 1) j = nI (K j) ∧ K j ≤ 4 := h.2.2.2.2.1
theorem Cv.hU {τ : St} {o n : Nat} {K U D V P : Nat → Nat} {tn nb tb : Bool} (h : Cv τ o n K U D V P tn nb tb) : ∀ j, j < n → τ.1 (o + 2) j = nI (U j) ∧ U j ≤ 999 := h.2.2.2.2.2.1
theorem Cv.hD {τ : St} {o n : Nat} {K U D V P : Nat → Nat} {tn nb tb : Bool} (h : Cv τ o n K U D V P tn nb tb) : ∀ j, j < n → τ.1 (o + 3) j = nI (D j) ∧ D j ≤ 999 := h.2.2.2.2.2.2.1
theorem Cv.hP {τ : St} {o n : Nat} {K U D V P : Nat → Nat} {tn nb tb : Bool} (h : Cv τ o n K U D V P tn nb tb) : ∀ j, j < n → τ.1 (o + 5) j = nI (P j) ∧ P j < 7 := h.2.2.2.2.2.2.2.1
theorem Cv.hV {τ : St} {o n : Nat} {K U D V P : Nat → Nat} {tn nb tb : Bool} (h : Cv τ o n K U D V P tn nb tb) : ∀ p, p < 7 → τ.1 (o + 7) p = nI (V p) ∧ V p ≤ 9 := h.2.2.2.2.2.2.2.2.1
theorem Cv.ht {τ : St} {o n : Nat} {K U D V P : Nat → Nat} {tn nb tb : Bool} (h : Cv τ o n K U D V P tn nb tb) : ¬ τ.1 3 1 = 0 ↔ tn = true := h.2.2.2.2.2.2.2.2.2.1
theorem Cv.hnb {τ : St} {o n : Nat} {K U D V P : Nat → Nat} {tn nb tb : Bool} (h : Cv τ o n K U D V P tn nb tb) : ¬ τ.1 3 0 = 0 ↔ nb = true := h.2.2.2.2.2.2.2.2.2.2.1
theorem Cv.htb {τ : St} {o n : Nat} {K U D V P : Nat → Nat} {tn nb tb : Bool} (h : Cv τ o n K U D V P tn nb tb) : ¬ τ.1 3 2 = 0 ↔ tb = true := h.2.2.2.2.2.2.2.2.2.2.2.1
theorem Cv.h31 {τ : St} {o n : Nat} {K U D V P : Nat → Nat} {tn nb tb : Bool} (h : Cv τ o n K U D V P tn nb tb) : τ.1 3 1 = 0 ∨ τ.1 3 1 = 1 := h.2.2.2.2.2.2.2.2.2.2.2.2.1
theorem Cv.h32 {τ : St} {o n : Nat} {K U D V P : Nat → Nat} {tn nb tb : Bool} (h : Cv τ o n K U D V P tn nb tb) : τ.1 3 2 = 0 ∨ τ.1 3 2 = 1 := h.2.2.2.2.2.2.2.2.2.2.2.2.2
theorem Cv.congr {τ τ' : St} {o n : Nat} {K U D V P : Nat → Nat} {tn nb tb : Bool} (h : Cv τ o n K U D V P tn nb tb) (ho : ∀ r, o ≤ r → r ≤ o + 7 → τ'.1 r = τ.1 r) (h3 : τ'.1 3 = τ.1 3) : Cv τ' o n K U D V P tn nb tb :=
  ⟨h.hn, h.hn2, h.ho, by rw [ho o (by omega) (by omega)]; exact h.hz, by rw [ho (o + 1) (by omega) (by omega)]; exact h.hk, by rw [ho (o + 2) (by omega) (by omega)]; exact h.hU, by rw [ho (o + 3) (by omega) (by omega)]; exact h.hD, by rw [ho (o + 5) (by omega) (by omega)]; exact h.hP, by rw [ho (o + 7) (by omega) (by omega)]; exact h.hV, by rw [h3]; exact h.ht, by rw [h3]; exact h.hnb, by rw [h3]; exact h.htb, by rw [h3]; exact h.h31, by rw [h3]; exact h.h32⟩
theorem Cv.vw {τ : St} {o n : Nat} {K U D V P : Nat → Nat} {tn nb tb : Bool} (h : Cv τ o n K U D V P tn nb tb) : Vw τ o n K P := ⟨h.hn, fun j hj => ⟨(h.hk j hj).1, (h.hk j hj).2, (h.hP j hj).1, (h.hP j hj).2⟩⟩
/-- the wear if laid -/
theorem wearIf_eq (fu : Nat) {τ : St} {o n : Nat} {K U D V P : Nat → Nat} {tn nb tb : Bool} (h : Cv τ o n K U D V P tn nb tb) {j p : Nat} (hj : j < n) (hp : p < n) : fX8_wearIfLaid fu o (nI j) (nI p) (τ.1 3 1) τ = some (nI (wIf tn K U D V j p), τ) := by
  have hn := h.hn
  obtain ⟨k1, k2⟩ := h.hk j hj
  obtain ⟨u1, u2⟩ := h.hU j hj
  obtain ⟨d1, d2⟩ := h.hD j hj
  obtain ⟨v1, v2⟩ := h.hV p (by omega)
  have q0 : ∀ a, ald τ a 7 (nI j) = some (τ.1 a j) := fun a => ald_nI (by omega) (by omega)
  unfold fX8_wearIfLaid fX8_wearIfLaid_0 fX8_wearIfLaid_23 fX8_wearIfLaid_29
  rw [if_pos h.ho, rs0 h.ho, rs1 h.ho, rs2 h.ho]
  simp only [q0, Option.bind_some, wornHead_eq fu h.ho _ (show j < 7 by omega) (show p < 7 by omega), k1, u1, d1, v1]
  by_cases t : τ.1 3 1 = 0
  · have t' : ¬ tn = true := fun q => h.ht.mpr q t
    rw [if_pos t, wornI_nI k2 u2 v2]
    unfold wIf
    rw [if_neg (fun q => t' q.1)]
  · have t' := h.ht.mp t
    rw [if_neg t]
    by_cases e4 : K j = 4
    · rw [if_pos ((k4 k2).mpr e4), wornI_nI k2 u2 v2]
      unfold wIf
      rw [if_neg (fun q => q.2 e4)]
    · rw [if_neg (fun q => e4 ((k4 k2).mp q)), wornI_nI k2 d2 v2]
      unfold wIf
      rw [if_pos ⟨t', e4⟩]
theorem turns_eq (fu : Nat) {τ : St} (h : τ.1 3 1 = 0 ∨ τ.1 3 1 = 1) : fX4_turns fu 3 τ = some (τ.1 3 1, τ) := by
  unfold fX4_turns fX4_turns_0
  rw [if_pos xv_3, if_pos h]
theorem wants_eq (fu : Nat) {τ : St} (h : τ.1 3 2 = 0 ∨ τ.1 3 2 = 1) : fX4_wantsTwinsTogether fu 3 τ = some (τ.1 3 2, τ) := by
  unfold fX4_wantsTwinsTogether fX4_wantsTwinsTogether_0
  rw [if_pos xv_3, if_pos h]
theorem st_far {o : Nat} (h : xk o = 6) : ∀ r, o ≤ r → r ≤ o + 7 → (r < 20 ∨ 34 < r) ∧ r ≠ 3 := by
  rcases st_id h with rfl | rfl | rfl <;> omega
/-- rows of the layings' study -/
def Sf (σ τ : St) : Prop := ∀ r, r < 22 ∨ 26 < r → τ.1 r = σ.1 r
theorem Sf.cv {σ τ : St} {o n : Nat} {K U D V P : Nat → Nat} {tn nb tb : Bool} (hS : Sf σ τ) (h : Cv σ o n K U D V P tn nb tb) : Cv τ o n K U D V P tn nb tb := h.congr (fun r a b => hS r (by have := st_far h.ho r a b; omega)) (hS 3 (by omega))
def Wg (w : Nat → Nat → Nat) (n j p : Nat) (τ : St) : Prop := ∀ a b, a < n → b < n → a < j ∨ (a = j ∧ b < p) → τ.1 25 (a * 7 + b) = nI (w a b)
theorem noteWear_eq {fu : Nat} (hf : 100 ≤ fu) {σ : St} {o n : Nat} {K U D V P : Nat → Nat} {tn nb tb : Bool} (h : Cv σ o n K U D V P tn nb tb) (h5 : σ.1 22 5 = nI n) : ∃ τ', fX5_noteWear fu 22 o 3 σ = some τ' ∧ (∀ r, r ≠ 25 → τ'.1 r = σ.1 r) ∧ Wg (wIf tn K U D V) n n 0 τ' := by
  have hn := h.hn
  have lp : ∀ (m j : Nat) (τ : St), j ≤ n → n - j < m → (∀ r, r ≠ 25 → τ.1 r = σ.1 r) → Wg (wIf tn K U D V) n j 0 τ → ∃ τ', fX5_noteWear_2 fu 22 o 3 m (nI j) τ = some τ' ∧ (∀ r, r ≠ 25 → τ'.1 r = σ.1 r) ∧ Wg (wIf tn K U D V) n n 0 τ' := by
    intro m
    induction m with
    | zero => intro j _ _ h; omega
    | succ m ih =>
      intro j τ hj hm h1 h2
      show ∃ τ', fX5_noteWear_2b fu (fX5_noteWear_2 fu 22 o 3 m) 22 o 3 (nI j) τ = _ ∧ _ ∧ _
      unfold fX5_noteWear_2b
      rw [show τ.1 22 5 = nI n by rw [h1 22 (by omega)]; exact h5]
      by_cases c : j < n
      · rw [if_neg (nI_ge c (by omega))]
        have inner : ∀ (m2 p : Nat) (τ : St), p ≤ n → n - p < m2 → (∀ r, r ≠ 25 → τ.1 r = σ.1 r) → Wg (wIf tn K U D V) n j p τ → ∃ τ', fX5_noteWear_13 fu (fX5_noteWear_2 fu 22 o 3 m) 22 o 3 m2 (nI j) (nI p) τ = some τ' ∧ (∀ r, r ≠ 25 → τ'.1 r = σ.1 r) ∧ Wg (wIf tn K U D V) n n 0 τ' := by
          intro m2
          induction m2 with
          | zero => intro p _ _ h; omega
          | succ m2 ih2 =>
            intro p τ hp hm2 g1 g2
            show ∃ τ', fX5_noteWear_13b fu (fX5_noteWear_2 fu 22 o 3 m) (fX5_noteWear_13 fu (fX5_noteWear_2 fu 22 o 3 m) 22 o 3 m2) 22 o 3 (nI j) (nI p) τ = _ ∧ _ ∧ _
            unfold fX5_noteWear_13b
            rw [show τ.1 22 5 = nI n by rw [g1 22 (by omega)]; exact h5]
            have hC : Cv τ o n K U D V P tn nb tb := h.congr (fun r a b => g1 r (by have := st_far h.ho r a b; omega)) (g1 3 (by omega))
            by_cases d : p < n
            · rw [if_neg (nI_ge d (by omega)), turns_eq fu hC.h31]
              simp only [Option.bind_some, nm]
              rw [wearIf_eq fu hC c d]
              simp only [Option.bind_some]
              rw [rv_22_2, show (7 : Int32) = nI 7 from rfl, pk_mul, nI_add, ast_nI (by omega) (by omega)]
              simp only [Option.bind_some]
              rw [nI_1]
              refine ih2 (p + 1) _ (by omega) (by omega) (fun r hr => by rw [si_row, if_neg hr]; exact g1 r hr) (fun a b ha hb hab => ?_)
              show upd (τ.1 25) (j * 7 + p) (nI (wIf tn K U D V j p)) (a * 7 + b) = _
              rw [upd_app]
              by_cases e : a * 7 + b = j * 7 + p
              · have : a = j ∧ b = p := by omega
                rw [if_pos e, this.1, this.2]
              · rw [if_neg e]
                exact g2 a b ha hb (by
                  rcases hab with q | ⟨q1, q2⟩
                  · exact Or.inl q
                  · refine Or.inr ⟨q1, ?_⟩
                    have : b ≠ p := fun z => e (by rw [q1, z])
                    omega)
            · have : p = n := by omega
              subst this
              rw [if_pos (nI_le (Nat.le_refl _) (by omega))]
              simp only [nm]
              rw [nI_1]
              exact ih (j + 1) τ (by omega) (by omega) g1 (fun a b ha hb hab => g2 a b ha hb (by omega))
        exact inner fu 0 τ (by omega) (by omega) h1 h2
      · have : j = n := by omega
        subst this
        rw [if_pos (nI_le (Nat.le_refl _) (by omega))]
        exact ⟨τ, rfl, h1, h2⟩
  unfold fX5_noteWear fX5_noteWear_0
  rw [if_pos xv_22, if_pos h.ho, if_pos xv_3]
  exact lp fu 0 σ (by omega) (by omega) (fun _ _ => rfl) (fun a b _ _ hab => by omega)
/-- masks -/
def mkM (f : Nat → Bool) : Nat → Nat
  | 0 => 0
  | i + 1 => if f i = true then mkM f i ||| 2 ^ i else mkM f i
theorem mkM_tb (f : Nat → Bool) (x : Nat) : ∀ n, (mkM f n).testBit x = (decide (x < n) && f x)
  | 0 => by
    show (0 : Nat).testBit x = _
    rw [Nat.zero_testBit, decide_eq_false (Nat.not_lt_zero _), Bool.false_and]
  | n + 1 => by
    show (if f n = true then mkM f n ||| 2 ^ n else mkM f n).testBit x = _
    by_cases c : f n = true
    · rw [if_pos c, tb_or, mkM_tb f x n]
      by_cases d : n = x
      · subst d
        rw [decide_eq_true rfl, Bool.or_true, decide_eq_true (Nat.lt_succ_self n), c]; rfl
      · rw [decide_eq_false d, Bool.or_false]
        congr 1
        exact decide_eq_decide.mpr ⟨fun h => by omega, fun h => by omega⟩
    · rw [if_neg c, mkM_tb f x n]
      by_cases d : x = n
      · subst d
        have : f x = false := by cases e : f x; rfl; exact absurd e c
        rw [this, Bool.and_false, Bool.and_false]
      · congr 1
        exact decide_eq_decide.mpr ⟨fun h => by omega, fun h => by omega⟩
theorem mkM_lt (f : Nat → Bool) : ∀ n, n ≤ 7 → mkM f n < 128
  | 0, _ => by show (0 : Nat) < 128; omega
  | n + 1, h => by
    show (if f n = true then mkM f n ||| 2 ^ n else mkM f n) < 128
    have := mkM_lt f n (by omega)
    split
    · exact Nat.or_lt_two_pow (n := 7) this (Nat.pow_lt_pow_right (by decide) (by omega))
    · exact this
theorem mkM_all {f : Nat → Bool} (h : ∀ x, f x = true) : ∀ n, n ≤ 7 → mkM f n = 2 ^ n - 1 := by
  have key : ∀ n, mkM f n = mkM (fun _ => true) n := by
    intro n
    induction n with
    | zero => rfl
    | succ n ih =>
      show (if f n = true then mkM f n ||| 2 ^ n else mkM f n) = (if true = true then mkM (fun _ => true) n ||| 2 ^ n else _)
      rw [if_pos (h n), if_pos rfl, ih]
  intro n hn
  rw [key]
  exact (by decide : ∀ n, n < 8 → mkM (fun _ => true) n = 2 ^ n - 1) n (by omega)
theorem bt1' {d : Nat} (h : d < 8) : (1 : Int32) <<< (nI d &&& 31) = nI (2 ^ d) := bt1 d h
def Ng (nb tb : Bool) (P K : Nat → Nat) (n j : Nat) (τ : St) : Prop := τ.1 22 6 = nI (mkM (Nd tb K) j) ∧ ∀ a, a < j → τ.1 26 a = nI (mkM (Ad nb P a) n)
theorem noteNb_eq {fu : Nat} (hf : 100 ≤ fu) {σ : St} {o n : Nat} {K U D V P : Nat → Nat} {tn nb tb : Bool} (h : Cv σ o n K U D V P tn nb tb) (h5 : σ.1 22 5 = nI n) : ∃ τ', fX5_noteNeighbours fu 22 o 3 σ = some τ' ∧ (∀ r, r ≠ 22 → r ≠ 26 → τ'.1 r = σ.1 r) ∧ τ'.1 22 5 = nI n ∧ Ng nb tb P K n n τ' ∧ τ'.1 26 7 = nI (mkM (Ad nb P 7) n) := by
  have hn := h.hn
  have lp : ∀ (m j : Nat) (τ : St), j ≤ n → n - j < m → (∀ r, r ≠ 22 → r ≠ 26 → τ.1 r = σ.1 r) → τ.1 22 5 = nI n → Ng nb tb P K n j τ → ∃ τ', fX5_noteNeighbours_7 fu 22 o 3 m (nI j) τ = some τ' ∧ (∀ r, r ≠ 22 → r ≠ 26 → τ'.1 r = σ.1 r) ∧ τ'.1 22 5 = nI n ∧ Ng nb tb P K n n τ' ∧ τ'.1 26 7 = nI (mkM (Ad nb P 7) n) := by
    intro m
    induction m with
    | zero => intro j _ _ h; omega
    | succ m ih =>
      intro j τ hj hm h1 h5 h2
      have hC : Cv τ o n K U D V P tn nb tb := h.congr (fun r a b => h1 r (by have := st_far h.ho r a b; omega) (by have := st_far h.ho r a b; omega)) (h1 3 (by omega) (by omega))
      show ∃ τ', fX5_noteNeighbours_7b fu (fX5_noteNeighbours_7 fu 22 o 3 m) 22 o 3 (nI j) τ = _ ∧ _ ∧ _ ∧ _ ∧ _
      unfold fX5_noteNeighbours_7b
      rw [h5]
      by_cases c : j < n
      · rw [if_neg (nI_ge c (by omega)), wants_eq fu hC.h32]
        simp only [Option.bind_some, nm]
        rw [isTwin_eq fu h.ho (show j < 7 by omega), (hC.hk j c).1]
        simp only [Option.bind_some]
        -- behind the needy bit
        have body : ∀ τ1 : St, (∀ r, r ≠ 22 → τ1.1 r = τ.1 r) → τ1.1 22 5 = nI n → τ1.1 22 6 = nI (mkM (Nd tb K) (j + 1)) → ∃ τ', fX5_noteNeighbours_42 fu (fX5_noteNeighbours_7 fu 22 o 3 m) 22 o 3 (nI j) τ1 = some τ' ∧ (∀ r, r ≠ 22 → r ≠ 26 → τ'.1 r = σ.1 r) ∧ τ'.1 22 5 = nI n ∧ Ng nb tb P K n n τ' ∧ τ'.1 26 7 = nI (mkM (Ad nb P 7) n) := by
          intro τ1 a1 a2 a3
          unfold fX5_noteNeighbours_42
          rw [rv_22_3, ast_nI (by omega) (by omega)]
          simp only [Option.bind_some]
          have inner : ∀ (m2 x : Nat) (τ2 : St), x ≤ n → n - x < m2 → (∀ r, r ≠ 26 → τ2.1 r = τ1.1 r) → (∀ a, a < j → τ2.1 26 a = nI (mkM (Ad nb P a) n)) → τ2.1 26 j = nI (mkM (Ad nb P j) x) → ∃ τ', fX5_noteNeighbours_52 fu (fX5_noteNeighbours_7 fu 22 o 3 m) 22 o 3 m2 (nI j) (nI x) τ2 = some τ' ∧ (∀ r, r ≠ 22 → r ≠ 26 → τ'.1 r = σ.1 r) ∧ τ'.1 22 5 = nI n ∧ Ng nb tb P K n n τ' ∧ τ'.1 26 7 = nI (mkM (Ad nb P 7) n) := by
            intro m2
            induction m2 with
            | zero => intro x _ _ h; omega
            | succ m2 ih2 =>
              intro x τ2 hx hm2 b1 b2 b3
              have g2 : ∀ r, r ≠ 22 → r ≠ 26 → τ2.1 r = σ.1 r := fun r q1 q2 => (b1 r q2).trans ((a1 r q1).trans (h1 r q1 q2))
              have hC2 : Cv τ2 o n K U D V P tn nb tb := h.congr (fun r a b => g2 r (by have := st_far h.ho r a b; omega) (by have := st_far h.ho r a b; omega)) (g2 3 (by omega) (by omega))
              show ∃ τ', fX5_noteNeighbours_52b fu (fX5_noteNeighbours_7 fu 22 o 3 m) (fX5_noteNeighbours_52 fu (fX5_noteNeighbours_7 fu 22 o 3 m) 22 o 3 m2) 22 o 3 (nI j) (nI x) τ2 = _ ∧ _ ∧ _ ∧ _ ∧ _
              unfold fX5_noteNeighbours_52b fX5_noteNeighbours_85
              rw [show τ2.1 22 5 = nI n by rw [b1 22 (by omega)]; exact a2]
              simp only [nm]
              by_cases d : x < n
              · rw [if_neg (nI_ge d (by omega)), letsLie_eq fu h.ho hC2.vw c d]
                simp only [Option.bind_some]
                by_cases e : ¬ τ2.1 3 0 = 0 ∧ adjN (P j) (P x)
                · rw [if_pos e, if_pos rfl, nI_1]
                  refine ih2 (x + 1) τ2 (by omega) (by omega) b1 b2 ?_
                  rw [b3]
                  have : ¬ Ad nb P j x = true := by
                    unfold Ad
                    rw [decide_eq_false (show ¬ j = 7 by omega), Bool.false_or, hC2.hnb.mp e.1, decide_eq_true e.2]
                    decide
                  show _ = nI (if Ad nb P j x = true then _ else _)
                  rw [if_neg this]
                · rw [if_neg e, if_neg (by decide), rv_22_3, ald_nI (by omega) (by omega), b3]
                  simp only [Option.bind_some]
                  rw [bt1 x (by omega), fa_or, ast_nI (by omega) (by omega)]
                  simp only [Option.bind_some]
                  rw [nI_1]
                  refine ih2 (x + 1) _ (by omega) (by omega) (fun r hr => by rw [si_row, if_neg hr]; exact b1 r hr) (fun a ha => ?_) ?_
                  · show upd (τ2.1 26) j _ a = _
                    rw [upd_ne _ _ (by omega)]; exact b2 a ha
                  · show upd (τ2.1 26) j _ j = _
                    rw [upd_same]
                    have : Ad nb P j x = true := by
                      unfold Ad
                      rw [decide_eq_false (show ¬ j = 7 by omega), Bool.false_or]
                      by_cases q : nb = true
                      · rw [q, decide_eq_false (fun z => e ⟨hC2.hnb.mpr q, z⟩)]; rfl
                      · rw [show nb = false by cases z : nb; rfl; exact absurd z q]; rfl
                    show _ = nI (if Ad nb P j x = true then _ else _)
                    rw [if_pos this]
              · have : x = n := by omega
                subst this
                rw [if_pos (nI_le (Nat.le_refl _) (by omega)), nI_1]
                refine ih (j + 1) τ2 (by omega) (by omega) g2 (by rw [b1 22 (by omega)]; exact a2) ⟨by rw [b1 22 (by omega)]; exact a3, fun a ha => ?_⟩
                by_cases q : a = j
                · rw [q]; exact b3
                · exact b2 a (by omega)
          refine inner fu 0 _ (by omega) (by omega) (fun r hr => by rw [si_row, if_neg hr]) (fun a ha => ?_) (by
            show upd (τ1.1 26) j 0 j = _
            rw [upd_same]; rfl)
          show upd (τ1.1 26) j 0 a = _
          rw [upd_ne _ _ (by omega), a1 26 (by omega)]
          exact h2.2 a ha
        by_cases w : τ.1 3 2 = 0
        · rw [if_pos w]
          refine body τ (fun _ _ => rfl) h5 ?_
          rw [h2.1]
          have : ¬ Nd tb K j = true := fun q => by
            unfold Nd at q
            rw [Bool.and_eq_true, Bool.and_eq_true] at q
            exact hC.htb.mpr q.2.1 w
          show _ = nI (if Nd tb K j = true then _ else _)
          rw [if_neg this]
        · rw [if_neg w]
          by_cases t3 : K j = 3
          · rw [if_pos ((k3 (hC.hk j c).2).mpr t3), if_neg (by decide), h2.1, bt1 j (by omega), fa_or]
            refine body _ (fun r hr => by rw [si_row, if_neg hr]) h5 ?_
            show nI _ = nI (if Nd tb K j = true then _ else _)
            have : Nd tb K j = true := by
              unfold Nd
              rw [decide_eq_true (show j ≠ 7 by omega), hC.htb.mp w, decide_eq_true t3]; rfl
            rw [if_pos this]
          · rw [if_neg (fun q => t3 ((k3 (hC.hk j c).2).mp q)), if_pos rfl]
            refine body τ (fun _ _ => rfl) h5 ?_
            rw [h2.1]
            have : ¬ Nd tb K j = true := fun q => by
              unfold Nd at q
              rw [Bool.and_eq_true, Bool.and_eq_true] at q
              exact t3 (of_decide_eq_true q.2.2)
            show _ = nI (if Nd tb K j = true then _ else _)
            rw [if_neg this]
      · have : j = n := by omega
        subst this
        have p1 : 1 ≤ 2 ^ j := Nat.one_le_two_pow
        rw [if_pos (nI_le (Nat.le_refl _) (by omega)), bt1 j (by omega), nI_s1 p1, rv_22_3, show (7 : Int32) = nI 7 from rfl, ast_nI (by omega) (by omega)]
        refine ⟨_, rfl, fun r q1 q2 => by rw [si_row, if_neg q2]; exact h1 r q1 q2, h5, ⟨h2.1, fun a ha => ?_⟩, ?_⟩
        · show upd (τ.1 26) 7 _ a = _
          rw [upd_ne _ _ (by omega)]; exact h2.2 a ha
        · rw [mkM_all (f := Ad nb P 7) (fun x => rfl) j hn]
          rfl
  unfold fX5_noteNeighbours fX5_noteNeighbours_0
  rw [if_pos xv_22, if_pos h.ho, if_pos xv_3]
  simp only [nm]
  exact lp fu 0 _ (by omega) (by omega) (fun r q1 q2 => by rw [si_row, if_neg q1]) h5 ⟨rfl, fun a ha => by omega⟩
