/-! the law as steps -/
def Ad (nb : Bool) (P : Nat → Nat) (e x : Nat) : Bool := decide (e = 7) || !(nb && decide (adjN (P e) (P x)))
def Nd (tb : Bool) (K : Nat → Nat) (x : Nat) : Bool := decide (x ≠ 7) && (tb && decide (K x = 3))
def stL (nb tb : Bool) (P K : Nat → Nat) (s : Nat × Bool) (_p x : Nat) : Option (Nat × Bool) := if (Ad nb P s.1 x && (!s.2 || Nd tb K x)) = true then some (x, Nd tb K x && !Nd tb K s.1) else none
def fnL (s : Nat × Bool) : Bool := !s.2
def pv (e : Nat) (l : List Nat) : Nat → Nat
  | 0 => e
  | p + 1 => gd l p
def LwS (A : Nat → Nat → Bool) (N : Nat → Bool) (e : Nat) (al : Bool) (l : List Nat) : Prop := (∀ p, p < l.length → A (pv e l p) (gd l p) = true) ∧ (al = true → 0 < l.length ∧ N (gd l 0) = true) ∧ ∀ p, p < l.length → N (gd l p) = true → N (pv e l p) = true ∨ (p + 1 < l.length ∧ N (gd l (p + 1)) = true)
theorem pv_c (e x : Nat) (l : List Nat) (p : Nat) : pv e (x :: l) (p + 1) = pv x l p := by
  cases p with
  | zero => rfl
  | succ p => rfl
theorem LwS_cons (A : Nat → Nat → Bool) (N : Nat → Bool) (e : Nat) (al : Bool) (x : Nat) (l : List Nat) : LwS A N e al (x :: l) ↔ A e x = true ∧ (al = true → N x = true) ∧ LwS A N x (N x && !N e) l := by
  constructor
  · intro ⟨h1, h2, h3⟩
    refine ⟨h1 0 (by rw [List.length_cons]; omega), fun h => (h2 h).2, fun p hp => ?_, fun h => ?_, fun p hp hN => ?_⟩
    · have := h1 (p + 1) (by rw [List.length_cons]; omega)
      rw [pv_c] at this
      exact this
    · rw [Bool.and_eq_true] at h
      rcases h3 0 (by rw [List.length_cons]; omega) h.1 with q | q
      · change N e = true at q
        rw [q] at h
        exact Bool.noConfusion h.2
      · rw [List.length_cons] at q
        exact ⟨by omega, q.2⟩
    · have := h3 (p + 1) (by rw [List.length_cons]; omega) hN
      rw [pv_c, List.length_cons] at this
      rcases this with q | q
      · exact Or.inl q
      · exact Or.inr ⟨by omega, q.2⟩
  · intro ⟨h1, h2, h3, h4, h5⟩
    refine ⟨fun p hp => ?_, fun h => ⟨by rw [List.length_cons]; omega, h2 h⟩, fun p hp hN => ?_⟩
    · cases p with
      | zero => exact h1
      | succ p =>
        rw [pv_c]
        exact h3 p (by rw [List.length_cons] at hp; omega)
    · cases p with
      | zero =>
        change N x = true at hN
        by_cases c : N e = true
        · exact Or.inl c
        · have := h4 (by rw [Bool.and_eq_true]; exact ⟨hN, by cases q : N e; rfl; exact absurd q c⟩)
          exact Or.inr ⟨by rw [List.length_cons]; omega, this.2⟩
      | succ p =>
        rw [pv_c]
        rcases h5 p (by rw [List.length_cons] at hp; omega) hN with q | q
        · exact Or.inl q
        · exact Or.inr ⟨by rw [List.length_cons]; omega, q.2⟩
theorem acc_LwS (nb tb : Bool) (P K : Nat → Nat) : ∀ (l : List Nat) (e : Nat) (al : Bool) (p : Nat), (acc (stL nb tb P K) fnL (e, al) p l = true ↔ LwS (Ad nb P) (Nd tb K) e al l)
  | [], e, al, p => by
    show (!al) = true ↔ _
    cases al
    · exact ⟨fun _ => ⟨fun p hp => absurd hp (Nat.not_lt_zero _), fun h => Bool.noConfusion h, fun p hp => absurd hp (Nat.not_lt_zero _)⟩, fun _ => rfl⟩
    · exact ⟨fun h => Bool.noConfusion h, fun h => absurd (h.2.1 rfl).1 (Nat.not_lt_zero _)⟩
  | x :: l, e, al, p => by
    rw [LwS_cons, acc]
    unfold stL
    by_cases c : (Ad nb P e x && (!al || Nd tb K x)) = true
    · rw [if_pos c]
      show acc (stL nb tb P K) fnL (x, Nd tb K x && !Nd tb K e) (p + 1) l = true ↔ _
      rw [acc_LwS nb tb P K l x _ (p + 1)]
      rw [Bool.and_eq_true, Bool.or_eq_true] at c
      refine ⟨fun h => ⟨c.1, fun ha => ?_, h⟩, fun h => h.2.2⟩
      rcases c.2 with q | q
      · rw [ha] at q; exact Bool.noConfusion q
      · exact q
    · rw [if_neg c]
      refine ⟨fun h => Bool.noConfusion h, fun h => absurd ?_ c⟩
      rw [Bool.and_eq_true, Bool.or_eq_true]
      refine ⟨h.1, ?_⟩
      cases al
      · exact Or.inl rfl
      · exact Or.inr (h.2.1 rfl)
theorem law_acc {n : Nat} (hn : n ≤ 7) (nb tb : Bool) (P K : Nat → Nat) {l : List Nat} (hl : l.length = n) (hb : ∀ p, p < n → gd l p < n) : LawN (nb = true) (tb = true) P K n (gd l) ↔ acc (stL nb tb P K) fnL (7, false) 0 l = true := by
  rw [acc_LwS]
  have a7 : ∀ x y, x < n → (Ad nb P x y = true ↔ (nb = true → ¬ adjN (P x) (P y))) := fun x y hx => by
    unfold Ad
    rw [decide_eq_false (show ¬ x = 7 by omega), Bool.false_or, Bool.not_eq_true', Bool.and_eq_false_iff]
    constructor
    · intro h h1 h2
      rcases h with q | q
      · rw [h1] at q; exact Bool.noConfusion q
      · rw [decide_eq_true h2] at q; exact Bool.noConfusion q
    · intro h
      by_cases c : nb = true
      · exact Or.inr (decide_eq_false (h c))
      · exact Or.inl (by cases q : nb; rfl; exact absurd q c)
  have n7' : ∀ x, x < n → (Nd tb K x = true ↔ tb = true ∧ K x = 3) := fun x hx => by
    unfold Nd
    rw [decide_eq_true (show x ≠ 7 by omega), Bool.true_and, Bool.and_eq_true, decide_eq_true_eq]
  have n77 : Nd tb K 7 = false := rfl
  have a77 : ∀ y, Ad nb P 7 y = true := fun y => rfl
  unfold LwS
  rw [hl]
  constructor
  · intro h
    refine ⟨fun p hp => ?_, fun q => Bool.noConfusion q, fun p hp hN => ?_⟩
    · cases p with
      | zero => exact a77 _
      | succ p =>
        show Ad nb P (gd l p) (gd l (p + 1)) = true
        rw [a7 _ _ (hb p (by omega))]
        exact (h (p + 1) hp).1 (by omega)
    · have t := (n7' _ (hb p hp)).mp hN
      rcases (h p hp).2 t.1 t.2 with q | q
      · cases p with
        | zero => omega
        | succ p => exact Or.inl ((n7' _ (hb p (by omega))).mpr ⟨t.1, q.2⟩)
      · exact Or.inr ⟨q.1, (n7' _ (hb _ q.1)).mpr ⟨t.1, q.2⟩⟩
  · intro ⟨h1, _, h3⟩ p hp
    refine ⟨fun h0 hn' => ?_, fun ht hK => ?_⟩
    · cases p with
      | zero => omega
      | succ p => exact (a7 _ _ (hb p (by omega))).mp (h1 (p + 1) hp) hn'
    · rcases h3 p hp ((n7' _ (hb p hp)).mpr ⟨ht, hK⟩) with q | q
      · cases p with
        | zero => exact absurd (show Nd tb K 7 = true from q) (by rw [n77]; decide)
        | succ p => exact Or.inl ⟨by omega, ((n7' _ (hb p (by omega))).mp q).2⟩
      · exact Or.inr ⟨q.1, ((n7' _ (hb _ q.1)).mp q.2).2⟩
/-- wear behind a year, if laid so -/
def wIf (tn : Bool) (K U D V : Nat → Nat) (x p : Nat) : Nat := wornN (K x) (if tn = true ∧ K x ≠ 4 then D x else U x) (V p)
theorem wIf_le (tn : Bool) (K U D V : Nat → Nat) (x p : Nat) : wIf tn K U D V x p ≤ 999 := wornN_le _ _ _
theorem mxW_le {w : Nat → Nat → Nat} {g : Nat} (h : ∀ x p, w x p ≤ g) : ∀ l p, mxW w p l ≤ g
  | [], _ => Nat.zero_le _
  | x :: l, p => by
    have a := mxW_le h l (p + 1)
    have b := h x p
    show max (w x p) (mxW w (p + 1) l) ≤ g
    omega
/-- what the reference sees of a street: kinds, upper and lower heads, places, wheels -/
def Mv (τ : St) (u d b n : Nat) (K U D V P : Nat → Nat) (tn nb tb : Bool) : Prop := (n ≤ 7) ∧ (2 ≤ n) ∧ (xk u = 16) ∧ (xk d = 16) ∧ (xk b = 16) ∧ (τ.1 43 12 = nI n) ∧ (∀ j, j < n → τ.1 45 j = nI (K j) ∧ K j ≤ 4) ∧ (∀ j, j < n → τ.1 u j = nI (U j) ∧ U j ≤ 999) ∧ (∀ j, j < n → τ.1 d j = nI (D j) ∧ D j ≤ 999) ∧ (∀ j, j < n → τ.1 b j = nI (P j) ∧ P j < 7) ∧ (∀ p, p < 7 → τ.1 50 p = nI (V p) ∧ V p ≤ 9) ∧ (τ.1 43 3 = 1 ↔ tn = true) ∧ (¬ τ.1 43 2 = 0 ↔ nb = true) ∧ (¬ τ.1 43 4 = 0 ↔ tb = true)
theorem Mv.hn {τ : St} {u d b n : Nat} {K U D V P : Nat → Nat} {tn nb tb : Bool} (h : Mv τ u d b n K U D V P tn nb tb) : n ≤ 7 := h.1
theorem Mv.hn2 {τ : St} {u d b n : Nat} {K U D V P : Nat → Nat} {tn nb tb : Bool} (h : Mv τ u d b n K U D V P tn nb tb) : 2 ≤ n := h.2.1
theorem Mv.hu {τ : St} {u d b n : Nat} {K U D V P : Nat → Nat} {tn nb tb : Bool} (h : Mv τ u d b n K U D V P tn nb tb) : xk u = 16 := h.2.2.1
theorem Mv.hd {τ : St} {u d b n : Nat} {K U D V P : Nat → Nat} {tn nb tb : Bool} (h : Mv τ u d b n K U D V P tn nb tb) : xk d = 16 := h.2.2.2.1
theorem Mv.hb {τ : St} {u d b n : Nat} {K U D V P : Nat → Nat} {tn nb tb : Bool} (h : Mv τ u d b n K U D V P tn nb tb) : xk b = 16 := h.2.2.2.2.1
theorem Mv.hz {τ : St} {u d b n : Nat} {K U D V P : Nat → Nat} {tn nb tb : Bool} (h : Mv τ u d b n K U D V P tn nb tb) : τ.1 43 12 = nI n := h.2.2.2.2.2.1
theorem Mv.hk {τ : St} {u d b n : Nat} {K U D V P : Nat → Nat} {tn nb tb : Bool} (h : Mv τ u d b n K U D V P tn nb tb) : ∀ j, j < n → τ.1 45 j = nI (K j) ∧ K j ≤ 4 := h.2.2.2.2.2.2.1
theorem Mv.hU {τ : St} {u d b n : Nat} {K U D V P : Nat → Nat} {tn nb tb : Bool} (h : Mv τ u d b n K U D V P tn nb tb) : ∀ j, j < n → τ.1 u j = nI (U j) ∧ U j ≤ 999 := h.2.2.2.2.2.2.2.1
theorem Mv.hD {τ : St} {u d b n : Nat} {K U D V P : Nat → Nat} {tn nb tb : Bool} (h : Mv τ u d b n K U D V P tn nb tb) : ∀ j, j < n → τ.1 d j = nI (D j) ∧ D j ≤ 999 := h.2.2.2.2.2.2.2.2.1
theorem Mv.hP {τ : St} {u d b n : Nat} {K U D V P : Nat → Nat} {tn nb tb : Bool} (h : Mv τ u d b n K U D V P tn nb tb) : ∀ j, j < n → τ.1 b j = nI (P j) ∧ P j < 7 := h.2.2.2.2.2.2.2.2.2.1
theorem Mv.hV {τ : St} {u d b n : Nat} {K U D V P : Nat → Nat} {tn nb tb : Bool} (h : Mv τ u d b n K U D V P tn nb tb) : ∀ p, p < 7 → τ.1 50 p = nI (V p) ∧ V p ≤ 9 := h.2.2.2.2.2.2.2.2.2.2.1
theorem Mv.ht {τ : St} {u d b n : Nat} {K U D V P : Nat → Nat} {tn nb tb : Bool} (h : Mv τ u d b n K U D V P tn nb tb) : τ.1 43 3 = 1 ↔ tn = true := h.2.2.2.2.2.2.2.2.2.2.2.1
theorem Mv.hnb {τ : St} {u d b n : Nat} {K U D V P : Nat → Nat} {tn nb tb : Bool} (h : Mv τ u d b n K U D V P tn nb tb) : ¬ τ.1 43 2 = 0 ↔ nb = true := h.2.2.2.2.2.2.2.2.2.2.2.2.1
theorem Mv.htb {τ : St} {u d b n : Nat} {K U D V P : Nat → Nat} {tn nb tb : Bool} (h : Mv τ u d b n K U D V P tn nb tb) : ¬ τ.1 43 4 = 0 ↔ tb = true := h.2.2.2.2.2.2.2.2.2.2.2.2.2
theorem Mv.congr {τ τ' : St} {u d b n : Nat} {K U D V P : Nat → Nat} {tn nb tb : Bool} (h : Mv τ u d b n K U D V P tn nb tb) (hu : τ'.1 u = τ.1 u) (hd : τ'.1 d = τ.1 d) (hb : τ'.1 b = τ.1 b) (h45 : τ'.1 45 = τ.1 45) (h50 : τ'.1 50 = τ.1 50) (h2 : τ'.1 43 2 = τ.1 43 2) (h3 : τ'.1 43 3 = τ.1 43 3) (h4 : τ'.1 43 4 = τ.1 43 4) (h12 : τ'.1 43 12 = τ.1 43 12) : Mv τ' u d b n K U D V P tn nb tb :=
  ⟨h.hn, h.hn2, h.hu, h.hd, h.hb, h12.trans h.hz, by rw [h45]; exact h.hk, by rw [hu]; exact h.hU, by rw [hd]; exact h.hD, by rw [hb]; exact h.hP, by rw [h50]; exact h.hV, by rw [h3]; exact h.ht, by rw [h2]; exact h.hnb, by rw [h4]; exact h.htb⟩
theorem wouldBe_lp (fu : Nat) {τ : St} {u d b n : Nat} {K U D V P : Nat → Nat} {tn nb tb : Bool} (h : Mv τ u d b n K U D V P tn nb tb) {l : List Nat} (hO : Od τ n l) (hl : ∀ p, p < n → gd l p < n) : ∀ (m i a : Nat), i ≤ n → n - i < m → a ≤ 999 → fX10_wouldBe_5 fu 43 u d m (nI a) (nI i) τ = some (nI (max a (mxW (wIf tn K U D V) i (l.drop i))), τ) := by
  have hn := h.hn
  intro m
  induction m with
  | zero => intro i _ _ h; omega
  | succ m ih =>
    intro i a hi hm ha
    show fX10_wouldBe_5b fu (fX10_wouldBe_5 fu 43 u d m) 43 u d (nI a) (nI i) τ = _
    unfold fX10_wouldBe_5b
    rw [h.hz]
    by_cases c : i < n
    · have hx := hl i c
      obtain ⟨k1, k2⟩ := h.hk _ hx
      obtain ⟨u1, u2⟩ := h.hU _ hx
      obtain ⟨d1, d2⟩ := h.hD _ hx
      obtain ⟨v1, v2⟩ := h.hV i (by omega)
      rw [if_neg (nI_ge c (by omega)), rv_43_19, rv_43_13, ald_nI (by omega) (by omega), hO.2.2 i c]
      simp only [Option.bind_some]
      rw [ald_nI (by omega) (by omega), k1]
      simp only [Option.bind_some]
      unfold fX10_wouldBe_46 fX10_wouldBe_47 fX10_wouldBe_72 fX10_wouldBe_96
      rw [rv_43_13, rv_43_18]
      have q0 : ∀ a, ald τ a 7 (nI (gd l i)) = some (τ.1 a (gd l i)) := fun a => ald_nI (by omega) (by omega)
      have q1 : ald τ 50 7 (nI i) = some (nI (V i)) := by rw [ald_nI (by omega) (by omega), v1]
      simp only [q0, q1, k1, u1, d1, Option.bind_some, nm, worn_eq]
      rw [drop_gd l i (by rw [hO.1]; exact c)]
      have fin : ∀ v, v = wIf tn K U D V (gd l i) i → (if nI v ≤ nI a then fX10_wouldBe_5 fu 43 u d m (nI a) (nI i + 1) τ else fX10_wouldBe_5 fu 43 u d m (nI v) (nI i + 1) τ) = some (nI (max a (mxW (wIf tn K U D V) i (gd l i :: l.drop (i + 1)))), τ) := by
        intro v hv
        have hv9 : v ≤ 999 := by rw [hv]; exact wIf_le _ _ _ _ _ _ _
        show _ = some (nI (max a (max (wIf tn K U D V (gd l i) i) (mxW (wIf tn K U D V) (i + 1) (l.drop (i + 1))))), τ)
        rw [← hv]
        by_cases e : v ≤ a
        · rw [if_pos (nI_le e (by omega)), nI_1, ih (i + 1) a (by omega) (by omega) ha]
          exact congrArg (fun t => some (nI t, τ)) (by omega)
        · rw [if_neg (nI_ge (by omega) (by omega)), nI_1, ih (i + 1) v (by omega) (by omega) hv9]
          exact congrArg (fun t => some (nI t, τ)) (by omega)
      by_cases t : τ.1 43 3 = 1
      · have t' := h.ht.mp t
        rw [if_pos t]
        by_cases e4 : K (gd l i) = 4
        · rw [if_pos ((k4 k2).mpr e4), if_pos trivial, wornI_nI k2 u2 v2]
          refine fin _ ?_
          unfold wIf
          rw [if_neg (fun q => q.2 e4)]
        · rw [if_neg (fun q => e4 ((k4 k2).mp q)), if_neg (by decide), wornI_nI k2 d2 v2]
          refine fin _ ?_
          unfold wIf
          rw [if_pos ⟨t', e4⟩]
      · have t' : ¬ tn = true := fun q => t (h.ht.mpr q)
        rw [if_neg t, if_pos trivial, wornI_nI k2 u2 v2]
        refine fin _ ?_
        unfold wIf
        rw [if_neg (fun q => t' q.1)]
    · have : i = n := by omega
      subst this
      rw [if_pos (nI_le (Nat.le_refl _) (by omega)), List.drop_of_length_le (by rw [hO.1]; exact Nat.le_refl _)]
      show _ = some (nI (max a 0), τ)
      rw [Nat.max_zero]
theorem wouldBe_eq {fu : Nat} (hf : 100 ≤ fu) {τ : St} {u d b n : Nat} {K U D V P : Nat → Nat} {tn nb tb : Bool} (h : Mv τ u d b n K U D V P tn nb tb) {l : List Nat} (hO : Od τ n l) (hl : ∀ p, p < n → gd l p < n) : fX10_wouldBe fu 43 u d τ = some (nI (mxW (wIf tn K U D V) 0 l), τ) := by
  unfold fX10_wouldBe fX10_wouldBe_0
  rw [if_pos xv_43, if_pos h.hu, if_pos h.hd]
  have := wouldBe_lp fu h hO hl fu 0 0 (by omega) (by have := h.hn; omega) (by omega)
  rw [List.drop_zero, Nat.zero_max] at this
  exact this
