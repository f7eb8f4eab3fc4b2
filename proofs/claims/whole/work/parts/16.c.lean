/-! sure -/
def mskL : Nat → List Nat → Nat
  | s, [] => s
  | s, x :: l => mskL (s ||| 2 ^ x) l
theorem mskL_tb (b : Nat) : ∀ (l : List Nat) (s : Nat), ((mskL s l).testBit b = true ↔ s.testBit b = true ∨ ∃ p, p < l.length ∧ gd l p = b)
  | [], s => ⟨fun h => Or.inl h, fun h => h.elim id (fun ⟨p, hp, _⟩ => absurd hp (Nat.not_lt_zero _))⟩
  | x :: l, s => by
    show (mskL (s ||| 2 ^ x) l).testBit b = true ↔ _
    rw [mskL_tb b l (s ||| 2 ^ x), tb_or, Bool.or_eq_true, decide_eq_true_eq]
    constructor
    · intro h
      rcases h with (h | h) | ⟨p, hp, h⟩
      · exact Or.inl h
      · exact Or.inr ⟨0, by rw [List.length_cons]; omega, h⟩
      · exact Or.inr ⟨p + 1, by rw [List.length_cons]; omega, h⟩
    · intro h
      rcases h with h | ⟨p, hp, h⟩
      · exact Or.inl (Or.inl h)
      · cases p with
        | zero => exact Or.inl (Or.inr h)
        | succ p => exact Or.inr ⟨p, by rw [List.length_cons] at hp; omega, h⟩
theorem mskL_cS {n : Nat} : ∀ (l : List Nat) (s : Nat), okM n s l → cS (mskL s l) n = cS s n + l.length
  | [], s, _ => rfl
  | x :: l, s, h => by
    show cS (mskL (s ||| 2 ^ x) l) n = cS s n + (l.length + 1)
    rw [mskL_cS l _ h.2.2, cS_s h.1 (by rw [h.2.1]; decide)]
    omega
theorem pos_ex {n b : Nat} {l : List Nat} (h : l.length = n ∧ okM n 0 l) (hb : b < n) : ∃ p, p < n ∧ gd l p = b := by
  have a := mskL_cS l 0 h.2
  rw [cS_0, h.1, Nat.zero_add] at a
  have := (mskL_tb b l 0).mp ((cS_full _ n).mp a b hb)
  rcases this with q | ⟨p, hp, q⟩
  · rw [Nat.zero_testBit] at q; exact Bool.noConfusion q
  · exact ⟨p, by rw [← h.1]; exact hp, q⟩
def orP (b : Nat) (l : List Nat) (M : Nat) : Nat → Nat
  | 0 => M
  | p + 1 => if gd l p = b then orP b l M p ||| 2 ^ p else orP b l M p
theorem orP_tb (b : Nat) (l : List Nat) (M q : Nat) : ∀ n, ((orP b l M n).testBit q = true ↔ M.testBit q = true ∨ (q < n ∧ gd l q = b))
  | 0 => ⟨fun h => Or.inl h, fun h => h.elim id (fun h => by omega)⟩
  | n + 1 => by
    have ih := orP_tb b l M q n
    unfold orP
    by_cases c : gd l n = b
    · rw [if_pos c, tb_or, Bool.or_eq_true, decide_eq_true_eq, ih]
      constructor
      · intro h
        rcases h with (h | h) | h
        · exact Or.inl h
        · exact Or.inr ⟨by omega, h.2⟩
        · exact Or.inr ⟨by omega, by rw [← h]; exact c⟩
      · intro h
        rcases h with h | h
        · exact Or.inl (Or.inl h)
        · by_cases d : n = q
          · exact Or.inr d
          · exact Or.inl (Or.inr ⟨by omega, h.2⟩)
    · rw [if_neg c, ih]
      constructor
      · intro h
        rcases h with h | h
        · exact Or.inl h
        · exact Or.inr ⟨by omega, h.2⟩
      · intro h
        rcases h with h | h
        · exact Or.inl h
        · refine Or.inr ⟨?_, h.2⟩
          have : q ≠ n := fun e => c (by rw [← e]; exact h.2)
          omega
theorem orP_lt {b M : Nat} {l : List Nat} (h : M < 128) : ∀ n, n ≤ 7 → orP b l M n < 128
  | 0, _ => h
  | n + 1, hn => by
    unfold orP
    have := orP_lt (b := b) (l := l) h n (by omega)
    split
    · exact Nat.or_lt_two_pow (n := 7) this (Nat.pow_lt_pow_right (by decide) (by omega))
    · exact this
/-- the mask of all places in which the block lies -/
def srS (ok : List Nat → Bool) (b n : Nat) : List (List Nat) → Nat → Nat
  | [], M => M
  | l :: r, M => if ok l = true then srS ok b n r (orP b l M n) else srS ok b n r M
theorem srS_tb (ok : List Nat → Bool) (b n q : Nat) : ∀ (r : List (List Nat)) (M : Nat), ((srS ok b n r M).testBit q = true ↔ M.testBit q = true ∨ ∃ l, l ∈ r ∧ ok l = true ∧ q < n ∧ gd l q = b)
  | [], M => ⟨fun h => Or.inl h, fun h => h.elim id (fun ⟨l, hl, _⟩ => absurd hl List.not_mem_nil)⟩
  | l :: r, M => by
    unfold srS
    by_cases k : ok l = true
    · rw [if_pos k, srS_tb ok b n q r, orP_tb]
      constructor
      · intro h
        rcases h with (h | h) | ⟨x, x1, x2⟩
        · exact Or.inl h
        · exact Or.inr ⟨l, List.mem_cons_self, k, h.1, h.2⟩
        · exact Or.inr ⟨x, List.mem_cons_of_mem _ x1, x2⟩
      · intro h
        rcases h with h | ⟨x, x1, x2, x3, x4⟩
        · exact Or.inl (Or.inl h)
        · rcases List.mem_cons.mp x1 with e | e
          · rw [e] at x4; exact Or.inl (Or.inr ⟨x3, x4⟩)
          · exact Or.inr ⟨x, e, x2, x3, x4⟩
    · rw [if_neg k, srS_tb ok b n q r]
      constructor
      · intro h
        rcases h with h | ⟨x, x1, x2⟩
        · exact Or.inl h
        · exact Or.inr ⟨x, List.mem_cons_of_mem _ x1, x2⟩
      · intro h
        rcases h with h | ⟨x, x1, x2, x3, x4⟩
        · exact Or.inl h
        · rcases List.mem_cons.mp x1 with e | e
          · rw [e] at x2; exact absurd x2 k
          · exact Or.inr ⟨x, e, x2, x3, x4⟩
theorem srS_lt (ok : List Nat → Bool) (b : Nat) {n : Nat} (hn : n ≤ 7) : ∀ (r : List (List Nat)) (M : Nat), M < 128 → srS ok b n r M < 128
  | [], M, h => h
  | l :: r, M, h => by
    unfold srS
    split
    · exact srS_lt ok b hn r _ (orP_lt h n hn)
    · exact srS_lt ok b hn r _ h
theorem sure62 (fu : Nat) {n b : Nat} {l : List Nat} {τ : St} (hn : n ≤ 7) (hz : τ.1 43 12 = nI n) (hO : Od τ n l) (hb : b < n) (k48 : Int32 → Int32 → St → Option (Int32 × St)) {M : Nat} (hM : M < 128) : ∀ (m i : Nat), i ≤ n → n - i < m → fX10_sure_62 fu k48 43 (nI b) m (nI (orP b l M i)) (nI i) τ = fX10_sure_99 fu k48 43 (nI b) (nI (orP b l M n)) τ := by
  intro m
  induction m with
  | zero => intro i _ h; omega
  | succ m ih =>
    intro i hi hm
    show fX10_sure_62b fu k48 (fX10_sure_62 fu k48 43 (nI b) m) 43 (nI b) _ (nI i) τ = _
    unfold fX10_sure_62b fX10_sure_91
    rw [hz]
    simp only [nm]
    by_cases c : i < n
    · have hg := hO.2.1 i c
      rw [if_neg (nI_ge c (by omega)), rv_43_19, ald_nI (by omega) (by omega), hO.2.2 i c]
      simp only [Option.bind_some]
      have key := ih (i + 1) (by omega) (by omega)
      rw [show orP b l M (i + 1) = if gd l i = b then orP b l M i ||| 2 ^ i else orP b l M i from rfl] at key
      by_cases d : gd l i = b
      · rw [if_pos (by rw [d]), bt1 i (by omega), fa_or, nI_1]
        rw [if_pos d] at key
        exact key
      · rw [if_neg (fun q => d ((nI_eq (by omega) (by omega)).mp q)), show (0 : Int32) = nI 0 from rfl, fa_or, Nat.or_zero, nI_1]
        rw [if_neg d] at key
        exact key
    · have : i = n := by omega
      subst this
      rw [if_pos (nI_le (Nat.le_refl _) (by omega))]
theorem sure110_no (fu : Nat) {n R : Nat} {τ : St} (hn : n ≤ 7) (hz : τ.1 43 12 = nI n) (hR : R < 128) (x1 : Int32) (h : ∀ p, p < n → R ≠ 2 ^ p) : ∀ (m i : Nat), i ≤ n → n - i < m → fX10_sure_110 fu 43 x1 m (nI R) (nI i) τ = some (-1, τ) := by
  intro m
  induction m with
  | zero => intro i _ h; omega
  | succ m ih =>
    intro i hi hm
    show fX10_sure_110b fu (fX10_sure_110 fu 43 x1 m) 43 x1 (nI R) (nI i) τ = _
    unfold fX10_sure_110b
    rw [hz]
    simp only [nm]
    by_cases c : i < n
    · have p7 : 2 ^ i < 2 ^ 7 := Nat.pow_lt_pow_right (by decide) (by omega)
      rw [if_neg (nI_ge c (by omega)), bt1 i (by omega), if_neg (fun q => h i c ((nI_eq (by omega) (by omega)).mp q)), nI_1]
      exact ih (i + 1) (by omega) (by omega)
    · have : i = n := by omega
      subst this
      rw [if_pos (nI_le (Nat.le_refl _) (by omega))]
theorem sure110_yes (fu : Nat) {n p0 : Nat} {τ : St} (hn : n ≤ 7) (hz : τ.1 43 12 = nI n) (hp : p0 < n) (x1 : Int32) : ∀ (m i : Nat), i ≤ p0 → n - i < m → fX10_sure_110 fu 43 x1 m (nI (2 ^ p0)) (nI i) τ = some (nI p0, τ) := by
  have p7 : 2 ^ p0 < 2 ^ 7 := Nat.pow_lt_pow_right (by decide) (by omega)
  intro m
  induction m with
  | zero => intro i _ h; omega
  | succ m ih =>
    intro i hi hm
    show fX10_sure_110b fu (fX10_sure_110 fu 43 x1 m) 43 x1 _ (nI i) τ = _
    unfold fX10_sure_110b
    rw [hz, if_neg (nI_ge (show i < n by omega) (by omega)), bt1 i (by omega)]
    simp only [nm]
    by_cases c : i = p0
    · rw [c, if_pos rfl]
    · have : 2 ^ i < 2 ^ p0 := Nat.pow_lt_pow_right (by decide) (by omega)
      rw [if_neg (fun q => by have := (nI_eq (by omega) (by omega)).mp q; omega), nI_1]
      exact ih (i + 1) (by omega) (by omega)
theorem sure_lp {fu : Nat} (hf : 100 ≤ fu) {n b : Nat} {β σ : St} (hn : n ≤ 7) (hn2 : 2 ≤ n) (hb : b < n) (h : Ml β σ n) : ∀ (Ls : List (List Nat)) (m M : Nat) (τ : St), chk n Ls = true → (∀ l, l ∈ Ls → l.length = n ∧ okM n 0 l) → Ls.length < m → M < 128 → (∀ r, r ≠ 51 → τ.1 r = σ.1 r) → (∀ l r, Ls = l :: r → Od τ n l) → ∃ τ', fX10_sure_48 fu 43 (nI b) m (nI M) 1 τ = fX10_sure_110 fu 43 (nI b) fu (nI (srS (acc (stF (pft (pfS β n))) fnF () 0) b n Ls M)) 0 τ' ∧ ∀ r, r ≠ 51 → τ'.1 r = σ.1 r := by
  intro Ls
  induction Ls with
  | nil => intro m M τ hc; exact Bool.noConfusion hc
  | cons l r ih =>
    intro m M τ hc hmem hlen hM hB hO
    obtain ⟨m, rfl⟩ : ∃ m', m = m' + 1 := ⟨m - 1, by rw [List.length_cons] at hlen; omega⟩
    rw [List.length_cons] at hlen
    have hO := hO l r rfl
    have hl := hmem l List.mem_cons_self
    have hgd := okM_Od hO hl
    have hMl := h.f51 hB
    have cont : ∀ (M1 : Nat), M1 < 128 → ∃ τ', fX10_sure_99 fu (fX10_sure_48 fu 43 (nI b) m) 43 (nI b) (nI M1) τ = fX10_sure_110 fu 43 (nI b) fu (nI (srS (acc (stF (pft (pfS β n))) fnF () 0) b n r M1)) 0 τ' ∧ ∀ r, r ≠ 51 → τ'.1 r = σ.1 r := by
      intro M1 hM1
      obtain ⟨y1, y2⟩ := next_eq hf hn hn2 hMl.1 hO
      unfold fX10_sure_99
      cases r with
      | nil =>
        rw [y1 (chk_nil hc)]
        obtain ⟨m, rfl⟩ : ∃ m', m = m' + 1 := ⟨m - 1, by rw [List.length_nil] at hlen; omega⟩
        refine ⟨τ, ?_, hB⟩
        show fX10_sure_48b fu (fX10_sure_48 fu 43 (nI b) m) 43 (nI b) (nI M1) 0 τ = _
        unfold fX10_sure_48b
        rw [if_pos rfl]
        rfl
      | cons l' r' =>
        obtain ⟨z1, z2⟩ := chk_cons hc
        obtain ⟨τ2, t1, t2, t3⟩ := y2 l' z1
        rw [t1]
        exact ih m M1 τ2 z2 (fun q hq => hmem q (List.mem_cons_of_mem _ hq)) (by omega) hM1 (fun r hr => (t3 r hr).trans (hB r hr)) (fun l'' r'' e => by
          have : l' = l'' := (List.cons.inj e).1
          rw [← this]; exact t2)
    show ∃ τ', fX10_sure_48b fu (fX10_sure_48 fu 43 (nI b) m) 43 (nI b) (nI M) 1 τ = _ ∧ _
    unfold fX10_sure_48b
    rw [if_neg (by decide)]
    obtain ⟨k, l1, l2, l3⟩ := isLast_eq hf hn hMl hO hgd
    have l4 := l3.trans (ok_fit (β := β) hl.1 hgd).symm
    rw [l1]
    simp only [Option.bind_some]
    by_cases ek : k = 0
    · rw [if_pos ek]
      have ha : ¬ acc (stF (pft (pfS β n))) fnF () 0 l = true := fun q => by
        have := l4.mpr q
        rw [ek] at this
        exact absurd this (by decide)
      have e : srS (acc (stF (pft (pfS β n))) fnF () 0) b n (l :: r) M = srS (acc (stF (pft (pfS β n))) fnF () 0) b n r M := by
        conv => lhs; unfold srS
        rw [if_neg ha]
      rw [e]
      exact cont M hM
    · rw [if_neg ek]
      have ha := l4.mp (l2.resolve_left ek)
      have e : srS (acc (stF (pft (pfS β n))) fnF () 0) b n (l :: r) M = srS (acc (stF (pft (pfS β n))) fnF () 0) b n r (orP b l M n) := by
        conv => lhs; unfold srS
        rw [if_pos ha]
      rw [e]
      have t := sure62 fu hn hMl.1 hO hb (fX10_sure_48 fu 43 (nI b) m) hM fu 0 (by omega) (by omega)
      obtain ⟨τ', c1, c2⟩ := cont (orP b l M n) (orP_lt hM n hn)
      exact ⟨τ', t.trans c1, c2⟩
/-- where a block lies in an order of the class -/
theorem placeIn_eq {fu : Nat} (hf : 100 ≤ fu) {n b p0 : Nat} {F : List Nat} {τ : St} (hn : n ≤ 7) (hz : τ.1 32 1 = nI n) (hr : ∀ p, p < n → τ.1 33 p = nI (gd F p)) (hF : ∀ p, p < n → gd F p < n) (hb : b < n) (hp : p0 < n) (h0 : gd F p0 = b) (hi : ∀ p, p < n → gd F p = b → p = p0) : fX3_placeIn fu 32 (nI b) τ = some (nI p0, τ) := by
  have lp : ∀ (m i : Nat), i ≤ p0 → n - i < m → fX3_placeIn_2 fu 32 (nI b) m (nI i) τ = some (nI p0, τ) := by
    intro m
    induction m with
    | zero => intro i _ h; omega
    | succ m ih =>
      intro i hi' hm
      show fX3_placeIn_2b fu (fX3_placeIn_2 fu 32 (nI b) m) 32 (nI b) (nI i) τ = _
      unfold fX3_placeIn_2b fX3_placeIn_27
      rw [osize_eq fu xv_32, hz]
      simp only [Option.bind_some, nm]
      rw [nI_1]
      by_cases c : i = p0
      · subst c
        by_cases d : n ≤ i + 1
        · rw [if_pos (nI_le d (by omega))]
        · rw [if_neg (nI_ge (by omega) (by omega)), blockIn_eq fu xv_32 hn hp hz, show τ.1 (32 + 1) i = nI (gd F i) from hr i hp, h0]
          simp only [Option.bind_some]
          rw [if_pos trivial]
      · have hg := hF i (by omega)
        rw [if_neg (nI_ge (show i + 1 < n by omega) (by omega)), blockIn_eq fu xv_32 hn (show i < n by omega) hz, show τ.1 (32 + 1) i = nI (gd F i) from hr i (by omega)]
        simp only [Option.bind_some]
        rw [if_neg (fun q => c (hi i (by omega) ((nI_eq (by omega) (by omega)).mp q)))]
        exact ih (i + 1) (by omega) (by omega)
  unfold fX3_placeIn fX3_placeIn_0
  rw [if_pos xv_32]
  exact lp fu 0 (by omega) (by omega)
theorem tb_pow {p q : Nat} : (2 ^ p).testBit q = decide (p = q) := by
  have := tb_or 0 p q
  rw [Nat.zero_or, Nat.zero_testBit, Bool.false_or] at this
  exact this
theorem sm_sure {fu : Nat} (hf : 6000 ≤ fu) : Sm_sure fu Inv := by
  intro σ x hI
  obtain ⟨⟨n, hW, hM⟩, hP, hL, hC, hIm⟩ := id hI
  obtain ⟨hn, hz, w1, w2, w3, w4⟩ := id hW
  obtain ⟨c1, c2, ⟨k, d1, d2, d3⟩, c4⟩ := id hC
  by_cases hb : x < 0 ∨ nI n ≤ x
  · refine ⟨(-101, σ), (-101, σ), ?_, ?_, rfl, hI⟩
    · simp [fX9_sure_30, fX9_sure_0, fX9_sure, xv_0, xv_1, xv_3, xv_4, xv_12, xv_20, xv_22, xv_27, xv_29, xv_32, xv_34, xv_35, xv_43, rv_0_0, rv_0_1, rv_0_2, rv_0_3, rv_0_4, rv_0_5, rv_0_6, rv_0_7, rv_1_0, rv_4_0, rv_4_1, rv_4_2, rv_4_3, rv_4_4, rv_4_5, rv_4_6, rv_12_0, rv_12_1, rv_12_2, rv_12_3, rv_12_4, rv_12_5, rv_12_6, rv_35_0, rv_35_1, rv_35_2, rv_35_3, rv_35_4, rv_35_5, rv_35_6, rv_20_0, rv_27_0, rv_32_0, rv_22_0, rv_22_1, rv_22_2, rv_22_3, rv_22_4, rv_29_0, rv_29_1, rv_29_2, rv_34_0, rv_43_0, rv_43_13, rv_43_14, rv_43_15, rv_43_16, rv_43_17, rv_43_18, rv_43_19, rv_43_20, rv_43_21, rv_43_22, rv_43_30, if_true, Option.bind_some, nm, hasBlock4, hz, hb]
    · simp [fX10_sure_27, fX10_sure_91, fX10_sure_99, fX10_sure_62b, fX10_sure_62, fX10_sure_110b, fX10_sure_110, fX10_sure_48b, fX10_sure_48, fX10_sure_0, fX10_sure, xv_0, xv_1, xv_3, xv_4, xv_12, xv_20, xv_22, xv_27, xv_29, xv_32, xv_34, xv_35, xv_43, rv_0_0, rv_0_1, rv_0_2, rv_0_3, rv_0_4, rv_0_5, rv_0_6, rv_0_7, rv_1_0, rv_4_0, rv_4_1, rv_4_2, rv_4_3, rv_4_4, rv_4_5, rv_4_6, rv_12_0, rv_12_1, rv_12_2, rv_12_3, rv_12_4, rv_12_5, rv_12_6, rv_35_0, rv_35_1, rv_35_2, rv_35_3, rv_35_4, rv_35_5, rv_35_6, rv_20_0, rv_27_0, rv_32_0, rv_22_0, rv_22_1, rv_22_2, rv_22_3, rv_22_4, rv_29_0, rv_29_1, rv_29_2, rv_34_0, rv_43_0, rv_43_13, rv_43_14, rv_43_15, rv_43_16, rv_43_17, rv_43_18, rv_43_19, rv_43_20, rv_43_21, rv_43_22, rv_43_30, if_true, Option.bind_some, nm, isBlock_eq fu x hn hM.1, hb]
  obtain ⟨b, hb', rfl⟩ := in_nlt n (fun q => hb (Or.inl q)) (fun q => hb (Or.inr q)) (by omega)
  have b1 := hasBlock4 fu (nI b) σ
  rw [hz, if_neg hb] at b1
  have b2 := isBlock_eq fu (nI b) hn hM.1
  rw [if_neg hb] at b2
  have s1 := isTooShort_eq fu hn hz
  have s2 := lacks_eq fu hn hM.1
  by_cases h : n < 2
  · rw [if_pos h] at s1 s2
    exact ⟨(-103, σ), (-103, σ), by simp [fX9_sure_30, fX9_sure_0, fX9_sure, xv_0, xv_1, xv_3, xv_4, xv_12, xv_20, xv_22, xv_27, xv_29, xv_32, xv_34, xv_35, xv_43, rv_0_0, rv_0_1, rv_0_2, rv_0_3, rv_0_4, rv_0_5, rv_0_6, rv_0_7, rv_1_0, rv_4_0, rv_4_1, rv_4_2, rv_4_3, rv_4_4, rv_4_5, rv_4_6, rv_12_0, rv_12_1, rv_12_2, rv_12_3, rv_12_4, rv_12_5, rv_12_6, rv_35_0, rv_35_1, rv_35_2, rv_35_3, rv_35_4, rv_35_5, rv_35_6, rv_20_0, rv_27_0, rv_32_0, rv_22_0, rv_22_1, rv_22_2, rv_22_3, rv_22_4, rv_29_0, rv_29_1, rv_29_2, rv_34_0, rv_43_0, rv_43_13, rv_43_14, rv_43_15, rv_43_16, rv_43_17, rv_43_18, rv_43_19, rv_43_20, rv_43_21, rv_43_22, rv_43_30, if_true, Option.bind_some, nm, b1, s1], by simp [fX10_sure_27, fX10_sure_91, fX10_sure_99, fX10_sure_62b, fX10_sure_62, fX10_sure_110b, fX10_sure_110, fX10_sure_48b, fX10_sure_48, fX10_sure_0, fX10_sure, xv_0, xv_1, xv_3, xv_4, xv_12, xv_20, xv_22, xv_27, xv_29, xv_32, xv_34, xv_35, xv_43, rv_0_0, rv_0_1, rv_0_2, rv_0_3, rv_0_4, rv_0_5, rv_0_6, rv_0_7, rv_1_0, rv_4_0, rv_4_1, rv_4_2, rv_4_3, rv_4_4, rv_4_5, rv_4_6, rv_12_0, rv_12_1, rv_12_2, rv_12_3, rv_12_4, rv_12_5, rv_12_6, rv_35_0, rv_35_1, rv_35_2, rv_35_3, rv_35_4, rv_35_5, rv_35_6, rv_20_0, rv_27_0, rv_32_0, rv_22_0, rv_22_1, rv_22_2, rv_22_3, rv_22_4, rv_29_0, rv_29_1, rv_29_2, rv_34_0, rv_43_0, rv_43_13, rv_43_14, rv_43_15, rv_43_16, rv_43_17, rv_43_18, rv_43_19, rv_43_20, rv_43_21, rv_43_22, rv_43_30, if_true, Option.bind_some, nm, b2, s2], rfl, hI⟩
  rw [if_neg h] at s1 s2
  by_cases hk : k = 40
  · subst hk
    refine ⟨(-103, σ), (-103, σ), ?_, ?_, rfl, hI⟩
    · simp only [fX9_sure_30, fX9_sure_0, fX9_sure, xv_0, xv_1, xv_3, xv_4, xv_12, xv_20, xv_22, xv_27, xv_29, xv_32, xv_34, xv_35, xv_43, rv_0_0, rv_0_1, rv_0_2, rv_0_3, rv_0_4, rv_0_5, rv_0_6, rv_0_7, rv_1_0, rv_4_0, rv_4_1, rv_4_2, rv_4_3, rv_4_4, rv_4_5, rv_4_6, rv_12_0, rv_12_1, rv_12_2, rv_12_3, rv_12_4, rv_12_5, rv_12_6, rv_35_0, rv_35_1, rv_35_2, rv_35_3, rv_35_4, rv_35_5, rv_35_6, rv_20_0, rv_27_0, rv_32_0, rv_22_0, rv_22_1, rv_22_2, rv_22_3, rv_22_4, rv_29_0, rv_29_1, rv_29_2, rv_34_0, rv_43_0, rv_43_13, rv_43_14, rv_43_15, rv_43_16, rv_43_17, rv_43_18, rv_43_19, rv_43_20, rv_43_21, rv_43_22, rv_43_30, if_true, Option.bind_some, nm, b1, s1, d2]
      rfl
    · simp only [fX10_sure_27, fX10_sure_91, fX10_sure_99, fX10_sure_62b, fX10_sure_62, fX10_sure_110b, fX10_sure_110, fX10_sure_48b, fX10_sure_48, fX10_sure_0, fX10_sure, xv_0, xv_1, xv_3, xv_4, xv_12, xv_20, xv_22, xv_27, xv_29, xv_32, xv_34, xv_35, xv_43, rv_0_0, rv_0_1, rv_0_2, rv_0_3, rv_0_4, rv_0_5, rv_0_6, rv_0_7, rv_1_0, rv_4_0, rv_4_1, rv_4_2, rv_4_3, rv_4_4, rv_4_5, rv_4_6, rv_12_0, rv_12_1, rv_12_2, rv_12_3, rv_12_4, rv_12_5, rv_12_6, rv_35_0, rv_35_1, rv_35_2, rv_35_3, rv_35_4, rv_35_5, rv_35_6, rv_20_0, rv_27_0, rv_32_0, rv_22_0, rv_22_1, rv_22_2, rv_22_3, rv_22_4, rv_29_0, rv_29_1, rv_29_2, rv_34_0, rv_43_0, rv_43_13, rv_43_14, rv_43_15, rv_43_16, rv_43_17, rv_43_18, rv_43_19, rv_43_20, rv_43_21, rv_43_22, rv_43_30, if_true, Option.bind_some, nm, b2, s2, d3]
      rfl
  obtain ⟨σ1, e1⟩ : ∃ σ1, σ1 = si σ 0 11 (nI (k + 1)) := ⟨_, rfl⟩
  have g1 : ∀ r, r ≠ 0 → σ1.1 r = σ.1 r := fun r hr => by rw [e1, si_row, if_neg hr]
  obtain ⟨σ2, a1, a2, a3, a4⟩ := lyStudy_eq (fu := fu) (by omega) hn (σ := σ1) (by rw [g1 4 (by omega)]; exact hz)
  rw [pfS_congr n (g1 5 (by omega)) (g1 6 (by omega)) (g1 8 (by omega)) (g1 11 (by omega))] at a3 a4
  obtain ⟨q, eq⟩ : ∃ q, q = Cf (pft (pfS σ n)) n 0 := ⟨_, rfl⟩
  have hq : q < 2 ^ 31 := by rw [eq]; exact Cf_lt _ hn 0
  have fo := lfound_eq fu (a4 0 (by omega) (Nat.two_pow_pos n))
  rw [← eq] at fo
  have eqc : q = (exts n n 0).countP (acc (stF (pft (pfS σ n))) fnF () 0) := by rw [eq]; exact Cf_0 _ _
  obtain ⟨R, eR⟩ : ∃ R, R = srS (acc (stF (pft (pfS σ n))) fnF () 0) b n (exts n n 0) 0 := ⟨_, rfl⟩
  have hR : R < 128 := by rw [eR]; exact srS_lt _ _ hn _ _ (by omega)
  have tR : ∀ p, (R.testBit p = true ↔ ∃ l, l ∈ exts n n 0 ∧ acc (stF (pft (pfS σ n))) fnF () 0 l = true ∧ p < n ∧ gd l p = b) := fun p => by
    rw [eR, srS_tb, Nat.zero_testBit]
    exact ⟨fun h => h.elim (fun z => Bool.noConfusion z) id, Or.inr⟩
  have ref : ∀ σ3 : St, (∀ r, r ≠ 0 → (r < 29 ∨ 33 < r) → σ3.1 r = σ.1 r) → σ3.1 0 = σ1.1 0 → ∃ τ2, Inv τ2 ∧ τ2.1 43 12 = nI n ∧ fX10_sure fu 43 (nI b) σ3 = fX10_sure_110 fu 43 (nI b) fu (nI R) (nI 0) τ2 := by
    intro σ3 g3 g0
    obtain ⟨τ1, e2⟩ : ∃ τ1, τ1 = si σ3 43 27 (nI (k + 1)) := ⟨_, rfl⟩
    have gs : ∀ j, j ≠ 27 → τ1.1 43 j = σ.1 43 j := fun j hj => by
      rw [e2]
      show upd (σ3.1 43) 27 _ j = _
      rw [upd_ne _ _ hj, g3 43 (by omega) (by omega)]
    have gr : ∀ r, r ≠ 43 → r ≠ 0 → (r < 29 ∨ 33 < r) → τ1.1 r = σ.1 r := fun r x p q => by
      rw [e2, si_row, if_neg x]; exact g3 r p q
    have z12 : τ1.1 43 12 = nI n := (gs 12 (by omega)).trans hM.1
    have hMl : Ml σ τ1 n := by
      refine ⟨z12, fun j hj => ?_, fun p hp => ?_⟩
      · rw [gr 45 (by omega) (by omega) (by omega), gr 46 (by omega) (by omega) (by omega), gr 49 (by omega) (by omega) (by omega)]
        exact ⟨(hM.2.1 j hj).1, (hM.2.1 j hj).2.1, (hM.2.1 j hj).2.2.2.2⟩
      · rw [gr 50 (by omega) (by omega) (by omega)]; exact hM.2.2 p hp
    obtain ⟨τ0, f1, f2, f3⟩ := firstOrder_eq (fu := fu) (by omega) hn z12
    have len := len7 n (by omega)
    obtain ⟨τ2, k1, k2⟩ := sure_lp (fu := fu) (by omega) hn (by omega) hb' hMl (exts n n 0) fu 0 τ0 (chk_all hn (by omega)) (fun l hl => exts_mem n 0 l hl) (by omega) (by omega) f2 (fun l r e => by rw [hd_all hn e]; exact f3)
    rw [← eR] at k1
    have z3 : σ3.1 43 12 = nI n := by rw [g3 43 (by omega) (by omega)]; exact hM.1
    have s3 := lacks_eq fu hn z3
    rw [if_neg h] at s3
    have b3 := isBlock_eq fu (nI b) hn z3
    rw [if_neg hb] at b3
    refine ⟨τ2, ?_, ?_, ?_⟩
    · refine Inv_Fr ⟨fun r r1 r2 r3 => ?_, fun j j1 j2 j3 j4 => ?_⟩ (Inv_c11 (k := k) hI (by omega))
      · rw [k2 r (by omega), e2, si_row, if_neg r2, si_row, if_neg r2]
        by_cases z : r = 0
        · rw [z, g0, e1]
        · rw [g3 r z (by omega), si_row, if_neg z]
      · rw [k2 43 (by omega), e2]
        show upd (σ3.1 43) 27 _ j = upd (σ.1 43) 27 _ j
        rw [g3 43 (by omega) (by omega)]
    · rw [k2 43 (by omega)]; exact z12
    · unfold fX10_sure fX10_sure_0
      rw [if_pos xv_43, b3]
      simp only [Option.bind_some, nm]
      rw [if_neg (by decide), s3]
      simp only [Option.bind_some]
      rw [if_pos trivial, show σ3.1 43 27 = nI k by rw [g3 43 (by omega) (by omega)]; exact d3, l40, if_neg (fun q => hk ((nI_eq (by omega) (by omega)).mp q)), nI_1, ← e2, f1]
      exact k1
  have head : ∀ o : Option (Int32 × St), (fX3_surePlaceOf_0 fu 29 (nI b) σ2).bind (fun q108 => some (q108.1, q108.2)) = o → fX9_sure fu 0 (nI b) σ = o := by
    intro o ho
    simp only [fX9_sure_30, fX9_sure_0, fX9_sure, xv_0, xv_1, xv_3, xv_4, xv_12, xv_20, xv_22, xv_27, xv_29, xv_32, xv_34, xv_35, xv_43, rv_0_0, rv_0_1, rv_0_2, rv_0_3, rv_0_4, rv_0_5, rv_0_6, rv_0_7, rv_1_0, rv_4_0, rv_4_1, rv_4_2, rv_4_3, rv_4_4, rv_4_5, rv_4_6, rv_12_0, rv_12_1, rv_12_2, rv_12_3, rv_12_4, rv_12_5, rv_12_6, rv_35_0, rv_35_1, rv_35_2, rv_35_3, rv_35_4, rv_35_5, rv_35_6, rv_20_0, rv_27_0, rv_32_0, rv_22_0, rv_22_1, rv_22_2, rv_22_3, rv_22_4, rv_29_0, rv_29_1, rv_29_2, rv_34_0, rv_43_0, rv_43_13, rv_43_14, rv_43_15, rv_43_16, rv_43_17, rv_43_18, rv_43_19, rv_43_20, rv_43_21, rv_43_22, rv_43_30, if_true, Option.bind_some, nm, b1, s1, d2]
    rw [if_neg (by decide), l40, if_pos (nI_lt (show k < 40 by omega) (by omega)), nI_1, ← e1, a1]
    simp only [Option.bind_some]
    unfold fX3_surePlaceOf
    rw [if_pos xv_29]
    exact ho
  have g2 : ∀ r, r ≠ 0 → (r < 29 ∨ 31 < r) → σ2.1 r = σ.1 r := fun r p q => (a2 r (by omega) (by omega) (by omega)).trans (g1 r p)
  have g20 : σ2.1 0 = σ1.1 0 := a2 0 (by omega) (by omega) (by omega)
  by_cases z : q = 0
  · obtain ⟨τ2, t1, t2, t4⟩ := ref σ2 (fun r p q => g2 r p (by omega)) g20
    rw [sure110_no fu hn t2 hR (nI b) (fun p hp e => by
      have t : R.testBit p = true := by rw [e, tb_pow, decide_eq_true rfl]
      obtain ⟨l, l1, l2, _⟩ := (tR p).mp t
      rw [eqc, List.countP_eq_zero] at z
      exact z l l1 l2) fu 0 (by omega) (by omega)] at t4
    refine ⟨(-1, σ2), _, head _ ?_, t4, rfl, t1⟩
    unfold fX3_surePlaceOf_0
    rw [fo]
    simp only [Option.bind_some]
    rw [if_pos (by rw [z]; rfl)]
    rfl
  have pos : 0 < (exts n n 0).countP (acc (stF (pft (pfS σ n))) fnF () 0) := by rw [← eqc]; omega
  rw [List.countP_pos_iff] at pos
  obtain ⟨F, v3⟩ := Option.isSome_iff_exists.mp (List.find?_isSome.mpr pos)
  obtain ⟨σ3, y1, y2⟩ := firstOrd_eq (fu := fu) (by omega) hn a3 a4 v3
  have Fm := List.mem_of_find?_eq_some v3
  have Fa := List.find?_some v3
  have hm := exts_mem n 0 F Fm
  have hgF : ∀ p, p < n → gd F p < n := fun p hp => (okM_gd F 0 hm.2 p (by rw [hm.1]; exact hp)).1
  obtain ⟨p0, hp0, h0⟩ := pos_ex hm hb'
  have inj : ∀ l, l ∈ exts n n 0 → ∀ p q, p < n → q < n → gd l p = gd l q → p = q := fun l hl p q hp hq e => by
    have hm := exts_mem n 0 l hl
    exact okM_inj l 0 hm.2 p q (by rw [hm.1]; exact hp) (by rw [hm.1]; exact hq) e
  have pl := placeIn_eq (fu := fu) (by omega) hn y2.2.2.1 y2.2.2.2 hgF hb' hp0 h0 (fun p hp e => inj F Fm p p0 hp hp0 (e.trans h0.symm))
  -- without that place
  obtain ⟨pf', epf⟩ : ∃ pf' : Nat → Nat, pf' = fun j => if j = b then pfS σ n b &&& (127 ^^^ 2 ^ p0) else pfS σ n j := ⟨_, rfl⟩
  obtain ⟨σ4, e4⟩ : ∃ σ4, σ4 = si σ3 31 b (nI (pfS σ n b &&& (127 ^^^ 2 ^ p0))) := ⟨_, rfl⟩
  have r31 : σ3.1 31 = σ2.1 31 := y2.2.1 31 (by omega) (by omega)
  have r29 : σ3.1 29 = σ2.1 29 := y2.2.1 29 (by omega) (by omega)
  have hPm : Pm pf' n σ4 := by
    rw [e4]
    refine ⟨by show σ3.1 29 3 = _; rw [r29]; exact a3.1, fun j hj => ?_⟩
    show upd (σ3.1 31) b _ j = nI (pf' j) ∧ _
    rw [upd_app, r31, epf]
    by_cases c : j = b
    · rw [if_pos c]
      show _ = nI (if j = b then _ else _) ∧ (if j = b then _ else _) < 128
      rw [if_pos c]
      exact ⟨rfl, and_lt (a3.2 b hb').2⟩
    · rw [if_neg c]
      show _ = nI (if j = b then _ else _) ∧ (if j = b then _ else _) < 128
      rw [if_neg c]
      exact a3.2 j hj
  obtain ⟨σ5, k1, k2, k3⟩ := countWays_eq (fu := fu) (by omega) hn hPm
  obtain ⟨q', eq'⟩ : ∃ q', q' = Cf (pft pf') n 0 := ⟨_, rfl⟩
  have fo' := lfound_eq fu (k3 0 (by omega) (Nat.two_pow_pos n))
  rw [← eq'] at fo'
  have hq' : q' < 2 ^ 31 := by rw [eq']; exact Cf_lt _ hn 0
  have eqc' : q' = (exts n n 0).countP (acc (stF (pft pf')) fnF () 0) := by rw [eq']; exact Cf_0 _ _
  have acc' : ∀ l, l ∈ exts n n 0 → (acc (stF (pft pf')) fnF () 0 l = true ↔ acc (stF (pft (pfS σ n))) fnF () 0 l = true ∧ gd l p0 ≠ b) := by
    intro l hl
    have hm := exts_mem n 0 l hl
    rw [acc_stF, acc_stF, hm.1]
    have tb : ∀ p, p < n → pft pf' (gd l p) (0 + p) = (pft (pfS σ n) (gd l p) (0 + p) && !(decide (gd l p = b) && decide (p0 = p))) := fun p hp => by
      rw [epf, Nat.zero_add]
      unfold pft
      show (if gd l p = b then _ else _ : Nat).testBit p = _
      by_cases c : gd l p = b
      · rw [if_pos c, cl_tb _ _ _ (by omega), tb_pow, c, decide_eq_true rfl, Bool.true_and]
      · rw [if_neg c, decide_eq_false c, Bool.false_and, Bool.not_false, Bool.and_true]
    constructor
    · intro a
      refine ⟨fun p hp => ?_, fun e => ?_⟩
      · have := a p hp
        rw [tb p hp, Bool.and_eq_true] at this
        exact this.1
      · have := a p0 hp0
        rw [tb p0 hp0, e, decide_eq_true rfl, decide_eq_true rfl, Bool.and_eq_true] at this
        exact Bool.noConfusion this.2
    · intro ⟨a, ne⟩ p hp
      rw [tb p hp, a p hp]
      by_cases c : gd l p = b
      · rw [decide_eq_true c, decide_eq_false (fun e => ne (by rw [e]; exact c))]; rfl
      · rw [decide_eq_false c]; rfl
  have g5 : ∀ r, r ≠ 0 → (r < 29 ∨ 33 < r) → σ5.1 r = σ.1 r := fun r p q => by
    rw [k2 r (by omega), e4, si_row, if_neg (by omega), y2.2.1 r (by omega) (by omega)]
    exact g2 r p (by omega)
  have g50 : σ5.1 0 = σ1.1 0 := by
    rw [k2 0 (by omega), e4, si_row, if_neg (by omega), y2.2.1 0 (by omega) (by omega)]
    exact g20
  obtain ⟨τ2, t1, t2, t4⟩ := ref σ5 g5 g50
  have cls : (fX3_surePlaceOf_0 fu 29 (nI b) σ2).bind (fun q108 => some (q108.1, q108.2)) = some (if q' = 0 then nI p0 else -1, σ5) := by
    have p7 : 2 ^ p0 < 2 ^ 7 := Nat.pow_lt_pow_right (by decide) (by omega)
    unfold fX3_surePlaceOf_0 fX3_surePlaceOf_48
    rw [fo]
    simp only [Option.bind_some]
    rw [if_neg (nI_ne0 (by omega) (by omega)), y1]
    simp only [Option.bind_some]
    rw [if_pos xv_32, pl]
    simp only [Option.bind_some]
    rw [rv_29_1, ald_nI (by omega) (by omega), r31, (a3.2 b hb').1]
    simp only [Option.bind_some]
    rw [bt1 p0 (by omega), clr7 _ (a3.2 b hb').2 _ (by omega), ast_nI (by omega) (by omega)]
    simp only [Option.bind_some]
    rw [← e4, k1]
    simp only [Option.bind_some]
    rw [fo']
    simp only [Option.bind_some]
    by_cases c : q' = 0
    · rw [if_pos c, if_pos (by rw [c]; rfl)]; rfl
    · rw [if_neg c, if_neg (nI_ne0 (by omega) (by omega))]; rfl
  have F0 : R.testBit p0 = true := (tR p0).mpr ⟨F, Fm, Fa, hp0, h0⟩
  by_cases c : q' = 0
  · have all : ∀ l, l ∈ exts n n 0 → acc (stF (pft (pfS σ n))) fnF () 0 l = true → gd l p0 = b := fun l hl ha => by
      rw [eqc', List.countP_eq_zero] at c
      rcases Nat.decEq (gd l p0) b with e | e
      · exact absurd ((acc' l hl).mpr ⟨ha, e⟩) (c l hl)
      · exact e
    have eR2 : R = 2 ^ p0 := by
      apply Nat.eq_of_testBit_eq
      intro p
      rw [tb_pow]
      by_cases e : p0 = p
      · rw [decide_eq_true e, ← e]; exact F0
      · rw [decide_eq_false e]
        cases t : R.testBit p
        · rfl
        · obtain ⟨l, l1, l2, l3, l4⟩ := (tR p).mp t
          exact absurd (inj l l1 p0 p hp0 l3 ((all l l1 l2).trans l4.symm)) e
    rw [eR2, sure110_yes fu hn t2 hp0 (nI b) fu 0 (by omega) (by omega)] at t4
    exact ⟨(_, σ5), _, head _ cls, t4, by rw [if_pos c], t1⟩
  · have pos' : 0 < (exts n n 0).countP (acc (stF (pft pf')) fnF () 0) := by rw [← eqc']; omega
    rw [List.countP_pos_iff] at pos'
    obtain ⟨l, l1, l2⟩ := pos'
    obtain ⟨m1, m2⟩ := (acc' l l1).mp l2
    obtain ⟨p, hp, hpb⟩ := pos_ex (exts_mem n 0 l l1) hb'
    have np : p ≠ p0 := fun e => m2 (by rw [← e]; exact hpb)
    have tp : R.testBit p = true := (tR p).mpr ⟨l, l1, m1, hp, hpb⟩
    rw [sure110_no fu hn t2 hR (nI b) (fun r hr e => by
      rw [e, tb_pow] at tp F0
      have := of_decide_eq_true tp
      have := of_decide_eq_true F0
      omega) fu 0 (by omega) (by omega)] at t4
    exact ⟨(_, σ5), _, head _ cls, t4, by rw [if_neg c], t1⟩
