/-! last year: the class's tables -/
def stF (ft : Nat → Nat → Bool) (_s : Unit) (p x : Nat) : Option Unit := if ft x p = true then some () else none
def fnF (_s : Unit) : Bool := true
theorem acc_stF (ft : Nat → Nat → Bool) : ∀ (l : List Nat) (p : Nat), (acc (stF ft) fnF () p l = true ↔ ∀ q, q < l.length → ft (gd l q) (p + q) = true)
  | [], p => ⟨fun _ q hq => absurd hq (Nat.not_lt_zero _), fun _ => rfl⟩
  | x :: l, p => by
    rw [acc]
    unfold stF
    by_cases c : ft x p = true
    · rw [if_pos c]
      show acc (stF ft) fnF () (p + 1) l = true ↔ _
      rw [acc_stF ft l (p + 1)]
      constructor
      · intro h q hq
        cases q with
        | zero => exact c
        | succ q =>
          have := h q (by rw [List.length_cons] at hq; omega)
          rw [show p + 1 + q = p + (q + 1) by omega] at this
          exact this
      · intro h q hq
        have := h (q + 1) (by rw [List.length_cons]; omega)
        rw [show p + (q + 1) = p + 1 + q by omega] at this
        exact this
    · rw [if_neg c]
      refine ⟨fun h => Bool.noConfusion h, fun h => absurd (h 0 (by rw [List.length_cons]; omega)) c⟩
def Cf (ft : Nat → Nat → Bool) (n L : Nat) : Nat := cntA (stF ft) fnF n (n - cS L n) L () (cS L n)
theorem sumR_le {f : Nat → Nat} {B : Nat} (h : ∀ x, f x ≤ B) : ∀ m, sumR f m ≤ m * B
  | 0 => Nat.zero_le _
  | m + 1 => by
    show sumR f m + f m ≤ (m + 1) * B
    have := sumR_le h m
    have := h m
    rw [Nat.succ_mul]
    omega
theorem cntA_le {S : Type} (st : S → Nat → Nat → Option S) (fn : S → Bool) {n : Nat} (hn : n ≤ 7) : ∀ k m s p, cntA st fn n k m s p ≤ 7 ^ k
  | 0, m, s, p => by show (if fn s = true then 1 else 0) ≤ 1; split <;> omega
  | k + 1, m, s, p => by
    show sumR _ n ≤ 7 ^ (k + 1)
    refine Nat.le_trans (sumR_le (B := 7 ^ k) (fun x => ?_) n) ?_
    · show (if m.testBit x = true then 0 else _) ≤ _
      by_cases c : m.testBit x = true
      · rw [if_pos c]; exact Nat.zero_le _
      · rw [if_neg c]
        cases e : st s p x with
        | none => exact Nat.zero_le _
        | some s' => exact cntA_le st fn hn k _ s' _
    · rw [Nat.pow_succ, Nat.mul_comm (7 ^ k) 7]
      exact Nat.mul_le_mul_right _ hn
theorem Cf_lt (ft : Nat → Nat → Bool) {n : Nat} (hn : n ≤ 7) (L : Nat) : Cf ft n L < 2 ^ 31 := by
  have a := cntA_le (stF ft) fnF hn (n - cS L n) L () (cS L n)
  have b : 7 ^ (n - cS L n) ≤ 7 ^ 7 := Nat.pow_le_pow_right (by decide) (by omega)
  unfold Cf
  omega
theorem Cf_pos (ft : Nat → Nat → Bool) (n L : Nat) : 0 < Cf ft n L ↔ ∃ l, l ∈ exts n (n - cS L n) L ∧ acc (stF ft) fnF () (cS L n) l = true := by
  unfold Cf
  rw [cntA_eq, List.countP_pos_iff]
theorem Cf_s (ft : Nat → Nat → Bool) {n L : Nat} (h : cS L n < n) : Cf ft n L = sumR (fun x => if (!L.testBit x && ft x (cS L n)) = true then Cf ft n (L ||| 2 ^ x) else 0) n := by
  unfold Cf
  rw [show n - cS L n = (n - cS L n - 1) + 1 by omega]
  show sumR _ n = _
  refine sumR_congr n (fun x hx => ?_)
  by_cases c : L.testBit x = true
  · rw [if_pos c, c]; rfl
  · have cf : L.testBit x = false := by cases q : L.testBit x; rfl; exact absurd q c
    rw [if_neg c, cf]
    unfold stF
    by_cases d : ft x (cS L n) = true
    · rw [if_pos d, d, cS_s hx c, show n - (cS L n + 1) = n - cS L n - 1 by omega]; rfl
    · rw [if_neg d, if_neg (by rw [show ft x (cS L n) = false by cases q : ft x (cS L n); rfl; exact absurd q d]; decide)]
def pft (pf : Nat → Nat) (x p : Nat) : Bool := (pf x).testBit p
/-- the class's masks of places -/
def Pm (pf : Nat → Nat) (n : Nat) (τ : St) : Prop := τ.1 29 3 = nI n ∧ ∀ j, j < n → τ.1 31 j = nI (pf j) ∧ pf j < 128
theorem mayCome_eq (fu : Nat) {pf : Nat → Nat} {n : Nat} {τ : St} (hn : n ≤ 7) (h : Pm pf n τ) {L x p : Nat} (hL : L < 128) (hx : x < n) (hp : p < 8) : fX3_mayCome fu 29 (nI L) (nI x) (nI p) τ = some (if (!L.testBit x && pft pf x p) = true then 1 else 0, τ) := by
  obtain ⟨h1, h2⟩ := h.2 x hx
  unfold fX3_mayCome fX3_mayCome_0 fX3_mayCome_26 fX3_mayCome_27
  rw [if_pos xv_29, rv_29_1, ald_nI (by omega) (by omega), h1]
  simp only [Option.bind_some]
  have b0 := bt0 L (by omega) x (by omega)
  have b2 := bt2 (pf x) (by omega) p hp
  unfold pft
  by_cases c : L.testBit x = true
  · rw [if_neg (fun q => by rw [b0.mp q] at c; exact Bool.noConfusion c), c]
    rfl
  · have cf : L.testBit x = false := by cases q : L.testBit x; rfl; exact absurd q c
    rw [if_pos (b0.mpr cf), cf]
    by_cases d : (pf x).testBit p = true
    · rw [if_pos (b2.mpr d), d]; rfl
    · rw [if_neg (fun q => d (b2.mp q)), show (pf x).testBit p = false by cases q : (pf x).testBit p; rfl; exact absurd q d]; rfl
theorem xi_d' (i : Nat) : nI i + (-1) = xi i := by
  match i with
  | 0 => exact dec70
  | i + 1 => rw [xi_s]; exact decG i
def Wy (pf : Nat → Nat) (n L : Nat) (τ : St) : Prop := ∀ L', L ≤ L' → L' < 2 ^ n → τ.1 30 L' = nI (Cf (pft pf) n L')
theorem countWays_lp {fu : Nat} (hf : 200 ≤ fu) {pf : Nat → Nat} {n : Nat} {σ : St} (hn : n ≤ 7) (hP : Pm pf n σ) : ∀ (m L : Nat) (τ : St), L < 2 ^ n → L < m → (∀ r, r ≠ 30 → τ.1 r = σ.1 r) → Wy pf n L τ → ∃ τ', fX3_countWays_20 fu 29 m (xi L) τ = some τ' ∧ (∀ r, r ≠ 30 → τ'.1 r = σ.1 r) ∧ Wy pf n 0 τ' := by
  have pn : 2 ^ n ≤ 2 ^ 7 := Nat.pow_le_pow_right (by decide) hn
  intro m
  induction m with
  | zero => intro L τ _ h; omega
  | succ m ih =>
    intro L τ hL hm hF hW
    show ∃ τ', fX3_countWays_20b fu (fX3_countWays_20 fu 29 m) 29 (xi L) τ = _ ∧ _ ∧ _
    unfold fX3_countWays_20b
    match L, hL, hm, hW with
    | 0, hL, hm, hW =>
      rw [if_pos (by decide)]
      exact ⟨τ, rfl, hF, hW⟩
    | L + 1, hL, hm, hW =>
      have hP' : Pm pf n τ := by unfold Pm; rw [hF 29 (by omega), hF 31 (by omega)]; exact hP
      have L8 : L < 2 ^ n := by omega
      have L128 := p128 hn L8
      have nf : cS L n < n := by
        have l := cS_le L n
        rcases Nat.lt_or_ge (cS L n) n with q | q
        · exact q
        · exfalso
          have e : L = 2 ^ n - 1 := (eq_full hn (by omega)).mpr ⟨(cS_full L n).mp (by omega), fun k hk => Nat.testBit_lt_two_pow (Nat.lt_of_lt_of_le L8 (Nat.pow_le_pow_right (by decide) hk))⟩
          omega
      rw [xi_s, if_neg (nI_pos (by omega)), bitCount_128 fu τ L (by omega), cS_8 hn L8]
      simp only [Option.bind_some]
      have inner : ∀ (m2 i : Nat), i ≤ n → n - i < m2 → ∃ τ', fX3_countWays_35 fu (fX3_countWays_20 fu 29 m) 29 m2 (nI L) (nI (cS L n)) (nI (sumR (fun x => if (!L.testBit x && pft pf x (cS L n)) = true then Cf (pft pf) n (L ||| 2 ^ x) else 0) i)) (nI i) τ = some τ' ∧ (∀ r, r ≠ 30 → τ'.1 r = σ.1 r) ∧ Wy pf n 0 τ' := by
        intro m2
        induction m2 with
        | zero => intro i _ h; omega
        | succ m2 ih2 =>
          intro i hi hm2
          show ∃ τ', fX3_countWays_35b fu (fX3_countWays_20 fu 29 m) (fX3_countWays_35 fu (fX3_countWays_20 fu 29 m) 29 m2) 29 (nI L) (nI (cS L n)) _ (nI i) τ = _ ∧ _ ∧ _
          unfold fX3_countWays_35b fX3_countWays_71
          rw [hP'.1]
          simp only [nm]
          by_cases c : i < n
          · rw [if_neg (nI_ge c (by omega)), mayCome_eq fu hn hP' L128 c (by omega)]
            simp only [Option.bind_some]
            have key := ih2 (i + 1) (by omega) (by omega)
            rw [show ∀ f, sumR f (i + 1) = sumR f i + f i from fun _ => rfl] at key
            by_cases d : (!L.testBit i && pft pf i (cS L n)) = true
            · have d1 : ¬ L.testBit i = true := fun z => by rw [z] at d; exact Bool.noConfusion d
              have hl := or_ltn L8 c
              rw [if_pos d, if_neg (by decide), bt1 i (by omega), fa_or, rv_29_0, ald_nI (p128 hn hl) (by omega), hW _ (by have := or_gt d1; omega) hl]
              simp only [Option.bind_some]
              rw [nI_add, nI_1]
              rw [if_pos d] at key
              exact key
            · rw [if_neg d, if_pos rfl, nI_1]
              rw [if_neg d, Nat.add_zero] at key
              exact key
          · have : i = n := by omega
            subst this
            rw [if_pos (nI_le (Nat.le_refl _) (by omega)), rv_29_0, ast_nI (by omega) (by omega)]
            simp only [Option.bind_some]
            rw [xi_d' L]
            refine ih L _ (by omega) (by omega) (fun r hr => by rw [si_row, if_neg hr]; exact hF r hr) (fun L' h1 h2 => ?_)
            show upd (τ.1 30) L _ L' = _
            rw [upd_app]
            by_cases q : L' = L
            · rw [if_pos q, q, Cf_s (pft pf) nf]
            · rw [if_neg q]; exact hW L' (by omega) h2
      exact inner fu 0 (by omega) (by omega)
theorem countWays_eq {fu : Nat} (hf : 200 ≤ fu) {pf : Nat → Nat} {n : Nat} {σ : St} (hn : n ≤ 7) (hP : Pm pf n σ) : ∃ τ', fX3_countWays fu 29 σ = some τ' ∧ (∀ r, r ≠ 30 → τ'.1 r = σ.1 r) ∧ Wy pf n 0 τ' := by
  have pn : 2 ^ n ≤ 2 ^ 7 := Nat.pow_le_pow_right (by decide) hn
  have p1 : 1 ≤ 2 ^ n := Nat.one_le_two_pow
  unfold fX3_countWays fX3_countWays_0
  rw [if_pos xv_29, hP.1]
  simp only [nm]
  rw [bt1 n (by omega), nI_s1 p1, rv_29_0, ast_nI (by omega) (by omega)]
  simp only [Option.bind_some]
  have full : cS (2 ^ n - 1) n = n := (cS_full _ n).mpr (fun k hk => by rw [Nat.testBit_two_pow_sub_one, decide_eq_true hk])
  have hW : Wy pf n (2 ^ n - 1) (si σ 30 (2 ^ n - 1) 1) := by
    intro L' h1 h2
    have : L' = 2 ^ n - 1 := by omega
    subst this
    show upd (σ.1 30) (2 ^ n - 1) 1 (2 ^ n - 1) = _
    rw [upd_same]
    unfold Cf
    rw [full, Nat.sub_self]
    rfl
  have e : nI (2 ^ n - 1) - 1 = xi (2 ^ n - 1) := by
    obtain ⟨k, ek⟩ : ∃ k, 2 ^ n - 1 = k := ⟨_, rfl⟩
    rw [ek]
    match k with
    | 0 => decide
    | k + 1 => rw [xi_s, nI_pred]
  rw [e]
  exact countWays_lp hf hn hP fu (2 ^ n - 1) _ (by omega) (by omega) (fun r hr => by rw [si_row, if_neg hr]) hW
/-- the first of last year's orders -/
theorem firstFor_eq {fu : Nat} (hf : 200 ≤ fu) {pf : Nat → Nat} {n : Nat} {τ : St} (hn : n ≤ 7) (hP : Pm pf n τ) (hW : Wy pf n 0 τ) {L : Nat} (hL : L < 2 ^ n) (hc : cS L n < n) {x : Nat} {F' : List Nat} (hF : (exts n (n - cS L n) L).find? (acc (stF (pft pf)) fnF () (cS L n)) = some (x :: F')) : fX3_firstFor fu 29 (nI L) (nI (cS L n)) τ = some (nI x, τ) ∧ x < n ∧ ¬ L.testBit x = true ∧ (exts n (n - cS (L ||| 2 ^ x) n) (L ||| 2 ^ x)).find? (acc (stF (pft pf)) fnF () (cS (L ||| 2 ^ x) n)) = some F' := by
  have hL8 := p128 hn hL
  obtain ⟨k, ek⟩ : ∃ k, n - cS L n = k + 1 := ⟨n - cS L n - 1, by omega⟩
  rw [ek] at hF
  obtain ⟨x', F2, s', e1, x1, x2, x3, x4, x5⟩ := find_hd _ _ _ _ _ _ _ hF
  obtain ⟨rfl, rfl⟩ := List.cons.inj e1
  have wx : pft pf x (cS L n) = true := by
    unfold stF at x3
    by_cases q : pft pf x (cS L n) = true
    · exact q
    · rw [if_neg q] at x3; simp at x3
  have cx := cS_s x1 x2
  have ex : n - cS (L ||| 2 ^ x) n = k := by omega
  refine ⟨?_, x1, x2, by rw [ex, cx]; exact x4⟩
  have lp : ∀ (m i : Nat), i ≤ x → x - i < m → fX3_firstFor_2 fu 29 (nI L) (nI (cS L n)) m (nI i) τ = some (nI x, τ) := by
    intro m
    induction m with
    | zero => intro i _ h; omega
    | succ m ih =>
      intro i hi hm
      show fX3_firstFor_2b fu (fX3_firstFor_2 fu 29 (nI L) (nI (cS L n)) m) 29 (nI L) (nI (cS L n)) (nI i) τ = _
      unfold fX3_firstFor_2b fX3_firstFor_35
      rw [hP.1, if_neg (nI_ge (show i < n by omega) (by omega)), mayCome_eq fu hn hP hL8 (by omega) (by omega)]
      simp only [Option.bind_some, nm]
      have nx : i < x → fX3_firstFor_2 fu 29 (nI L) (nI (cS L n)) m (nI i + 1) τ = some (nI x, τ) := fun q => by
        rw [nI_1]; exact ih (i + 1) (by omega) (by omega)
      by_cases d : (!L.testBit i && pft pf i (cS L n)) = true
      · have d1 : ¬ L.testBit i = true := fun z => by rw [z] at d; exact Bool.noConfusion d
        have d2 : pft pf i (cS L n) = true := by rw [Bool.and_eq_true] at d; exact d.2
        have hl := or_ltn hL (show i < n by omega)
        have ci := cS_s (show i < n by omega) d1
        have lt := Cf_lt (pft pf) hn (L ||| 2 ^ i)
        rw [if_pos d, if_neg (by decide), bt1 i (by omega), fa_or, rv_29_0, ald_nI (p128 hn hl) (by omega), hW _ (by omega) hl]
        simp only [Option.bind_some]
        by_cases q : i = x
        · subst q
          have pos : 0 < Cf (pft pf) n (L ||| 2 ^ i) := (Cf_pos _ _ _).mpr ⟨_, by rw [ex]; exact List.mem_of_find?_eq_some x4, by
            have m2 := List.find?_some x4
            rw [cx]; exact m2⟩
          rw [if_neg (nI_nle pos lt)]
        · by_cases a2 : Cf (pft pf) n (L ||| 2 ^ i) = 0
          · rw [a2, if_pos (by decide)]
            exact nx (by omega)
          · exfalso
            obtain ⟨l, l1, l2⟩ := (Cf_pos (pft pf) n (L ||| 2 ^ i)).mp (by omega)
            refine x5 i (by omega) d1 () ?_ l (by rw [show k = n - cS (L ||| 2 ^ i) n by omega]; exact l1) (by rw [ci] at l2; exact l2)
            unfold stF
            rw [if_pos d2]
      · rw [if_neg d, if_pos rfl]
        refine nx ?_
        have : i ≠ x := fun q => d (by
          rw [q, wx]
          cases z : L.testBit x
          · rfl
          · exact absurd z x2)
        omega
  unfold fX3_firstFor fX3_firstFor_0
  rw [if_pos xv_29]
  exact lp fu 0 (by omega) (by omega)
theorem firstOrd_eq {fu : Nat} (hf : 200 ≤ fu) {pf : Nat → Nat} {n : Nat} {σ : St} (hn : n ≤ 7) (hP : Pm pf n σ) (hW : Wy pf n 0 σ) {F : List Nat} (hF : (exts n n 0).find? (acc (stF (pft pf)) fnF () 0) = some F) : ∃ τ', fX3_firstOrder fu 29 σ = some (32, τ') ∧ Or_ σ 32 n (gd F) τ' := by
  have hmem := exts_mem n 0 F (List.mem_of_find?_eq_some hF)
  have lp : ∀ (m i L : Nat) (τ : St), i ≤ n → n - i < m → cS L n = i → L < 2 ^ n → (exts n (n - cS L n) L).find? (acc (stF (pft pf)) fnF () (cS L n)) = some (F.drop i) → Or_ σ 32 i (gd F) τ → ∃ τ', fX3_firstOrder_11 fu 29 m (nI L) (nI i) τ = some (32, τ') ∧ Or_ σ 32 n (gd F) τ' := by
    intro m
    induction m with
    | zero => intro i L τ _ h; omega
    | succ m ih =>
      intro i L τ hi hm hc hL hFd hO
      have hP' : Pm pf n τ := by unfold Pm; rw [hO.2.1 29 (by omega) (by omega), hO.2.1 31 (by omega) (by omega)]; exact hP
      have hW' : Wy pf n 0 τ := by unfold Wy; rw [hO.2.1 30 (by omega) (by omega)]; exact hW
      show ∃ τ', fX3_firstOrder_11b fu (fX3_firstOrder_11 fu 29 m) 29 (nI L) (nI i) τ = _ ∧ _
      unfold fX3_firstOrder_11b
      rw [hP'.1]
      by_cases c : i < n
      · rw [if_neg (nI_ge c (by omega))]
        rw [drop_gd F i (by rw [hmem.1]; exact c)] at hFd
        obtain ⟨f1, f2, f3, f4⟩ := firstFor_eq hf hn hP' hW' hL (by omega) hFd
        rw [hc] at f1
        rw [f1]
        simp only [Option.bind_some, nm]
        rw [bt1 _ (by omega), fa_or, rv_29_2, append_eq fu xv_32 (show i < 7 by omega) hO.2.2.1]
        simp only [Option.bind_some]
        rw [nI_1]
        exact ih (i + 1) _ _ (by omega) (by omega) (by rw [cS_s f2 f3]; omega) (or_ltn hL f2) f4 (Or_app hO)
      · have : i = n := by omega
        subst this
        rw [if_pos (nI_le (Nat.le_refl _) (by omega))]
        exact ⟨τ, rfl, hO⟩
  unfold fX3_firstOrder fX3_firstOrder_0
  rw [if_pos xv_29, rv_29_2, clear_eq fu xv_32]
  simp only [Option.bind_some]
  exact lp fu 0 0 _ (by omega) (by omega) (cS_0 n) (Nat.two_pow_pos n) (by rw [cS_0]; exact hF) (Or_0 σ 32 _)
