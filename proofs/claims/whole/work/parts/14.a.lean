/-! carried: the rings -/
theorem placeOf_eq (fu : Nat) {o : Nat} (ho : xk o = 6) {j : Nat} (hj : j < 7) (σ : St) : fX8_placeOf fu o (nI j) σ = some (σ.1 (o + 5) j, σ) := by
  unfold fX8_placeOf fX8_placeOf_0
  rw [if_pos ho, rs4 ho, ald_nI hj (by omega)]
  rfl
def mk (f : Nat → Nat) : Nat → Nat → Nat → Nat
  | 0, s, _ => s
  | k + 1, s, q => mk f k (s ||| 2 ^ q) (f q)
def clF (f : Nat → Nat) (n s : Nat) : Prop := ∀ x, x < n → s.testBit x = true → s.testBit (f x) = true
def Jm (f : Nat → Nat) (n s q : Nat) : Prop := ∀ x, x < n → s.testBit x = true → s.testBit (f x) = true ∨ f x = q
theorem or_same {s q : Nat} (h : s.testBit q = true) : s ||| 2 ^ q = s := by
  apply Nat.eq_of_testBit_eq
  intro k
  rw [tb_or]
  by_cases c : q = k
  · subst c; rw [h]; rfl
  · rw [decide_eq_false c, Bool.or_false]
theorem mk_stay {f : Nat → Nat} {n s : Nat} (hf : ∀ x, x < n → f x < n) (h : clF f n s) : ∀ k q, q < n → s.testBit q = true → mk f k s q = s
  | 0, _, _, _ => rfl
  | k + 1, q, hq, hb => by
    show mk f k (s ||| 2 ^ q) (f q) = s
    rw [or_same hb]
    exact mk_stay hf h k (f q) (hf q hq) (h q hq hb)
theorem Jm_cl {f : Nat → Nat} {n s q : Nat} (h : Jm f n s q) (hb : s.testBit q = true) : clF f n s := fun x hx hs => by
  rcases h x hx hs with e | e
  · exact e
  · rw [e]; exact hb
theorem Jm_s {f : Nat → Nat} {n s q : Nat} (h : Jm f n s q) : Jm f n (s ||| 2 ^ q) (f q) := fun x hx hs => by
  rw [tb_or] at hs ⊢
  rw [Bool.or_eq_true] at hs ⊢
  rw [decide_eq_true_eq] at hs ⊢
  rcases hs with e | e
  · rcases h x hx e with e | e
    · exact Or.inl (Or.inl e)
    · exact Or.inl (Or.inr e.symm)
  · exact Or.inr (by rw [e])
theorem mk_lt {f : Nat → Nat} {n : Nat} (hn : n ≤ 7) (hf : ∀ x, x < n → f x < n) : ∀ k s q, s < 256 → q < n → mk f k s q < 256
  | 0, _, _, h, _ => h
  | k + 1, s, q, h, hq => mk_lt hn hf k (s ||| 2 ^ q) (f q) (or_lt h (by omega)) (hf q hq)
theorem cS_s {s q n : Nat} (hq : q < n) (hb : ¬ s.testBit q = true) : cS (s ||| 2 ^ q) n = cS s n + 1 := by
  rw [cS_or, if_pos ⟨hq, by cases e : s.testBit q; rfl; exact absurd e hb⟩]
theorem mk_cl {f : Nat → Nat} {n : Nat} (hf : ∀ x, x < n → f x < n) : ∀ k s q, q < n → n - cS s n ≤ k → Jm f n s q → (k = 0 → s.testBit q = true) → clF f n (mk f k s q)
  | 0, s, q, hq, hk, hJ, hb => Jm_cl hJ (hb rfl)
  | k + 1, s, q, hq, hk, hJ, _ => by
    by_cases c : s.testBit q = true
    · have hc := Jm_cl hJ c
      rw [mk_stay hf hc (k + 1) q hq c]; exact hc
    · show clF f n (mk f k (s ||| 2 ^ q) (f q))
      have e := cS_s hq c
      have l := cS_le (s ||| 2 ^ q) n
      refine mk_cl hf k _ _ (hf q hq) (by omega) (Jm_s hJ) (fun hk0 => ?_)
      exact (cS_full _ n).mp (by omega) _ (hf q hq)
/-- what is carried, of a map of places -/
def dN (f : Nat → Nat) (p : Nat) : Nat := if f p ≤ p then p - f p else f p - p
def sD (f : Nat → Nat) : Nat → Nat
  | 0 => 0
  | p + 1 => sD f p + dN f p
def exR (f : Nat → Nat) (n : Nat) : Nat → Nat × Nat
  | 0 => (0, 0)
  | p + 1 => if (exR f n p).2.testBit p = true then exR f n p else ((exR f n p).1 + 1, mk f n (exR f n p).2 p)
theorem exR_ok {f : Nat → Nat} {n : Nat} (hn : n ≤ 7) (hf : ∀ x, x < n → f x < n) : ∀ p, p ≤ n → (exR f n p).2 < 256 ∧ clF f n (exR f n p).2
  | 0, _ => ⟨Nat.zero_lt_succ 255, fun x hx h => by
      rw [show (exR f n 0).2 = 0 from rfl, Nat.zero_testBit] at h
      exact Bool.noConfusion h⟩
  | p + 1, h => by
    obtain ⟨h1, h2⟩ := exR_ok hn hf p (by omega)
    unfold exR
    split
    · exact ⟨h1, h2⟩
    · refine ⟨mk_lt hn hf n _ p h1 (by omega), ?_⟩
      refine mk_cl hf n _ p (by omega) (by omega) (fun x hx hs => Or.inl (h2 x hx hs)) (fun e => by omega)
theorem jd : ∀ a, a < 7 → ∀ b, b < 7 → jabs (nI a - nI b) = nI (if a ≤ b then b - a else a - b) := by decide +kernel
theorem md : ∀ a, a < 7 → ∀ b, b < 7 → (if nI a - nI b < 0 then -(nI a - nI b) else nI a - nI b) = nI (if a ≤ b then b - a else a - b) := by decide +kernel
theorem half7 : ∀ n, n < 8 → nI n / 2 = nI (n / 2) := by decide +kernel
theorem dN_le {f : Nat → Nat} {n : Nat} (hn : n ≤ 7) (hf : ∀ x, x < n → f x < n) {p : Nat} (hp : p < n) : dN f p ≤ 6 := by
  have := hf p hp
  unfold dN
  split <;> omega
theorem sD_le {f : Nat → Nat} {n : Nat} (hn : n ≤ 7) (hf : ∀ x, x < n → f x < n) : ∀ p, p ≤ n → sD f p ≤ 6 * p
  | 0, _ => Nat.le_refl _
  | p + 1, h => by
    have h1 := sD_le hn hf p (by omega)
    have h2 := dN_le hn hf (p := p) (by omega)
    show sD f p + dN f p ≤ _
    omega
theorem sD_mono {f : Nat → Nat} : ∀ a b, a ≤ b → sD f a ≤ sD f b
  | a, 0, h => by rw [show a = 0 by omega]; exact Nat.le_refl _
  | a, b + 1, h => by
    by_cases c : a = b + 1
    · rw [c]; exact Nat.le_refl _
    · exact Nat.le_trans (sD_mono a b (by omega)) (Nat.le_add_right _ _)
/-- a view of street and order: where each place's block lies now -/
def Fw (σ : St) (o r n : Nat) (f : Nat → Nat) : Prop := n ≤ 7 ∧ σ.1 r 1 = nI n ∧ (∀ p, p < n → ∃ j, j < 7 ∧ σ.1 (r + 1) p = nI j ∧ σ.1 (o + 5) j = nI (f p)) ∧ ∀ p, p < n → f p < n
theorem wayTo_lp (fu : Nat) {o r n : Nat} (ho : xk o = 6) (hr : xk r = 4) {f : Nat → Nat} {σ : St} (h : Fw σ o r n f) {a b : Nat} (hb : b ≤ n) : ∀ (m i : Nat), a ≤ i → i ≤ b → b - i < m → fX0_wayTo_6 fu o r (nI a) (nI b) m (nI (sD f i - sD f a)) (nI i) σ = some (nI (sD f b - sD f a), σ) := by
  obtain ⟨hn, hz, h1, h2⟩ := h
  intro m
  induction m with
  | zero => intro i _ h1 h2; omega
  | succ m ih =>
    intro i g0 g1 g2
    show fX0_wayTo_6b fu (fX0_wayTo_6 fu o r (nI a) (nI b) m) o r (nI a) (nI b) _ (nI i) σ = _
    unfold fX0_wayTo_6b
    by_cases c : i < b
    · obtain ⟨j, j1, j2, j3⟩ := h1 i (by omega)
      rw [if_neg (nI_ge c (by omega)), blockIn_eq fu hr hn (by omega) hz, j2]
      simp only [Option.bind_some, nm]
      rw [placeOf_eq fu ho j1, j3]
      simp only [Option.bind_some]
      have := h2 i (by omega)
      rw [jd _ (by omega) _ (by omega), nI_add, nI_1]
      have mo := sD_mono (f := f) a i g0
      rw [show sD f i - sD f a + (if f i ≤ i then i - f i else f i - i) = sD f (i + 1) - sD f a from by
        show sD f i - sD f a + dN f i = sD f i + dN f i - sD f a
        omega]
      exact ih (i + 1) (by omega) (by omega) (by omega)
    · have : i = b := by omega
      subst this
      rw [if_pos (nI_le (Nat.le_refl _) (by omega))]
theorem wayTo_eq {fu : Nat} (hf : 100 ≤ fu) {o r n : Nat} (ho : xk o = 6) (hr : xk r = 4) {f : Nat → Nat} {σ : St} (h : Fw σ o r n f) {a b : Nat} (ha : a ≤ b) (hb : b ≤ n) : fX0_wayTo fu o r (nI a) (nI b) σ = some (nI (sD f b - sD f a), σ) := by
  unfold fX0_wayTo fX0_wayTo_0
  rw [if_pos ho, if_pos hr]
  have := wayTo_lp fu ho hr h (a := a) hb fu a (Nat.le_refl _) ha (by have := h.1; omega)
  rw [Nat.sub_self] at this
  exact this
theorem ringFrom_lp (fu : Nat) {o r n : Nat} (ho : xk o = 6) (hr : xk r = 4) {f : Nat → Nat} {σ : St} (h : Fw σ o r n f) (x2 x3 : Int32) : ∀ (m i s q : Nat), i ≤ n → n - i < m → s < 256 → q < n → fX0_ringFrom_9 fu o r x2 x3 m (nI s) (nI q) (nI i) σ = some (nI (mk f (n - i) s q), σ) := by
  obtain ⟨hn, hz, h1, h2⟩ := h
  intro m
  induction m with
  | zero => intro i _ _ h1 h2; omega
  | succ m ih =>
    intro i s q g1 g2 hs hq
    show fX0_ringFrom_9b fu (fX0_ringFrom_9 fu o r x2 x3 m) o r x2 x3 (nI s) (nI q) (nI i) σ = _
    unfold fX0_ringFrom_9b
    rw [osize_eq fu hr, hz]
    simp only [Option.bind_some, nm]
    by_cases c : i < n
    · obtain ⟨j, j1, j2, j3⟩ := h1 q hq
      rw [if_neg (nI_ge c (by omega)), blockIn_eq fu hr hn hq hz, j2]
      simp only [Option.bind_some]
      rw [placeOf_eq fu ho j1, j3]
      simp only [Option.bind_some]
      rw [bt1 _ (by omega), fa_or, nI_1, ih (i + 1) _ _ (by omega) (by omega) (or_lt hs (by omega)) (h2 q hq), show n - i = (n - (i + 1)) + 1 by omega]
      rfl
    · have : i = n := by omega
      subst this
      rw [if_pos (nI_le (Nat.le_refl _) (by omega)), Nat.sub_self]
      rfl
theorem ringFrom_eq {fu : Nat} (hf : 100 ≤ fu) {o r n : Nat} (ho : xk o = 6) (hr : xk r = 4) {f : Nat → Nat} {σ : St} (h : Fw σ o r n f) {s q : Nat} (hs : s < 256) (hq : q < n) : fX0_ringFrom fu o r (nI q) (nI s) σ = some (nI (mk f n s q), σ) := by
  unfold fX0_ringFrom fX0_ringFrom_0
  rw [if_pos ho, if_pos hr]
  exact ringFrom_lp fu ho hr h (nI q) (nI s) fu 0 s q (by omega) (by have := h.1; omega) hs hq
theorem exTo_lp {fu : Nat} (hf : 100 ≤ fu) {o r n : Nat} (ho : xk o = 6) (hr : xk r = 4) {f : Nat → Nat} {σ : St} (h : Fw σ o r n f) : ∀ (m i : Nat), i ≤ n → n - i < m → fX0_exchangesTo_7 fu o r m (nI (exR f n i).1) (nI (exR f n i).2) (nI i) σ = some (nI n - nI (exR f n n).1, σ) := by
  obtain ⟨hn, hz, h1, h2⟩ := id h
  intro m
  induction m with
  | zero => intro i h1 h2; omega
  | succ m ih =>
    intro i g1 g2
    show fX0_exchangesTo_7b fu (fX0_exchangesTo_7 fu o r m) o r _ _ (nI i) σ = _
    unfold fX0_exchangesTo_7b fX0_exchangesTo_37
    rw [osize_eq fu hr, hz]
    simp only [Option.bind_some, nm]
    by_cases c : i < n
    · have hx := exR_ok hn h2 i (by omega)
      rw [if_neg (nI_ge c (by omega))]
      have hb := bt0 _ hx.1 i (by omega)
      have := ih (i + 1) (by omega) (by omega)
      rw [show exR f n (i + 1) = if (exR f n i).2.testBit i = true then exR f n i else ((exR f n i).1 + 1, mk f n (exR f n i).2 i) from rfl] at this
      by_cases d : (exR f n i).2.testBit i = true
      · rw [if_neg (fun q => by rw [hb.mp q] at d; exact Bool.noConfusion d), nI_1]
        rw [if_pos d] at this
        exact this
      · rw [if_pos (hb.mpr (by cases e : (exR f n i).2.testBit i; rfl; exact absurd e d)), ringFrom_eq hf ho hr h hx.1 c]
        simp only [Option.bind_some]
        rw [if_neg d] at this
        rw [nI_1, nI_1]
        exact this
    · have : i = n := by omega
      subst this
      rw [if_pos (nI_le (Nat.le_refl _) (by omega)), osize_eq fu hr, hz]
      rfl
/-- what carried tells -/
def tlC (f : Nat → Nat) (n : Nat) (x : Int32) : Int32 := if x = 0 then nI (sD f n) else if x = 1 then nI n - nI (exR f n n).1 else if sD f (n / 2) ≤ sD f n - sD f (n / 2) then nI (sD f n - sD f (n / 2)) else nI (sD f (n / 2))
theorem told_eq {fu : Nat} (hf : 100 ≤ fu) {o r n : Nat} (ho : xk o = 6) (hr : xk r = 4) {f : Nat → Nat} {σ : St} (h : Fw σ o r n f) (x : Int32) : fX0_told fu o r x σ = some (tlC f n x, σ) := by
  obtain ⟨hn, hz, h1, h2⟩ := id h
  unfold fX0_told fX0_told_0 tlC
  rw [if_pos ho, if_pos hr]
  by_cases c0 : x = 0
  · have w := wayTo_eq hf ho hr h (a := 0) (b := n) (by omega) (by omega)
    rw [if_pos c0, if_pos c0, osize_eq fu hr, hz]
    simp only [Option.bind_some]
    rw [show (0 : Int32) = nI 0 from rfl, w]
    rfl
  rw [if_neg c0, if_neg c0]
  by_cases c1 : x = 1
  · rw [if_pos c1, if_pos c1]
    unfold fX0_exchangesTo fX0_exchangesTo_0
    rw [if_pos ho, if_pos hr]
    have w := exTo_lp hf ho hr h fu 0 (by omega) (by omega)
    rw [show fX0_exchangesTo_7 fu o r fu 0 0 0 σ = some (nI n - nI (exR f n n).1, σ) from w]
    rfl
  rw [if_neg c1, if_neg c1]
  unfold fX0_greaterGang fX0_greaterGang_0
  have w1 := wayTo_eq hf ho hr h (a := 0) (b := n / 2) (by omega) (by omega)
  have w2 := wayTo_eq hf ho hr h (a := n / 2) (b := n) (by omega) (by omega)
  rw [if_pos ho, if_pos hr, osize_eq fu hr, hz]
  simp only [Option.bind_some, nm]
  rw [half7 n (by omega), show (0 : Int32) = nI 0 from rfl, w1]
  simp only [Option.bind_some]
  rw [osize_eq fu hr, hz]
  simp only [Option.bind_some]
  rw [w2]
  simp only [Option.bind_some]
  have e0 : sD f (n / 2) - sD f 0 = sD f (n / 2) := Nat.sub_zero _
  have l1 := sD_le hn h2 (n / 2) (by omega)
  have l2 := sD_le hn h2 n (by omega)
  rw [e0]
  unfold jmax
  by_cases c : sD f (n / 2) < sD f n - sD f (n / 2)
  · rw [if_pos (nI_lt c (by omega)), if_pos (by omega)]
  · rw [if_neg (nI_nlt (by omega) (by omega))]
    by_cases d : sD f (n / 2) ≤ sD f n - sD f (n / 2)
    · rw [if_pos d]; exact congrArg (fun t => some (nI t, σ)) (by omega)
    · rw [if_neg d]
/-- the reference's view -/
def Fm (σ : St) (n : Nat) (f : Nat → Nat) : Prop := n ≤ 7 ∧ σ.1 43 12 = nI n ∧ (∀ p, p < n → ∃ j, j < 7 ∧ σ.1 51 p = nI j ∧ σ.1 48 j = nI (f p)) ∧ ∀ p, p < n → f p < n
theorem tc106 (fu : Nat) {n : Nat} {f : Nat → Nat} {σ : St} (h : Fm σ n f) (k13 : Int32 → Int32 → Int32 → Int32 → Int32 → St → Option (Int32 × St)) (x1 a b c p : Int32) : ∀ (m k s q : Nat), q < n → n - cS s n < m → n - cS s n ≤ k → s < 256 → Jm f n s q → (k = 0 → s.testBit q = true) → fX10_tellCarried_106 fu k13 43 x1 m a b c (nI s) p (nI q) σ = k13 a b c (nI (mk f k s q)) (p + 1) σ := by
  obtain ⟨hn, hz, h1, h2⟩ := id h
  intro m
  induction m with
  | zero => intro i _ _ h1 h2; omega
  | succ m ih =>
    intro k s q hq g1 g2 hs hJ hk
    show fX10_tellCarried_106b fu k13 (fX10_tellCarried_106 fu k13 43 x1 m) 43 x1 a b c (nI s) p (nI q) σ = _
    unfold fX10_tellCarried_106b
    have hb := bt0 _ hs q (by omega)
    simp only [nm]
    by_cases d : s.testBit q = true
    · rw [if_neg (fun w => by rw [hb.mp w] at d; exact Bool.noConfusion d), mk_stay h2 (Jm_cl hJ d) k q hq d]
    · obtain ⟨j, j1, j2, j3⟩ := h1 q hq
      rw [if_pos (hb.mpr (by cases e : s.testBit q; rfl; exact absurd e d)), rv_43_19, ald_nI (by omega) (by omega), j2]
      simp only [Option.bind_some]
      rw [rv_43_16, ald_nI (by omega) (by omega), j3]
      simp only [Option.bind_some]
      have e := cS_s hq d
      have l := cS_le (s ||| 2 ^ q) n
      obtain ⟨k', rfl⟩ : ∃ k', k = k' + 1 := ⟨k - 1, by omega⟩
      rw [bt1 _ (by omega), fa_or]
      exact ih k' (s ||| 2 ^ q) (f q) (h2 q hq) (by omega) (by omega) (or_lt hs (by omega)) (Jm_s hJ) (fun hk0 => (cS_full _ n).mp (by omega) _ (h2 q hq))
theorem tellCarried_lp {fu : Nat} (hf : 100 ≤ fu) {n : Nat} {f : Nat → Nat} {σ : St} (h : Fm σ n f) (x : Int32) : ∀ (m i : Nat), i ≤ n → n - i < m → fX10_tellCarried_13 fu 43 x m (nI (sD f (min i (n / 2)))) (nI (sD f i - sD f (min i (n / 2)))) (nI (exR f n i).1) (nI (exR f n i).2) (nI i) σ = some (tlC f n x, σ) := by
  obtain ⟨hn, hz, h1, h2⟩ := id h
  intro m
  induction m with
  | zero => intro i h1 h2; omega
  | succ m ih =>
    intro i g1 g2
    show fX10_tellCarried_13b fu (fX10_tellCarried_13 fu 43 x m) 43 x _ _ _ _ (nI i) σ = _
    unfold fX10_tellCarried_13b
    rw [hz]
    by_cases c : i < n
    · obtain ⟨j, j1, j2, j3⟩ := h1 i c
      rw [if_neg (nI_ge c (by omega)), rv_43_19, ald_nI (by omega) (by omega), j2]
      simp only [Option.bind_some]
      rw [rv_43_16, ald_nI (by omega) (by omega), j3]
      simp only [Option.bind_some]
      have hi := h2 i c
      rw [msize_eq, md _ (by omega) _ (by omega)]
      simp only [Option.bind_some]
      rw [hz, half7 n (by omega), show (if f i ≤ i then i - f i else f i - i) = dN f i from rfl]
      have hx := exR_ok hn h2 i (by omega)
      have hb := bt0 _ hx.1 i (by omega)
      have key := ih (i + 1) (by omega) (by omega)
      unfold fX10_tellCarried_60 fX10_tellCarried_80 fX10_tellCarried_99
      simp only [nm]
      rw [hz, half7 n (by omega)]
      have fin : ∀ (a b : Nat) , a = sD f (min (i + 1) (n / 2)) → b = sD f (i + 1) - sD f (min (i + 1) (n / 2)) → (if nI (exR f n i).2 >>> (nI i &&& 31) &&& 1 = 0 then fX10_tellCarried_106 fu (fX10_tellCarried_13 fu 43 x m) 43 x fu (nI a) (nI b) (nI (exR f n i).1 + 1) (nI (exR f n i).2) (nI i) (nI i) σ else fX10_tellCarried_106 fu (fX10_tellCarried_13 fu 43 x m) 43 x fu (nI a) (nI b) (nI (exR f n i).1 + 0) (nI (exR f n i).2) (nI i) (nI i) σ) = some (tlC f n x, σ) := by
        intro a b ea eb
        rw [ea, eb]
        have t := fun q => tc106 fu h (fX10_tellCarried_13 fu 43 x m) x (nI (sD f (min (i + 1) (n / 2)))) (nI (sD f (i + 1) - sD f (min (i + 1) (n / 2)))) q (nI i) fu n (exR f n i).2 i c (by omega) (by omega) hx.1 (fun y hy hs => Or.inl (hx.2 y hy hs)) (fun e => by omega)
        rw [t, t, nI_1]
        have e0 : nI (exR f n i).1 + 0 = nI (exR f n i).1 := by rw [show (0 : Int32) = nI 0 from rfl, nI_add]; rfl
        rw [e0]
        by_cases d : (exR f n i).2.testBit i = true
        · rw [if_neg (fun q => by rw [hb.mp q] at d; exact Bool.noConfusion d), mk_stay h2 hx.2 n i c d, nI_1]
          unfold exR at key
          rw [if_pos d] at key
          exact key
        · rw [if_pos (hb.mpr (by cases e : (exR f n i).2.testBit i; rfl; exact absurd e d)), nI_1]
          unfold exR at key
          rw [if_neg d] at key
          exact key
      have e0 : ∀ a : Nat, nI a + 0 = nI a := fun a => by rw [show (0 : Int32) = nI 0 from rfl, nI_add]; rfl
      have mo := sD_mono (f := f) (min i (n / 2)) i (by omega)
      by_cases e : n / 2 ≤ i
      · rw [if_pos (nI_le e (by omega)), if_pos (nI_le e (by omega)), e0, nI_add]
        refine fin _ _ ?_ ?_
        · rw [show min i (n / 2) = min (i + 1) (n / 2) by omega]
        · rw [show min (i + 1) (n / 2) = min i (n / 2) by omega]
          show _ = sD f i + dN f i - _
          omega
      · rw [if_neg (nI_ge (by omega) (by omega)), if_neg (nI_ge (by omega) (by omega)), e0, nI_add]
        refine fin _ _ ?_ ?_
        · rw [show min i (n / 2) = i by omega, show min (i + 1) (n / 2) = i + 1 by omega]
          rfl
        · rw [show min i (n / 2) = i by omega, show min (i + 1) (n / 2) = i + 1 by omega, Nat.sub_self, Nat.sub_self]
    · have : i = n := by omega
      subst this
      rw [if_pos (nI_le (Nat.le_refl _) (by omega)), show min i (i / 2) = i / 2 by omega]
      unfold fX10_tellCarried_183 tlC
      have mo := sD_mono (f := f) (i / 2) i (by omega)
      have l1 := sD_le hn h2 i (by omega)
      by_cases c0 : x = 0
      · rw [if_pos c0, if_pos c0, nI_add, show sD f (i / 2) + (sD f i - sD f (i / 2)) = sD f i by omega]
      rw [if_neg c0, if_neg c0]
      by_cases c1 : x = 1
      · rw [if_pos c1, if_pos c1]
      rw [if_neg c1, if_neg c1]
      by_cases d : sD f (i / 2) ≤ sD f i - sD f (i / 2)
      · rw [if_pos (nI_le d (by omega)), if_pos d]
      · rw [if_neg (nI_ge (by omega) (by omega)), if_neg d]
theorem tellCarried_eq {fu : Nat} (hf : 100 ≤ fu) {n : Nat} {f : Nat → Nat} {σ : St} (h : Fm σ n f) (x : Int32) : fX10_tellCarried fu 43 x σ = some (tlC f n x, σ) := by
  unfold fX10_tellCarried fX10_tellCarried_0
  rw [if_pos xv_43]
  have w := tellCarried_lp hf h x fu 0 (by omega) (by have := h.1; omega)
  rw [show min 0 (n / 2) = 0 by omega] at w
  exact w
theorem sm_carried {fu : Nat} (hf : 100 ≤ fu) : Sm_carried fu Inv := by
  intro σ x y hI
  obtain ⟨⟨n, hW, hM⟩, hP, hL, hC, hIm⟩ := id hI
  obtain ⟨hn, hz, w1, w2, w3, w4⟩ := id hW
  have s1 := isTooShort_eq fu hn hz
  have s2 := lacks_eq fu hn hM.1
  by_cases h : n < 2
  · rw [if_pos h] at s1 s2
    exact ⟨(-103, σ), (-103, σ), by simp [fX9_carried_37, fX9_carried_0, fX9_carried, xv_0, xv_1, xv_3, xv_4, xv_12, xv_20, xv_22, xv_27, xv_29, xv_32, xv_34, xv_35, xv_43, rv_0_0, rv_0_1, rv_0_2, rv_0_3, rv_0_4, rv_0_5, rv_0_6, rv_0_7, rv_1_0, rv_4_0, rv_4_1, rv_4_2, rv_4_3, rv_4_4, rv_4_5, rv_4_6, rv_12_0, rv_12_1, rv_12_2, rv_12_3, rv_12_4, rv_12_5, rv_12_6, rv_35_0, rv_35_1, rv_35_2, rv_35_3, rv_35_4, rv_35_5, rv_35_6, rv_20_0, rv_27_0, rv_32_0, rv_22_0, rv_22_1, rv_22_2, rv_22_3, rv_22_4, rv_29_0, rv_29_1, rv_29_2, rv_34_0, rv_43_0, rv_43_13, rv_43_14, rv_43_15, rv_43_16, rv_43_17, rv_43_18, rv_43_19, rv_43_20, rv_43_21, rv_43_22, rv_43_30, if_true, Option.bind_some, nm, s1], by simp [fX10_carried_40, fX10_carried_38, fX10_carried_0, fX10_carried, xv_0, xv_1, xv_3, xv_4, xv_12, xv_20, xv_22, xv_27, xv_29, xv_32, xv_34, xv_35, xv_43, rv_0_0, rv_0_1, rv_0_2, rv_0_3, rv_0_4, rv_0_5, rv_0_6, rv_0_7, rv_1_0, rv_4_0, rv_4_1, rv_4_2, rv_4_3, rv_4_4, rv_4_5, rv_4_6, rv_12_0, rv_12_1, rv_12_2, rv_12_3, rv_12_4, rv_12_5, rv_12_6, rv_35_0, rv_35_1, rv_35_2, rv_35_3, rv_35_4, rv_35_5, rv_35_6, rv_20_0, rv_27_0, rv_32_0, rv_22_0, rv_22_1, rv_22_2, rv_22_3, rv_22_4, rv_29_0, rv_29_1, rv_29_2, rv_34_0, rv_43_0, rv_43_13, rv_43_14, rv_43_15, rv_43_16, rv_43_17, rv_43_18, rv_43_19, rv_43_20, rv_43_21, rv_43_22, rv_43_30, if_true, Option.bind_some, nm, s2], rfl, hI⟩
  rw [if_neg h] at s1
  by_cases hx : x < 0
  · have r1 := read_neg hf xv_20 hx hn σ
    have f1 : Fr σ (si σ 20 1 0) := Fr.of 20 21 (by omega) (fun r hr => by rw [si_row, if_neg (by omega)])
    have s3 := lacks_eq fu hn (show (si σ 20 1 0).1 43 12 = nI n from hM.1)
    rw [if_neg h] at s3
    obtain ⟨τ, t1, t2, t3⟩ := readOrder_neg hf hx hn (show (si σ 20 1 0).1 43 12 = nI n from hM.1)
    exact ⟨(-102, si σ 20 1 0), (-102, τ), by simp [fX9_carried_37, fX9_carried_0, fX9_carried, xv_0, xv_1, xv_3, xv_4, xv_12, xv_20, xv_22, xv_27, xv_29, xv_32, xv_34, xv_35, xv_43, rv_0_0, rv_0_1, rv_0_2, rv_0_3, rv_0_4, rv_0_5, rv_0_6, rv_0_7, rv_1_0, rv_4_0, rv_4_1, rv_4_2, rv_4_3, rv_4_4, rv_4_5, rv_4_6, rv_12_0, rv_12_1, rv_12_2, rv_12_3, rv_12_4, rv_12_5, rv_12_6, rv_35_0, rv_35_1, rv_35_2, rv_35_3, rv_35_4, rv_35_5, rv_35_6, rv_20_0, rv_27_0, rv_32_0, rv_22_0, rv_22_1, rv_22_2, rv_22_3, rv_22_4, rv_29_0, rv_29_1, rv_29_2, rv_34_0, rv_43_0, rv_43_13, rv_43_14, rv_43_15, rv_43_16, rv_43_17, rv_43_18, rv_43_19, rv_43_20, rv_43_21, rv_43_22, rv_43_30, if_true, Option.bind_some, nm, s1, size_eq fu xv_4, hz, r1], by simp [fX10_carried_40, fX10_carried_38, fX10_carried_0, fX10_carried, xv_0, xv_1, xv_3, xv_4, xv_12, xv_20, xv_22, xv_27, xv_29, xv_32, xv_34, xv_35, xv_43, rv_0_0, rv_0_1, rv_0_2, rv_0_3, rv_0_4, rv_0_5, rv_0_6, rv_0_7, rv_1_0, rv_4_0, rv_4_1, rv_4_2, rv_4_3, rv_4_4, rv_4_5, rv_4_6, rv_12_0, rv_12_1, rv_12_2, rv_12_3, rv_12_4, rv_12_5, rv_12_6, rv_35_0, rv_35_1, rv_35_2, rv_35_3, rv_35_4, rv_35_5, rv_35_6, rv_20_0, rv_27_0, rv_32_0, rv_22_0, rv_22_1, rv_22_2, rv_22_3, rv_22_4, rv_29_0, rv_29_1, rv_29_2, rv_34_0, rv_43_0, rv_43_13, rv_43_14, rv_43_15, rv_43_16, rv_43_17, rv_43_18, rv_43_19, rv_43_20, rv_43_21, rv_43_22, rv_43_30, if_true, Option.bind_some, nm, s3, t1], rfl, Inv_Fr (f1.tr (Fr.of 51 51 (by omega) (fun r hr => t3 r (by omega)))) hI⟩
  obtain ⟨X, hX, rfl⟩ := nI_of hx
  obtain ⟨σ1, k1, r1, r2, r3, r4, r5, r6⟩ := read_eq hf xv_20 hX hn σ
  have f1 : Fr σ σ1 := Fr.of 20 21 (by omega) (fun r hr => r5 r (by omega) (by omega))
  have g1 : ∀ r, r ≠ 20 → r ≠ 21 → σ1.1 r = σ.1 r := r5
  have z1 : σ1.1 43 12 = nI n := by rw [g1 43 (by omega) (by omega)]; exact hM.1
  have s3 := lacks_eq fu hn z1
  rw [if_neg h] at s3
  obtain ⟨σ2, k2, t1, t2, t3, t4, t5, t6⟩ := readOrder_eq hf hX hn z1
  have ek : k1 = k2 := eq01 r2 t2 r3 t3
  subst ek
  have hF : Inv σ2 := Inv_Fr (f1.tr (Fr.of 51 51 (by omega) (fun r hr => t5 r (by omega)))) hI
  by_cases ek0 : k1 = 0
  · subst ek0
    exact ⟨(-102, σ1), (-102, σ2), by simp [fX9_carried_37, fX9_carried_0, fX9_carried, xv_0, xv_1, xv_3, xv_4, xv_12, xv_20, xv_22, xv_27, xv_29, xv_32, xv_34, xv_35, xv_43, rv_0_0, rv_0_1, rv_0_2, rv_0_3, rv_0_4, rv_0_5, rv_0_6, rv_0_7, rv_1_0, rv_4_0, rv_4_1, rv_4_2, rv_4_3, rv_4_4, rv_4_5, rv_4_6, rv_12_0, rv_12_1, rv_12_2, rv_12_3, rv_12_4, rv_12_5, rv_12_6, rv_35_0, rv_35_1, rv_35_2, rv_35_3, rv_35_4, rv_35_5, rv_35_6, rv_20_0, rv_27_0, rv_32_0, rv_22_0, rv_22_1, rv_22_2, rv_22_3, rv_22_4, rv_29_0, rv_29_1, rv_29_2, rv_34_0, rv_43_0, rv_43_13, rv_43_14, rv_43_15, rv_43_16, rv_43_17, rv_43_18, rv_43_19, rv_43_20, rv_43_21, rv_43_22, rv_43_30, if_true, Option.bind_some, nm, s1, size_eq fu xv_4, hz, r1], by simp [fX10_carried_40, fX10_carried_38, fX10_carried_0, fX10_carried, xv_0, xv_1, xv_3, xv_4, xv_12, xv_20, xv_22, xv_27, xv_29, xv_32, xv_34, xv_35, xv_43, rv_0_0, rv_0_1, rv_0_2, rv_0_3, rv_0_4, rv_0_5, rv_0_6, rv_0_7, rv_1_0, rv_4_0, rv_4_1, rv_4_2, rv_4_3, rv_4_4, rv_4_5, rv_4_6, rv_12_0, rv_12_1, rv_12_2, rv_12_3, rv_12_4, rv_12_5, rv_12_6, rv_35_0, rv_35_1, rv_35_2, rv_35_3, rv_35_4, rv_35_5, rv_35_6, rv_20_0, rv_27_0, rv_32_0, rv_22_0, rv_22_1, rv_22_2, rv_22_3, rv_22_4, rv_29_0, rv_29_1, rv_29_2, rv_34_0, rv_43_0, rv_43_13, rv_43_14, rv_43_15, rv_43_16, rv_43_17, rv_43_18, rv_43_19, rv_43_20, rv_43_21, rv_43_22, rv_43_30, if_true, Option.bind_some, nm, s3, t1], rfl, hF⟩
  have ek1 : k1 = 1 := r2.resolve_left ek0
  subst ek1
  obtain ⟨ok, _⟩ := id (r3.mp rfl)
  have hpm := okP_pm hn ok
  obtain ⟨_, _, o3, o4⟩ := r6 rfl
  have i1 := isWithin_eq fu y 0 2 σ1
  have i2 : fX10_in fu y.toInt64 (0 : Int64) (2 : Int64) σ2 = _ := in_eq32 fu y 0 2 σ2
  by_cases hy : y < 0 ∨ 2 < y
  · rw [if_pos hy] at i1 i2
    exact ⟨(-102, σ1), (-102, σ2), by simp [fX9_carried_37, fX9_carried_0, fX9_carried, xv_0, xv_1, xv_3, xv_4, xv_12, xv_20, xv_22, xv_27, xv_29, xv_32, xv_34, xv_35, xv_43, rv_0_0, rv_0_1, rv_0_2, rv_0_3, rv_0_4, rv_0_5, rv_0_6, rv_0_7, rv_1_0, rv_4_0, rv_4_1, rv_4_2, rv_4_3, rv_4_4, rv_4_5, rv_4_6, rv_12_0, rv_12_1, rv_12_2, rv_12_3, rv_12_4, rv_12_5, rv_12_6, rv_35_0, rv_35_1, rv_35_2, rv_35_3, rv_35_4, rv_35_5, rv_35_6, rv_20_0, rv_27_0, rv_32_0, rv_22_0, rv_22_1, rv_22_2, rv_22_3, rv_22_4, rv_29_0, rv_29_1, rv_29_2, rv_34_0, rv_43_0, rv_43_13, rv_43_14, rv_43_15, rv_43_16, rv_43_17, rv_43_18, rv_43_19, rv_43_20, rv_43_21, rv_43_22, rv_43_30, if_true, Option.bind_some, nm, s1, size_eq fu xv_4, hz, r1, i1], by simp [fX10_carried_40, fX10_carried_38, fX10_carried_0, fX10_carried, xv_0, xv_1, xv_3, xv_4, xv_12, xv_20, xv_22, xv_27, xv_29, xv_32, xv_34, xv_35, xv_43, rv_0_0, rv_0_1, rv_0_2, rv_0_3, rv_0_4, rv_0_5, rv_0_6, rv_0_7, rv_1_0, rv_4_0, rv_4_1, rv_4_2, rv_4_3, rv_4_4, rv_4_5, rv_4_6, rv_12_0, rv_12_1, rv_12_2, rv_12_3, rv_12_4, rv_12_5, rv_12_6, rv_35_0, rv_35_1, rv_35_2, rv_35_3, rv_35_4, rv_35_5, rv_35_6, rv_20_0, rv_27_0, rv_32_0, rv_22_0, rv_22_1, rv_22_2, rv_22_3, rv_22_4, rv_29_0, rv_29_1, rv_29_2, rv_34_0, rv_43_0, rv_43_13, rv_43_14, rv_43_15, rv_43_16, rv_43_17, rv_43_18, rv_43_19, rv_43_20, rv_43_21, rv_43_22, rv_43_30, if_true, Option.bind_some, nm, s3, t1, i2], rfl, hF⟩
  rw [if_neg hy] at i1 i2
  have v1 : Fw σ1 4 20 n (fun p => nv σ 9 (dg X p)) := ⟨hn, o3, fun p hp => ⟨dg X p, by have := hpm.1 p hp; omega, o4 p hp, by rw [g1 9 (by omega) (by omega)]; exact (WS_pl hW _ (hpm.1 p hp)).1⟩, fun p hp => (WS_pl hW _ (hpm.1 p hp)).2.1⟩
  have v2 : Fm σ2 n (fun p => nv σ 9 (dg X p)) := ⟨hn, by rw [t5 43 (by omega)]; exact z1, fun p hp => ⟨dg X p, by have := hpm.1 p hp; omega, t6 p hp, by rw [t5 48 (by omega), g1 48 (by omega) (by omega), (hM.2.1 _ (hpm.1 p hp)).2.2.2.1]; exact (WS_pl hW _ (hpm.1 p hp)).1⟩, fun p hp => (WS_pl hW _ (hpm.1 p hp)).2.1⟩
  have c1 := told_eq hf xv_4 xv_20 v1 y
  have c2 := tellCarried_eq hf v2 y
  exact ⟨(_, σ1), (_, σ2), by simp [fX9_carried_37, fX9_carried_0, fX9_carried, xv_0, xv_1, xv_3, xv_4, xv_12, xv_20, xv_22, xv_27, xv_29, xv_32, xv_34, xv_35, xv_43, rv_0_0, rv_0_1, rv_0_2, rv_0_3, rv_0_4, rv_0_5, rv_0_6, rv_0_7, rv_1_0, rv_4_0, rv_4_1, rv_4_2, rv_4_3, rv_4_4, rv_4_5, rv_4_6, rv_12_0, rv_12_1, rv_12_2, rv_12_3, rv_12_4, rv_12_5, rv_12_6, rv_35_0, rv_35_1, rv_35_2, rv_35_3, rv_35_4, rv_35_5, rv_35_6, rv_20_0, rv_27_0, rv_32_0, rv_22_0, rv_22_1, rv_22_2, rv_22_3, rv_22_4, rv_29_0, rv_29_1, rv_29_2, rv_34_0, rv_43_0, rv_43_13, rv_43_14, rv_43_15, rv_43_16, rv_43_17, rv_43_18, rv_43_19, rv_43_20, rv_43_21, rv_43_22, rv_43_30, if_true, Option.bind_some, nm, s1, size_eq fu xv_4, hz, r1, i1, c1] <;> rfl, by simp [fX10_carried_40, fX10_carried_38, fX10_carried_0, fX10_carried, xv_0, xv_1, xv_3, xv_4, xv_12, xv_20, xv_22, xv_27, xv_29, xv_32, xv_34, xv_35, xv_43, rv_0_0, rv_0_1, rv_0_2, rv_0_3, rv_0_4, rv_0_5, rv_0_6, rv_0_7, rv_1_0, rv_4_0, rv_4_1, rv_4_2, rv_4_3, rv_4_4, rv_4_5, rv_4_6, rv_12_0, rv_12_1, rv_12_2, rv_12_3, rv_12_4, rv_12_5, rv_12_6, rv_35_0, rv_35_1, rv_35_2, rv_35_3, rv_35_4, rv_35_5, rv_35_6, rv_20_0, rv_27_0, rv_32_0, rv_22_0, rv_22_1, rv_22_2, rv_22_3, rv_22_4, rv_29_0, rv_29_1, rv_29_2, rv_34_0, rv_43_0, rv_43_13, rv_43_14, rv_43_15, rv_43_16, rv_43_17, rv_43_18, rv_43_19, rv_43_20, rv_43_21, rv_43_22, rv_43_30, if_true, Option.bind_some, nm, s3, t1, i2, c2] <;> rfl, rfl, hF⟩
