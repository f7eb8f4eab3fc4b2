/-! the class's tables of layings -/
def sIx (L e a : Nat) : Nat := (L * 8 + e) * 2 + a
theorem sIx_inj {L e a L' e' a' : Nat} (he : e < 8) (ha : a < 2) (he' : e' < 8) (ha' : a' < 2) (h : sIx L e a = sIx L' e' a') : L = L' ∧ e = e' ∧ a = a' := by
  unfold sIx at h
  omega
def Cq (nb tb : Bool) (P K : Nat → Nat) (n L e : Nat) (al : Bool) : Nat := cntA (stL nb tb P K) fnL n (n - cS L n) L (e, al) (cS L n)
def Lq (nb tb : Bool) (P K : Nat → Nat) (w : Nat → Nat → Nat) (n L e : Nat) (al : Bool) : Nat := lstA (stL nb tb P K) fnL w n (n - cS L n) L (e, al) (cS L n)
def aT (tb : Bool) (K : Nat → Nat) (e x : Nat) : Bool := Nd tb K x && !Nd tb K e
def opB (nb tb : Bool) (P K : Nat → Nat) (e : Nat) (al : Bool) (x : Nat) : Bool := Ad nb P e x && (!al || Nd tb K x)
theorem stL_eq (nb tb : Bool) (P K : Nat → Nat) (e : Nat) (al : Bool) (p x : Nat) : stL nb tb P K (e, al) p x = if opB nb tb P K e al x = true then some (x, aT tb K e x) else none := rfl
def Sv (nb tb : Bool) (P K : Nat → Nat) (w : Nat → Nat → Nat) (n : Nat) (τ : St) : Prop := τ.1 22 5 = nI n ∧ τ.1 22 6 = nI (mkM (Nd tb K) n) ∧ (∀ e, e < n ∨ e = 7 → τ.1 26 e = nI (mkM (Ad nb P e) n)) ∧ Wg w n n 0 τ
theorem Sv.congr {nb tb : Bool} {P K : Nat → Nat} {w : Nat → Nat → Nat} {n : Nat} {τ τ' : St} (h : Sv nb tb P K w n τ) (h22 : τ'.1 22 = τ.1 22) (h25 : τ'.1 25 = τ.1 25) (h26 : τ'.1 26 = τ.1 26) : Sv nb tb P K w n τ' := by
  unfold Sv Wg
  rw [h22, h25, h26]
  exact h
theorem isIn_eq (fu : Nat) {M d : Nat} (hM : M < 256) (hd : d < 8) (σ : St) : fX5_isIn fu (nI M) (nI d) σ = some (if M.testBit d = true then 1 else 0, σ) := by
  unfold fX5_isIn fX5_isIn_0 fX5_isIn_14
  by_cases c : M.testBit d = true
  · rw [if_pos ((bt2 M hM d hd).mpr c), if_pos c]; rfl
  · rw [if_neg (fun q => c ((bt2 M hM d hd).mp q)), if_neg c]; rfl
theorem clr7 : ∀ M, M < 128 → ∀ L, L < 128 → nI M &&& (nI L ^^^ (-1)) = nI (M &&& (127 ^^^ L)) := by decide +kernel
theorem tb127 : ∀ x, x < 7 → (127 : Nat).testBit x = true := by decide
theorem cl_tb (M L x : Nat) (hx : x < 7) : (M &&& (127 ^^^ L)).testBit x = (M.testBit x && !L.testBit x) := by
  rw [Nat.testBit_and, Nat.testBit_xor, tb127 x hx]
  cases L.testBit x <;> rfl
theorem and_lt {M L : Nat} (h : M < 128) : M &&& L < 128 := Nat.lt_of_le_of_lt Nat.and_le_left h
theorem Nd_tb {n : Nat} (hn : n ≤ 7) (tb : Bool) (K : Nat → Nat) {e : Nat} (he : e < n ∨ e = 7) : (mkM (Nd tb K) n).testBit e = Nd tb K e := by
  rw [mkM_tb]
  rcases he with h | h
  · rw [decide_eq_true h, Bool.true_and]
  · rw [h, decide_eq_false (by omega), Bool.false_and]; rfl
theorem openTo_eq (fu : Nat) {nb tb : Bool} {P K : Nat → Nat} {w : Nat → Nat → Nat} {n : Nat} {τ : St} (hn : n ≤ 7) (h : Sv nb tb P K w n τ) {L e : Nat} (hL : L < 128) (he : e < n ∨ e = 7) (al : Bool) : ∃ O, fX5_openTo fu 22 (nI L) (nI e) (nI al.toNat) τ = some (nI O, τ) ∧ O < 128 ∧ ∀ x, x < n → (O.testBit x = true ↔ ¬ L.testBit x = true ∧ opB nb tb P K e al x = true) := by
  obtain ⟨h5, h6, h26, _⟩ := h
  unfold fX5_openTo fX5_openTo_0 fX5_openTo_29
  rw [if_pos xv_22, rv_22_3, ald_nI (by omega) (by omega), h26 e he]
  simp only [Option.bind_some, nm]
  have lA := mkM_lt (Ad nb P e) n hn
  have lN' := mkM_lt (Nd tb K) n hn
  rw [clr7 _ lA _ hL, h6]
  have t1 : ∀ x, x < n → (mkM (Ad nb P e) n &&& (127 ^^^ L)).testBit x = (Ad nb P e x && !L.testBit x) := fun x hx => by
    rw [cl_tb _ _ _ (by omega), mkM_tb, decide_eq_true hx, Bool.true_and]
  cases al with
  | false =>
    rw [if_neg (by decide)]
    refine ⟨_, rfl, and_lt lA, fun x hx => ?_⟩
    rw [t1 x hx]
    unfold opB
    cases Ad nb P e x <;> cases L.testBit x <;> cases Nd tb K x <;> decide
  | true =>
    rw [if_pos (by decide), fa_and]
    refine ⟨_, rfl, and_lt (and_lt lA), fun x hx => ?_⟩
    rw [Nat.testBit_and, t1 x hx, Nd_tb hn tb K (Or.inl hx)]
    unfold opB
    cases Ad nb P e x <;> cases L.testBit x <;> cases Nd tb K x <;> decide
theorem alone_eq (fu : Nat) {nb tb : Bool} {P K : Nat → Nat} {w : Nat → Nat → Nat} {n : Nat} {τ : St} (hn : n ≤ 7) (h : Sv nb tb P K w n τ) {e x : Nat} (he : e < n ∨ e = 7) (hx : x < n) : fX5_aloneThen fu 22 (nI e) (nI x) τ = some (nI (aT tb K e x).toNat, τ) := by
  obtain ⟨h5, h6, h26, _⟩ := h
  have lN' := mkM_lt (Nd tb K) n hn
  unfold fX5_aloneThen fX5_aloneThen_0 fX5_aloneThen_26 fX5_aloneThen_27
  rw [if_pos xv_22, h6, isIn_eq fu (by omega) (by omega), Nd_tb hn tb K (Or.inl hx)]
  simp only [Option.bind_some]
  rw [h6, isIn_eq fu (by omega) (by omega), Nd_tb hn tb K he]
  simp only [Option.bind_some]
  unfold aT
  cases Nd tb K x <;> cases Nd tb K e <;> rfl
theorem stThen_eq (fu : Nat) {nb tb : Bool} {P K : Nat → Nat} {w : Nat → Nat → Nat} {n : Nat} {τ : St} (hn : n ≤ 7) (h : Sv nb tb P K w n τ) {L e x : Nat} (he : e < n ∨ e = 7) (hx : x < n) : fX5_stateThen fu 22 (nI L) (nI e) (nI x) τ = some (nI (sIx (L ||| 2 ^ x) x (aT tb K e x).toNat), τ) := by
  unfold fX5_stateThen fX5_stateThen_0 fX5_stateOf fX5_stateOf_0
  rw [if_pos xv_22, alone_eq fu hn h he hx]
  simp only [Option.bind_some]
  rw [bt1 x (by omega), fa_or, show (8 : Int32) = nI 8 from rfl, show (2 : Int32) = nI 2 from rfl, pk_mul, nI_add, pk_mul, nI_add]
  rfl
theorem stOf_eq (fu : Nat) (L e a : Nat) (τ : St) : fX5_stateOf fu (nI L) (nI e) (nI a) τ = some (nI (sIx L e a), τ) := by
  unfold fX5_stateOf fX5_stateOf_0
  rw [show (8 : Int32) = nI 8 from rfl, show (2 : Int32) = nI 2 from rfl, pk_mul, nI_add, pk_mul, nI_add]
  rfl
theorem jmax_nI {a b : Nat} (ha : a < 2 ^ 31) (hb : b < 2 ^ 31) : jmax (nI a) (nI b) = nI (max a b) := by
  unfold jmax
  by_cases c : a < b
  · rw [if_pos (nI_lt c hb)]; exact congrArg nI (by omega)
  · rw [if_neg (nI_nlt (by omega) ha)]; exact congrArg nI (by omega)
theorem jmin_nI {a b : Nat} (ha : a < 2 ^ 31) (hb : b < 2 ^ 31) : jmin (nI a) (nI b) = nI (min a b) := by
  unfold jmin
  by_cases c : b < a
  · rw [if_pos (nI_lt c ha)]; exact congrArg nI (by omega)
  · rw [if_neg (nI_nlt (by omega) hb)]; exact congrArg nI (by omega)
theorem or_gt {L x : Nat} (h : ¬ L.testBit x = true) : L < L ||| 2 ^ x := by
  refine Nat.lt_of_le_of_ne Nat.left_le_or (fun e => h ?_)
  rw [e, tb_or, decide_eq_true rfl, Bool.or_true]
theorem or_ltn {L x n : Nat} (h : L < 2 ^ n) (hx : x < n) : L ||| 2 ^ x < 2 ^ n := Nat.or_lt_two_pow h (Nat.pow_lt_pow_right (by decide) hx)
theorem p128 {n L : Nat} (hn : n ≤ 7) (h : L < 2 ^ n) : L < 128 := Nat.lt_of_lt_of_le h (Nat.pow_le_pow_right (by decide) hn : 2 ^ n ≤ 2 ^ 7)
theorem cS_hi {M n : Nat} (h : M < 2 ^ n) : ∀ d, cS M (n + d) = cS M n
  | 0 => rfl
  | d + 1 => by
    show cS M (n + d) + (if M.testBit (n + d) = true then 1 else 0) = _
    rw [cS_hi h d, Nat.testBit_lt_two_pow (Nat.lt_of_lt_of_le h (Nat.pow_le_pow_right (by decide) (by omega)))]
    rfl
theorem cS_8 {M n : Nat} (hn : n ≤ 7) (h : M < 2 ^ n) : cS M 8 = cS M n := by
  have := cS_hi h (8 - n)
  rw [show n + (8 - n) = 8 by omega] at this
  exact this
/-- the tables hold for the sets above L -/
def Te (nb tb : Bool) (P K : Nat → Nat) (w : Nat → Nat → Nat) (n L e : Nat) (τ : St) : Prop := ∀ al : Bool, (al = true → Nd tb K e = true) → τ.1 23 (sIx L e al.toNat) = nI (Cq nb tb P K n L e al) ∧ τ.1 24 (sIx L e al.toNat) = nI (Lq nb tb P K w n L e al)
def Tb (nb tb : Bool) (P K : Nat → Nat) (w : Nat → Nat → Nat) (n L : Nat) (τ : St) : Prop := ∀ L', L < L' → L' < 2 ^ n → ∀ e, e < n → L'.testBit e = true → Te nb tb P K w n L' e τ
theorem Cq_s (nb tb : Bool) (P K : Nat → Nat) {n L : Nat} (e : Nat) (al : Bool) (h : cS L n < n) : Cq nb tb P K n L e al = sumR (fun x => if (!L.testBit x && opB nb tb P K e al x) = true then Cq nb tb P K n (L ||| 2 ^ x) x (aT tb K e x) else 0) n := by
  unfold Cq
  rw [show n - cS L n = (n - cS L n - 1) + 1 by omega]
  show sumR _ n = _
  refine sumR_congr n (fun x hx => ?_)
  by_cases c : L.testBit x = true
  · rw [if_pos c, c]; rfl
  · have cf : L.testBit x = false := by cases q : L.testBit x; rfl; exact absurd q c
    rw [if_neg c, stL_eq, cf]
    by_cases d : opB nb tb P K e al x = true
    · rw [if_pos d, d, cS_s hx c, show n - (cS L n + 1) = n - cS L n - 1 by omega]; rfl
    · rw [if_neg d, if_neg (by rw [show opB nb tb P K e al x = false by cases q : opB nb tb P K e al x; rfl; exact absurd q d]; decide)]
theorem minR_congr {f g : Nat → Nat} : ∀ m, (∀ x, x < m → f x = g x) → minR f m = minR g m
  | 0, _ => rfl
  | m + 1, h => by
    show min (minR f m) (f m) = min (minR g m) (g m)
    rw [minR_congr m (fun x hx => h x (by omega)), h m (by omega)]
theorem Lq_s (nb tb : Bool) (P K : Nat → Nat) (w : Nat → Nat → Nat) {n L : Nat} (e : Nat) (al : Bool) (h : cS L n < n) : Lq nb tb P K w n L e al = minR (fun x => if (!L.testBit x && opB nb tb P K e al x) = true then max (w x (cS L n)) (Lq nb tb P K w n (L ||| 2 ^ x) x (aT tb K e x)) else 1000) n := by
  unfold Lq
  rw [show n - cS L n = (n - cS L n - 1) + 1 by omega]
  show minR _ n = _
  refine minR_congr n (fun x hx => ?_)
  by_cases c : L.testBit x = true
  · rw [if_pos c, c]; rfl
  · have cf : L.testBit x = false := by cases q : L.testBit x; rfl; exact absurd q c
    rw [if_neg c, stL_eq, cf]
    by_cases d : opB nb tb P K e al x = true
    · rw [if_pos d, d, cS_s hx c, show n - (cS L n + 1) = n - cS L n - 1 by omega]; rfl
    · rw [if_neg d, if_neg (by rw [show opB nb tb P K e al x = false by cases q : opB nb tb P K e al x; rfl; exact absurd q d]; decide)]
theorem Lq_top (nb tb : Bool) (P K : Nat → Nat) (w : Nat → Nat → Nat) (n L e : Nat) (al : Bool) : Lq nb tb P K w n L e al ≤ 1000 := lstA_top _ _ _ _ _ _ _ _
def sFl (n L : Nat) (al : Bool) : Nat := if cS L n = n ∧ al = false then 1 else 0
def wrS (τ : St) (i C M : Nat) : St := si (si τ 23 i (nI C)) 24 i (nI M)
theorem settle44 (fu : Nat) {nb tb : Bool} {P K : Nat → Nat} {w : Nat → Nat → Nat} {n : Nat} {τ : St} (hn : n ≤ 7) (hw : ∀ x p, w x p ≤ 999) (h : Sv nb tb P K w n τ) {L e : Nat} (hL : L < 2 ^ n) (he : e < n ∨ e = 7) (al : Bool) (hT : Tb nb tb P K w n L τ) (x4 : Int32) {O : Nat} (hO : O < 128) (hO2 : ∀ x, x < n → (O.testBit x = true ↔ ¬ L.testBit x = true ∧ opB nb tb P K e al x = true)) (s0 t0 : Nat) (ht0 : t0 ≤ 1000) : ∀ (m i : Nat), i ≤ n → n - i < m → fX5_settle_44 fu 22 (nI L) (nI e) (nI al.toNat) x4 m (nI (s0 + sumR (fun x => if (!L.testBit x && opB nb tb P K e al x) = true then Cq nb tb P K n (L ||| 2 ^ x) x (aT tb K e x) else 0) i)) (nI (min t0 (minR (fun x => if (!L.testBit x && opB nb tb P K e al x) = true then max (w x (cS L n)) (Lq nb tb P K w n (L ||| 2 ^ x) x (aT tb K e x)) else 1000) i))) (nI (cS L n)) (nI O) (nI i) τ = some (wrS τ (sIx L e al.toNat) (s0 + sumR (fun x => if (!L.testBit x && opB nb tb P K e al x) = true then Cq nb tb P K n (L ||| 2 ^ x) x (aT tb K e x) else 0) n) (min t0 (minR (fun x => if (!L.testBit x && opB nb tb P K e al x) = true then max (w x (cS L n)) (Lq nb tb P K w n (L ||| 2 ^ x) x (aT tb K e x)) else 1000) n))) := by
  have hL8 := p128 hn hL
  have ha2 : al.toNat < 2 := by cases al <;> decide
  have hix : sIx L e al.toNat < 2048 := by unfold sIx; omega
  intro m
  induction m with
  | zero => intro i _ h; omega
  | succ m ih =>
    intro i hi hm
    show fX5_settle_44b fu (fX5_settle_44 fu 22 (nI L) (nI e) (nI al.toNat) x4 m) 22 (nI L) (nI e) (nI al.toNat) x4 _ _ (nI (cS L n)) (nI O) (nI i) τ = _
    unfold fX5_settle_44b fX5_settle_115
    rw [h.1]
    by_cases c : i < n
    · rw [if_neg (nI_ge c (by omega)), isIn_eq fu (by omega) (by omega)]
      simp only [Option.bind_some, nm]
      have key := ih (i + 1) (by omega) (by omega)
      rw [show ∀ f, sumR f (i + 1) = sumR f i + f i from fun _ => rfl, show ∀ f, minR f (i + 1) = min (minR f i) (f i) from fun _ => rfl] at key
      by_cases d : O.testBit i = true
      · obtain ⟨d1, d2⟩ := (hO2 i c).mp d
        have df : L.testBit i = false := by cases q : L.testBit i; rfl; exact absurd q d1
        have hg := or_gt d1
        have hl := or_ltn hL c
        have hb : (L ||| 2 ^ i).testBit i = true := by rw [tb_or, decide_eq_true rfl, Bool.or_true]
        have te := hT _ hg hl i c hb (aT tb K e i) (fun q => by unfold aT at q; rw [Bool.and_eq_true] at q; exact q.1)
        have ha' : (aT tb K e i).toNat < 2 := by cases aT tb K e i <;> decide
        have hix2 : sIx (L ||| 2 ^ i) i (aT tb K e i).toNat < 2048 := by have := p128 hn hl; unfold sIx; omega
        have hcs := cS_le (L ||| 2 ^ i) n
        have hcs2 := cS_s c d1
        rw [if_pos d, if_neg (by decide), stThen_eq fu hn h he c]
        simp only [Option.bind_some]
        rw [rv_22_0, rv_22_1, rv_22_2, ald_nI hix2 (by omega), te.1]
        simp only [Option.bind_some]
        rw [show (7 : Int32) = nI 7 from rfl, pk_mul, nI_add, ald_nI (by omega) (by omega), h.2.2.2 i (cS L n) c (by omega) (Or.inl c)]
        simp only [Option.bind_some]
        rw [ald_nI hix2 (by omega), te.2]
        simp only [Option.bind_some]
        have l1 := Lq_top nb tb P K w n (L ||| 2 ^ i) i (aT tb K e i)
        have l2 := hw i (cS L n)
        rw [nI_add, jmax_nI (by omega) (by omega), jmin_nI (by omega) (by omega), nI_1]
        have cnd : (!L.testBit i && opB nb tb P K e al i) = true := by rw [df, d2]; rfl
        rw [if_pos cnd, if_pos cnd, ← Nat.add_assoc, ← Nat.min_assoc] at key
        exact key
      · rw [if_neg d, if_pos rfl, nI_1]
        have cnd : ¬ (!L.testBit i && opB nb tb P K e al i) = true := fun q => d ((hO2 i c).mpr (by
          rw [Bool.and_eq_true] at q
          exact ⟨fun z => by rw [z] at q; exact Bool.noConfusion q.1, q.2⟩))
        rw [if_neg cnd, if_neg cnd, Nat.add_zero, show ∀ a, min t0 (min a 1000) = min t0 a from fun a => by omega] at key
        exact key
    · have : i = n := by omega
      subst this
      rw [if_pos (nI_le (Nat.le_refl _) (by omega)), stOf_eq]
      simp only [Option.bind_some]
      rw [rv_22_0, rv_22_1, ast_nI hix (by omega)]
      simp only [Option.bind_some]
      rw [stOf_eq]
      simp only [Option.bind_some]
      rw [ast_nI hix (by omega)]
      rfl
theorem settle_eq {fu : Nat} (hf : 100 ≤ fu) {nb tb : Bool} {P K : Nat → Nat} {w : Nat → Nat → Nat} {n : Nat} {τ : St} (hn : n ≤ 7) (hn1 : 1 ≤ n) (hw : ∀ x p, w x p ≤ 999) (h : Sv nb tb P K w n τ) {L e : Nat} (hL : L < 2 ^ n) (he : e < n ∨ e = 7) (al : Bool) (hT : Tb nb tb P K w n L τ) : fX5_settle fu 22 (nI L) (nI e) (nI al.toNat) (nI (sFl n L al)) τ = some (wrS τ (sIx L e al.toNat) (Cq nb tb P K n L e al) (Lq nb tb P K w n L e al)) := by
  have hL8 := p128 hn hL
  obtain ⟨O, o1, o2, o3⟩ := openTo_eq fu hn h hL8 he al
  have red : ∀ s0 t0 : Nat, t0 ≤ 1000 → fX5_settle_24 fu 22 (nI L) (nI e) (nI al.toNat) (nI (sFl n L al)) (nI s0) (nI t0) τ = some (wrS τ (sIx L e al.toNat) (s0 + sumR (fun x => if (!L.testBit x && opB nb tb P K e al x) = true then Cq nb tb P K n (L ||| 2 ^ x) x (aT tb K e x) else 0) n) (min t0 (minR (fun x => if (!L.testBit x && opB nb tb P K e al x) = true then max (w x (cS L n)) (Lq nb tb P K w n (L ||| 2 ^ x) x (aT tb K e x)) else 1000) n))) := by
    intro s0 t0 ht
    unfold fX5_settle_24
    rw [bitCount_128 fu τ L (by omega), cS_8 hn hL]
    simp only [Option.bind_some]
    rw [o1]
    simp only [Option.bind_some]
    have := settle44 fu hn hw h hL he al hT (nI (sFl n L al)) o2 o3 s0 t0 ht fu 0 (by omega) (by omega)
    rw [show ∀ f, sumR f 0 = 0 from fun _ => rfl, show ∀ f, minR f 0 = 1000 from fun _ => rfl, Nat.add_zero, show min t0 1000 = t0 by omega] at this
    exact this
  unfold fX5_settle fX5_settle_0 fX5_settle_10
  rw [if_pos xv_22]
  by_cases full : cS L n = n
  · have bits := (cS_full L n).mp full
    have z1 : ∀ i, i ≤ n → sumR (fun x => if (!L.testBit x && opB nb tb P K e al x) = true then Cq nb tb P K n (L ||| 2 ^ x) x (aT tb K e x) else 0) i = 0 := by
      intro i
      induction i with
      | zero => intro _; rfl
      | succ i ih =>
        intro hi
        show sumR _ i + _ = 0
        rw [ih (by omega)]
        simp [bits i (by omega)]
    have z2 : ∀ i, i ≤ n → minR (fun x => if (!L.testBit x && opB nb tb P K e al x) = true then max (w x (cS L n)) (Lq nb tb P K w n (L ||| 2 ^ x) x (aT tb K e x)) else 1000) i = 1000 := by
      intro i
      induction i with
      | zero => intro _; rfl
      | succ i ih =>
        intro hi
        show min (minR _ i) _ = 1000
        rw [ih (by omega)]
        simp [bits i (by omega)]
    have c1 : Cq nb tb P K n L e al = if al = false then 1 else 0 := by
      unfold Cq
      rw [full, Nat.sub_self]
      show (if (!al) = true then 1 else 0) = _
      cases al <;> rfl
    have c2 : Lq nb tb P K w n L e al = if al = false then 0 else 1000 := by
      unfold Lq
      rw [full, Nat.sub_self]
      show (if (!al) = true then 0 else 1000) = _
      cases al <;> rfl
    rw [c1, c2]
    cases al with
    | false =>
      have fl : sFl n L false = 1 := by unfold sFl; rw [if_pos ⟨full, rfl⟩]
      have := red 1 0 (by omega)
      rw [z1 n (by omega), z2 n (by omega), fl] at this
      rw [fl, if_neg (by decide), if_neg (by decide)]
      exact this
    | true =>
      have fl : sFl n L true = 0 := by unfold sFl; rw [if_neg (fun q => Bool.noConfusion q.2)]
      have := red 0 1000 (by omega)
      rw [z1 n (by omega), z2 n (by omega), fl] at this
      rw [fl, if_pos (by decide), if_pos (by decide)]
      exact this
  · have hc : cS L n < n := by have := cS_le L n; omega
    have fl : sFl n L al = 0 := by unfold sFl; rw [if_neg (fun q => full q.1)]
    have := red 0 1000 (by omega)
    rw [Nat.zero_add, ← Cq_s nb tb P K e al hc, ← Lq_s nb tb P K w e al hc] at this
    rw [show min 1000 (Lq nb tb P K w n L e al) = Lq nb tb P K w n L e al by have := Lq_top nb tb P K w n L e al; omega, fl] at this
    rw [fl, if_pos (by decide), if_pos (by decide)]
    exact this
