/-! the class's best order -/
theorem least_eq (fu : Nat) {τ : St} {g : Nat} (h : τ.1 24 14 = nI g) : fX5_leastWorst fu 22 τ = some (nI g, τ) := by
  unfold fX5_leastWorst fX5_leastWorst_0
  rw [if_pos xv_22, rv_22_1, show (14 : Int32) = nI 14 from rfl, ald_nI (by omega) (by omega), h]
  rfl
theorem found_eq (fu : Nat) {τ : St} {g : Nat} (h : τ.1 23 14 = nI g) : fX5_ordersFound fu 22 τ = some (nI g, τ) := by
  unfold fX5_ordersFound fX5_ordersFound_0
  rw [if_pos xv_22, rv_22_0, show (14 : Int32) = nI 14 from rfl, ald_nI (by omega) (by omega), h]
  rfl
theorem firstTo_eq {fu : Nat} (hf : 100 ≤ fu) {nb tb : Bool} {P K : Nat → Nat} {w : Nat → Nat → Nat} {n : Nat} {τ : St} (hn : n ≤ 7) (hw : ∀ x p, w x p ≤ 999) (h : Sv nb tb P K w n τ) (hT : Tb nb tb P K w n 0 τ) {L e g : Nat} (hL : L < 2 ^ n) (he : e < n ∨ e = 7) (al : Bool) (hc : cS L n < n) (hg : g < 1000) {x : Nat} {F' : List Nat} (hF : (exts n (n - cS L n) L).find? (acc (stG (stL nb tb P K) w g) fnL (e, al) (cS L n)) = some (x :: F')) : fX5_firstToward fu 22 (nI g) (nI L) (nI e) (nI al.toNat) τ = some (nI x, τ) ∧ x < n ∧ ¬ L.testBit x = true ∧ (exts n (n - cS (L ||| 2 ^ x) n) (L ||| 2 ^ x)).find? (acc (stG (stL nb tb P K) w g) fnL (x, aT tb K e x) (cS (L ||| 2 ^ x) n)) = some F' := by
  have hL8 := p128 hn hL
  obtain ⟨k, ek⟩ : ∃ k, n - cS L n = k + 1 := ⟨n - cS L n - 1, by omega⟩
  rw [ek] at hF
  obtain ⟨x', F2, s', e1, x1, x2, x3, x4, x5⟩ := find_hd _ _ _ _ _ _ _ hF
  obtain ⟨rfl, rfl⟩ := List.cons.inj e1
  have wx : w x (cS L n) ≤ g ∧ opB nb tb P K e al x = true ∧ s' = (x, aT tb K e x) := by
    unfold stG at x3
    by_cases q : w x (cS L n) ≤ g
    · rw [if_pos q, stL_eq] at x3
      by_cases d : opB nb tb P K e al x = true
      · rw [if_pos d] at x3
        exact ⟨q, d, (Option.some.inj x3).symm⟩
      · rw [if_neg d] at x3; simp at x3
    · rw [if_neg q] at x3; simp at x3
  obtain ⟨w1, w2, rfl⟩ := wx
  have cx := cS_s x1 x2
  have ex : n - cS (L ||| 2 ^ x) n = k := by omega
  refine ⟨?_, x1, x2, by rw [ex, cx]; exact x4⟩
  obtain ⟨O, o1, o2, o3⟩ := openTo_eq fu hn h hL8 he al
  have lp : ∀ (m i : Nat), i ≤ x → x - i < m → fX5_firstToward_19 fu 22 (nI g) (nI L) (nI e) (nI al.toNat) m (nI (cS L n)) (nI O) (nI i) τ = some (nI x, τ) := by
    intro m
    induction m with
    | zero => intro i _ h; omega
    | succ m ih =>
      intro i hi hm
      show fX5_firstToward_19b fu (fX5_firstToward_19 fu 22 (nI g) (nI L) (nI e) (nI al.toNat) m) 22 (nI g) (nI L) (nI e) (nI al.toNat) (nI (cS L n)) (nI O) (nI i) τ = _
      unfold fX5_firstToward_19b fX5_firstToward_75
      rw [h.1, if_neg (nI_ge (show i < n by omega) (by omega)), isIn_eq fu (by omega) (by omega)]
      simp only [Option.bind_some, nm]
      have nx : i < x → fX5_firstToward_19 fu 22 (nI g) (nI L) (nI e) (nI al.toNat) m (nI (cS L n)) (nI O) (nI i + 1) τ = some (nI x, τ) := fun q => by
        rw [nI_1]; exact ih (i + 1) (by omega) (by omega)
      by_cases d : O.testBit i = true
      · obtain ⟨d1, d2⟩ := (o3 i (by omega)).mp d
        have hb : (L ||| 2 ^ i).testBit i = true := by rw [tb_or, decide_eq_true rfl, Bool.or_true]
        have hl := or_ltn hL (show i < n by omega)
        have ci := cS_s (show i < n by omega) d1
        have te := hT _ (by have := or_gt d1; omega) hl i (by omega) hb (aT tb K e i) (fun q => by unfold aT at q; rw [Bool.and_eq_true] at q; exact q.1)
        have hix2 : sIx (L ||| 2 ^ i) i (aT tb K e i).toNat < 2048 := by
          have := p128 hn hl
          have := tn2 (aT tb K e i)
          unfold sIx; omega
        have lw := hw i (cS L n)
        have lt := Lq_top nb tb P K w n (L ||| 2 ^ i) i (aT tb K e i)
        rw [if_pos d, if_neg (by decide), rv_22_2, show (7 : Int32) = nI 7 from rfl, pk_mul, nI_add, ald_nI (by omega) (by omega), h.2.2.2 i (cS L n) (by omega) hc (Or.inl (by omega))]
        simp only [Option.bind_some]
        rw [stThen_eq fu hn h he (by omega)]
        simp only [Option.bind_some]
        rw [rv_22_1, ald_nI hix2 (by omega), te.2]
        simp only [Option.bind_some]
        by_cases q : i = x
        · subst q
          rw [if_neg (nI_nlt w1 (by omega))]
          have := (lstA_le (stL nb tb P K) fnL w n hg (n - cS (L ||| 2 ^ i) n) (L ||| 2 ^ i) (i, aT tb K e i) (cS (L ||| 2 ^ i) n)).mpr (by
            have m1 := List.mem_of_find?_eq_some x4
            have m2 := List.find?_some x4
            rw [acc_stG, Bool.and_eq_true] at m2
            rw [ex, cx]
            exact ⟨_, m1, m2.1, of_decide_eq_true m2.2⟩)
          have : Lq nb tb P K w n (L ||| 2 ^ i) i (aT tb K e i) ≤ g := this
          rw [if_neg (nI_nlt this (by omega))]
        · by_cases a1 : g < w i (cS L n)
          · rw [if_pos (nI_lt a1 (by omega))]
            exact nx (by omega)
          · rw [if_neg (nI_nlt (by omega) (by omega))]
            by_cases a2 : g < Lq nb tb P K w n (L ||| 2 ^ i) i (aT tb K e i)
            · rw [if_pos (nI_lt a2 (by omega))]
              exact nx (by omega)
            · exfalso
              obtain ⟨l, l1, l2, l3⟩ := (lstA_le (stL nb tb P K) fnL w n hg (n - cS (L ||| 2 ^ i) n) (L ||| 2 ^ i) (i, aT tb K e i) (cS (L ||| 2 ^ i) n)).mp (Nat.not_lt.mp a2)
              refine x5 i (by omega) d1 (i, aT tb K e i) ?_ l (by rw [show k = n - cS (L ||| 2 ^ i) n by omega]; exact l1) ?_
              · unfold stG
                rw [if_pos (by omega), stL_eq, if_pos d2]
              · rw [acc_stG, Bool.and_eq_true]
                rw [ci] at l2 l3
                exact ⟨l2, decide_eq_true l3⟩
      · rw [if_neg d, if_pos rfl]
        refine nx ?_
        have : i ≠ x := fun q => d (by rw [q]; exact (o3 x x1).mpr ⟨x2, w2⟩)
        omega
  unfold fX5_firstToward fX5_firstToward_0
  rw [if_pos xv_22, bitCount_128 fu τ L (by omega), cS_8 hn hL]
  simp only [Option.bind_some]
  rw [o1]
  simp only [Option.bind_some]
  exact lp fu 0 (by omega) (by omega)
theorem Sd_or {nb tb : Bool} {P K : Nat → Nat} {w : Nat → Nat → Nat} {n : Nat} {σ τ : St} (h : Sd nb tb P K w n σ) (hr : ∀ r, r ≠ 27 → r ≠ 28 → τ.1 r = σ.1 r) : Sd nb tb P K w n τ := by
  unfold Sd Tb Te
  rw [hr 23 (by omega) (by omega), hr 24 (by omega) (by omega)]
  exact ⟨h.1.congr (hr 22 (by omega) (by omega)) (hr 25 (by omega) (by omega)) (hr 26 (by omega) (by omega)), h.2⟩
theorem bestOrder_eq {fu : Nat} (hf : 100 ≤ fu) {nb tb : Bool} {P K : Nat → Nat} {w : Nat → Nat → Nat} {n : Nat} {σ : St} (hn : n ≤ 7) (hw : ∀ x p, w x p ≤ 999) (h : Sd nb tb P K w n σ) {g : Nat} (hg : g < 1000) (eg : Lq nb tb P K w n 0 7 false = g) {F : List Nat} (hF : (exts n n 0).find? (acc (stG (stL nb tb P K) w g) fnL (7, false) 0) = some F) : ∃ τ', fX5_bestOrder fu 22 σ = some (27, τ') ∧ Or_ σ 27 n (gd F) τ' := by
  have hmem := exts_mem n 0 F (List.mem_of_find?_eq_some hF)
  have lp : ∀ (m i L e : Nat) (al : Bool) (τ : St), i ≤ n → n - i < m → cS L n = i → L < 2 ^ n → (e < n ∨ e = 7) → (exts n (n - cS L n) L).find? (acc (stG (stL nb tb P K) w g) fnL (e, al) (cS L n)) = some (F.drop i) → Or_ σ 27 i (gd F) τ → ∃ τ', fX5_bestOrder_17 fu 22 m (nI L) (nI e) (nI al.toNat) (nI i) τ = some (27, τ') ∧ Or_ σ 27 n (gd F) τ' := by
    intro m
    induction m with
    | zero => intro i L e al τ _ h; omega
    | succ m ih =>
      intro i L e al τ hi hm hc hL he hFd hO
      have hS := Sd_or h (τ := τ) (fun r a b => hO.2.1 r a b)
      show ∃ τ', fX5_bestOrder_17b fu (fX5_bestOrder_17 fu 22 m) 22 (nI L) (nI e) (nI al.toNat) (nI i) τ = _ ∧ _
      unfold fX5_bestOrder_17b
      rw [hS.1.1]
      by_cases c : i < n
      · rw [if_neg (nI_ge c (by omega)), least_eq fu (hS.2.2.2.trans (by rw [eg]))]
        simp only [Option.bind_some, nm]
        rw [drop_gd F i (by rw [hmem.1]; exact c)] at hFd
        obtain ⟨f1, f2, f3, f4⟩ := firstTo_eq hf hn hw hS.1 hS.2.1 hL he al (by omega) hg hFd
        rw [f1]
        simp only [Option.bind_some]
        rw [alone_eq fu hn hS.1 he f2]
        simp only [Option.bind_some]
        rw [bt1 _ (by omega), fa_or, rv_22_4, append_eq fu xv_27 (show i < 7 by omega) hO.2.2.1]
        simp only [Option.bind_some]
        rw [nI_1]
        exact ih (i + 1) _ _ (aT tb K e (gd F i)) _ (by omega) (by omega) (by rw [cS_s f2 f3]; omega) (or_ltn hL f2) (Or.inl f2) f4 (Or_app hO)
      · have : i = n := by omega
        subst this
        rw [if_pos (nI_le (Nat.le_refl _) (by omega))]
        exact ⟨τ, rfl, hO⟩
  unfold fX5_bestOrder fX5_bestOrder_0
  rw [if_pos xv_22, rv_22_4, clear_eq fu xv_27]
  simp only [Option.bind_some]
  have c0 : cS 0 n = 0 := by
    have : ∀ n, cS 0 n = 0 := by
      intro n
      induction n with
      | zero => rfl
      | succ n ih =>
        show cS 0 n + (if (0 : Nat).testBit n = true then 1 else 0) = 0
        rw [ih, Nat.zero_testBit]
        rfl
    exact this n
  exact lp fu 0 0 7 false _ (by omega) (by omega) c0 (Nat.two_pow_pos n) (Or.inr rfl) (by rw [c0]; exact hF) (Or_0 σ 27 _)
theorem cS_0 : ∀ n, cS 0 n = 0
  | 0 => rfl
  | n + 1 => by
    show cS 0 n + (if (0 : Nat).testBit n = true then 1 else 0) = 0
    rw [cS_0 n, Nat.zero_testBit]
    rfl
/-- an order told by the class -/
theorem num_lt : ∀ l : List Nat, (∀ p, p < l.length → gd l p < 8) → num l < 8 ^ l.length
  | [], _ => by show 0 < 1; omega
  | x :: l, h => by
    have a := num_lt l (fun p hp => h (p + 1) (by rw [List.length_cons]; omega))
    have b : x < 8 := h 0 (by rw [List.length_cons]; omega)
    show x + 8 * num l < 8 ^ (l.length + 1)
    rw [Nat.pow_succ]
    omega
theorem gd_drop : ∀ (l : List Nat) (i p : Nat), gd (l.drop i) p = gd l (i + p)
  | [], i, p => by rw [List.drop_nil]; rfl
  | x :: l, 0, p => by rw [Nat.zero_add]; rfl
  | x :: l, i + 1, p => by
    show gd (l.drop i) p = gd (x :: l) (i + 1 + p)
    rw [gd_drop l i p, show i + 1 + p = (i + p) + 1 by omega]
    rfl
theorem otold_eq {fu : Nat} (hf : 100 ≤ fu) {r n : Nat} {l : List Nat} {τ : St} (hr : xk r = 4) (hn : n ≤ 7) (h1 : 1 ≤ n) (hl : l.length = n) (hb : ∀ p, p < n → gd l p < 8) (hz : τ.1 r 1 = nI n) (hO : ∀ p, p < n → τ.1 (r + 1) p = nI (gd l p)) : fX6_told fu r τ = some (nI (num l), τ) := by
  have lp : ∀ (m i : Nat), i ≤ n → i < m → fX6_told_9 fu r m (nI (num (l.drop i))) (xi i) τ = some (nI (num l), τ) := by
    intro m
    induction m with
    | zero => intro i _ h; omega
    | succ m ih =>
      intro i hi hm
      show fX6_told_9b fu (fX6_told_9 fu r m) r _ (xi i) τ = _
      unfold fX6_told_9b
      match i, hi, hm with
      | 0, _, _ => rw [if_pos (by decide)]; rfl
      | i + 1, hi, hm =>
        have b1 := hb i (by omega)
        have lt := num_lt (l.drop (i + 1)) (fun p hp => by
          rw [List.length_drop] at hp
          rw [gd_drop]
          exact hb _ (by omega))
        rw [List.length_drop] at lt
        have lt2 : num (l.drop (i + 1)) < 8 ^ 7 := Nat.lt_of_lt_of_le lt (Nat.pow_le_pow_right (by decide) (by omega))
        rw [xi_s, if_neg (nI_pos (by omega)), rf_or hr, ald_nI (by omega) (by omega), hO i (by omega)]
        simp only [Option.bind_some, nm]
        rw [pk_shlN _ 3 s3 (by omega), fa_or, xi_d i (by omega)]
        have := ih i (by omega) (by omega)
        rw [drop_gd l i (by rw [hl]; omega), show num (gd l i :: l.drop (i + 1)) = num (l.drop (i + 1)) * 2 ^ 3 ||| gd l i from by
          rw [Nat.mul_comm, ← Nat.two_pow_add_eq_or_of_lt (show gd l i < 2 ^ 3 from b1)]
          exact Nat.add_comm _ _] at this
        exact this
  unfold fX6_told fX6_told_0
  rw [if_pos hr, hz]
  simp only [nm]
  have := lp fu n (by omega) (by omega)
  rw [List.drop_of_length_le (by rw [hl]; exact Nat.le_refl _)] at this
  obtain ⟨k, rfl⟩ : ∃ k, n = k + 1 := ⟨n - 1, by omega⟩
  rw [xi_s] at this
  rw [nI_s1 h1]
  exact this
/-- both sides tell the same of best -/
theorem best_spec {nb tb : Bool} {P K : Nat → Nat} {w : Nat → Nat → Nat} {n : Nat} (hw : ∀ x p, w x p ≤ 999) : (fbS (acc (stL nb tb P K) fnL (7, false) 0) (mxW w 0) (exts n n 0) 0 none 100000).1 = Cq nb tb P K n 0 7 false ∧ (Cq nb tb P K n 0 7 false = 0 → (fbS (acc (stL nb tb P K) fnL (7, false) 0) (mxW w 0) (exts n n 0) 0 none 100000).2.1 = none) ∧ (0 < Cq nb tb P K n 0 7 false → (fbS (acc (stL nb tb P K) fnL (7, false) 0) (mxW w 0) (exts n n 0) 0 none 100000).2.2 = Lq nb tb P K w n 0 7 false ∧ Lq nb tb P K w n 0 7 false < 1000 ∧ ∃ F, (exts n n 0).find? (acc (stG (stL nb tb P K) w (Lq nb tb P K w n 0 7 false)) fnL (7, false) 0) = some F ∧ (fbS (acc (stL nb tb P K) fnL (7, false) 0) (mxW w 0) (exts n n 0) 0 none 100000).2.1 = some F) := by
  obtain ⟨s1, s2, s3, s4⟩ := fbS_spec (acc (stL nb tb P K) fnL (7, false) 0) (mxW w 0) (exts n n 0) 0 none 100000
  have eC : Cq nb tb P K n 0 7 false = (exts n n 0).countP (acc (stL nb tb P K) fnL (7, false) 0) := by
    unfold Cq
    rw [cS_0, Nat.sub_zero, cntA_eq]
  have eL : ∀ g, g < 1000 → (Lq nb tb P K w n 0 7 false ≤ g ↔ ∃ l, l ∈ exts n n 0 ∧ acc (stL nb tb P K) fnL (7, false) 0 l = true ∧ mxW w 0 l ≤ g) := fun g hg => by
    unfold Lq
    rw [cS_0, Nat.sub_zero]
    exact lstA_le _ _ _ _ hg _ _ _ _
  refine ⟨by rw [s1, eC, Nat.zero_add], fun h0 => ?_, fun h0 => ?_⟩
  · rw [s4]
    by_cases c : (fbS (acc (stL nb tb P K) fnL (7, false) 0) (mxW w 0) (exts n n 0) 0 none 100000).2.2 < 100000
    · exfalso
      obtain ⟨l, l1, l2, _⟩ := (s3 _ c).mp (Nat.le_refl _)
      rw [eC, List.countP_eq_zero] at h0
      exact h0 l l1 l2
    · rw [if_neg c]
  · rw [eC, List.countP_pos_iff] at h0
    obtain ⟨l, l1, l2⟩ := h0
    have l3 := mxW_le hw l 0
    have a1 := (s3 999 (by omega)).mpr ⟨l, l1, l2, l3⟩
    have a2 := (eL 999 (by omega)).mpr ⟨l, l1, l2, l3⟩
    have e : (fbS (acc (stL nb tb P K) fnL (7, false) 0) (mxW w 0) (exts n n 0) 0 none 100000).2.2 = Lq nb tb P K w n 0 7 false := by
      apply Nat.le_antisymm
      · exact (s3 _ (by omega)).mpr ((eL _ (by omega)).mp (Nat.le_refl _))
      · exact (eL _ (by omega)).mpr ((s3 _ (by omega)).mp (Nat.le_refl _))
    refine ⟨e, by omega, ?_⟩
    rw [s4, if_pos (by omega), e]
    have ef : (fun l => acc (stL nb tb P K) fnL (7, false) 0 l && decide (mxW w 0 l ≤ Lq nb tb P K w n 0 7 false)) = acc (stG (stL nb tb P K) w (Lq nb tb P K w n 0 7 false)) fnL (7, false) 0 := by
      funext l
      rw [acc_stG]
    rw [ef]
    obtain ⟨l', m1, m2, m3⟩ := (eL _ (by omega)).mp (Nat.le_refl _)
    have : ((exts n n 0).find? (acc (stG (stL nb tb P K) w (Lq nb tb P K w n 0 7 false)) fnL (7, false) 0)).isSome = true := by
      rw [List.find?_isSome]
      exact ⟨l', m1, by rw [acc_stG, m2, decide_eq_true m3]; rfl⟩
    obtain ⟨F, hF⟩ := Option.isSome_iff_exists.mp this
    exact ⟨F, hF, hF⟩
