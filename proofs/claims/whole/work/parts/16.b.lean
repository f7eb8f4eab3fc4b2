/-! last year -/
def fitB (β : St) (o j p : Nat) : Bool := decide (β.1 (o + 4) j = -1 ∨ wornI (β.1 (o + 1) j) (β.1 (o + 4) j) (β.1 (o + 7) p) = β.1 (o + 2) j)
theorem fits_eq (fu : Nat) {o : Nat} (ho : xk o = 6) {j p : Nat} (hj : j < 7) (hp : p < 7) (σ : St) : fX3_fits fu o (nI j) (nI p) σ = some (if fitB σ o j p = true then 1 else 0, σ) := by
  have q0 : ∀ a, ald σ a 7 (nI j) = some (σ.1 a j) := fun a => ald_nI hj (by omega)
  unfold fX3_fits fX3_fits_0 fX3_fits_26 fX3_fits_31 fX8_wasOf fX8_wasOf_0 fX8_aboveOf fX8_aboveOf_0
  rw [if_pos ho, if_pos ho, rs3 ho, q0]
  simp only [Option.bind_some]
  unfold fitB
  by_cases c : σ.1 (o + 4) j = -1
  · rw [if_pos c, if_pos (Or.inr trivial), if_pos (decide_eq_true (Or.inl c))]
  · rw [if_neg c, wornHead_eq fu ho _ hj hp]
    simp only [Option.bind_some, if_pos ho]
    rw [rs1 ho, q0]
    simp only [Option.bind_some]
    by_cases d : wornI (σ.1 (o + 1) j) (σ.1 (o + 4) j) (σ.1 (o + 7) p) = σ.1 (o + 2) j
    · rw [if_pos d, if_pos (Or.inr trivial), if_pos (decide_eq_true (Or.inr d))]
    · rw [if_neg d, if_pos (Or.inl trivial), if_neg (fun q => by
        rcases of_decide_eq_true q with z | z
        · exact c z
        · exact d z)]
theorem placesFit_eq {fu : Nat} (hf : 100 ≤ fu) {o n : Nat} (ho : xk o = 6) {σ : St} (hn : n ≤ 7) (hz : σ.1 o 7 = nI n) {j : Nat} (hj : j < 7) : fX3_placesFitting fu o (nI j) σ = some (nI (mkM (fitB σ o j) n), σ) := by
  have lp : ∀ (m i : Nat), i ≤ n → n - i < m → fX3_placesFitting_4 fu o (nI j) m (nI (mkM (fitB σ o j) i)) (nI i) σ = some (nI (mkM (fitB σ o j) n), σ) := by
    intro m
    induction m with
    | zero => intro i _ h; omega
    | succ m ih =>
      intro i hi hm
      show fX3_placesFitting_4b fu (fX3_placesFitting_4 fu o (nI j) m) o (nI j) _ (nI i) σ = _
      unfold fX3_placesFitting_4b fX3_placesFitting_27
      rw [size_eq fu ho, hz]
      simp only [Option.bind_some, nm]
      by_cases c : i < n
      · rw [if_neg (nI_ge c (by omega)), fits_eq fu ho hj (by omega)]
        simp only [Option.bind_some]
        have key := ih (i + 1) (by omega) (by omega)
        rw [show mkM (fitB σ o j) (i + 1) = if fitB σ o j i = true then mkM (fitB σ o j) i ||| 2 ^ i else mkM (fitB σ o j) i from rfl] at key
        by_cases d : fitB σ o j i = true
        · rw [if_pos d, if_neg (by decide), bt1 i (by omega), fa_or, nI_1]
          rw [if_pos d] at key
          exact key
        · rw [if_neg d, if_pos rfl, nI_1]
          rw [if_neg d] at key
          exact key
      · have : i = n := by omega
        subst this
        rw [if_pos (nI_le (Nat.le_refl _) (by omega))]
  unfold fX3_placesFitting fX3_placesFitting_0
  rw [if_pos ho]
  exact lp fu 0 (by omega) (by omega)
def pfS (β : St) (n j : Nat) : Nat := mkM (fitB β 4 j) n
theorem lyStudy_eq {fu : Nat} (hf : 200 ≤ fu) {n : Nat} {σ : St} (hn : n ≤ 7) (hz : σ.1 4 7 = nI n) : ∃ τ', fX3_study fu 29 4 σ = some τ' ∧ (∀ r, r ≠ 29 → r ≠ 30 → r ≠ 31 → τ'.1 r = σ.1 r) ∧ Pm (pfS σ n) n τ' ∧ Wy (pfS σ n) n 0 τ' := by
  have lp : ∀ (m i : Nat) (τ : St), i ≤ n → n - i < m → (∀ r, r ≠ 29 → r ≠ 31 → τ.1 r = σ.1 r) → τ.1 29 3 = nI n → (∀ j, j < i → τ.1 31 j = nI (pfS σ n j)) → ∃ τ', fX3_study_10 fu 29 4 m (nI i) τ = some τ' ∧ (∀ r, r ≠ 29 → r ≠ 30 → r ≠ 31 → τ'.1 r = σ.1 r) ∧ Pm (pfS σ n) n τ' ∧ Wy (pfS σ n) n 0 τ' := by
    intro m
    induction m with
    | zero => intro i _ _ h; omega
    | succ m ih =>
      intro i τ hi hm h1 h2 h3
      show ∃ τ', fX3_study_10b fu (fX3_study_10 fu 29 4 m) 29 4 (nI i) τ = _ ∧ _ ∧ _ ∧ _
      unfold fX3_study_10b
      rw [h2]
      by_cases c : i < n
      · have z : τ.1 4 7 = nI n := by rw [h1 4 (by omega) (by omega)]; exact hz
        have ef : fitB τ 4 i = fitB σ 4 i := by
          funext p
          unfold fitB
          rw [show (4 + 4 : Nat) = 8 from rfl, h1 8 (by omega) (by omega), show (4 + 1 : Nat) = 5 from rfl, h1 5 (by omega) (by omega), show (4 + 7 : Nat) = 11 from rfl, h1 11 (by omega) (by omega), show (4 + 2 : Nat) = 6 from rfl, h1 6 (by omega) (by omega)]
        rw [if_neg (nI_ge c (by omega)), placesFit_eq (by omega) xv_4 hn z (by omega), ef]
        simp only [Option.bind_some, nm]
        rw [rv_29_1, ast_nI (by omega) (by omega)]
        simp only [Option.bind_some]
        rw [nI_1]
        refine ih (i + 1) _ (by omega) (by omega) (fun r a b => by rw [si_row, if_neg b]; exact h1 r a b) h2 (fun j hj => ?_)
        show upd (τ.1 31) i _ j = _
        rw [upd_app]
        by_cases q : j = i
        · rw [if_pos q, q]; rfl
        · rw [if_neg q]; exact h3 j (by omega)
      · have : i = n := by omega
        subst this
        rw [if_pos (nI_le (Nat.le_refl _) (by omega))]
        have hPm : Pm (pfS σ i) i τ := ⟨h2, fun j hj => ⟨h3 j hj, mkM_lt _ _ hn⟩⟩
        obtain ⟨τ', k1, k2, k3⟩ := countWays_eq hf hn hPm
        rw [k1]
        refine ⟨τ', rfl, fun r a b c => (k2 r b).trans (h1 r a c), ?_, k3⟩
        unfold Pm
        rw [k2 29 (by omega), k2 31 (by omega)]
        exact hPm
  unfold fX3_study fX3_study_0
  rw [if_pos xv_29, if_pos xv_4, size_eq fu xv_4, hz]
  simp only [Option.bind_some, nm]
  exact lp fu 0 _ (by omega) (by omega) (fun r a b => by rw [si_row, if_neg a]) rfl (fun j hj => by omega)
/-- the reference's test of an order -/
def Ml (β τ : St) (n : Nat) : Prop := τ.1 43 12 = nI n ∧ (∀ j, j < n → τ.1 45 j = β.1 5 j ∧ τ.1 46 j = β.1 6 j ∧ τ.1 49 j = β.1 8 j) ∧ ∀ p, p < 7 → τ.1 50 p = β.1 11 p
theorem Ml.f51 {β τ τ' : St} {n : Nat} (h : Ml β τ n) (h2 : ∀ r, r ≠ 51 → τ'.1 r = τ.1 r) : Ml β τ' n := by
  unfold Ml
  rw [h2 43 (by omega), h2 45 (by omega), h2 46 (by omega), h2 49 (by omega), h2 50 (by omega)]
  exact h
theorem isLast_eq {fu : Nat} (hf : 100 ≤ fu) {n : Nat} {l : List Nat} {β τ : St} (hn : n ≤ 7) (h : Ml β τ n) (hO : Od τ n l) (hl : ∀ p, p < n → gd l p < n) : ∃ k, fX10_isLast fu 43 τ = some (k, τ) ∧ (k = 0 ∨ k = 1) ∧ (k = 1 ↔ ∀ p, p < n → fitB β 4 (gd l p) p = true) := by
  have lp : ∀ (m i : Nat) (x : Int32), i ≤ n → n - i < m → (x = 0 ∨ x = 1) → (x = 1 ↔ ∀ p, p < i → fitB β 4 (gd l p) p = true) → ∃ k, fX10_isLast_4 fu 43 m x (nI i) τ = some (k, τ) ∧ (k = 0 ∨ k = 1) ∧ (k = 1 ↔ ∀ p, p < n → fitB β 4 (gd l p) p = true) := by
    intro m
    induction m with
    | zero => intro i _ _ h; omega
    | succ m ih =>
      intro i x hi hm hx hx1
      show ∃ k, fX10_isLast_4b fu (fX10_isLast_4 fu 43 m) 43 x (nI i) τ = _ ∧ _ ∧ _
      unfold fX10_isLast_4b fX10_isLast_63 fX10_isLast_67 fX10_isLast_68
      rw [h.1]
      simp only [nm]
      by_cases c : i < n
      · have hg := hl i c
        obtain ⟨m1, m2, m3⟩ := h.2.1 _ hg
        have m4 := h.2.2 i (by omega)
        have q0 : ∀ a, ald τ a 7 (nI (gd l i)) = some (τ.1 a (gd l i)) := fun a => ald_nI (by omega) (by omega)
        rw [if_neg (nI_ge c (by omega)), rv_43_19, rv_43_17, rv_43_13, rv_43_18, rv_43_14, ald_nI (by omega) (by omega), hO.2.2 i c]
        simp only [Option.bind_some, q0, m1, m2, m3, worn_eq]
        rw [ald_nI (show i < 7 by omega) (by omega), m4]
        simp only [Option.bind_some]
        rw [nI_1]
        by_cases e : x = 0
        · rw [if_pos e]
          refine ih (i + 1) 0 (by omega) (by omega) (Or.inl rfl) ⟨fun q => absurd q (by decide), fun q => ?_⟩
          have := hx1.mpr (fun p hp => q p (by omega))
          rw [e] at this
          exact this
        · rw [if_neg e]
          have e1 := hx.resolve_left e
          have all := hx1.mp e1
          have stp : ∀ (y : Int32), (y = 0 ∨ y = 1) → (y = 1 ↔ fitB β 4 (gd l i) i = true) → ∃ k, fX10_isLast_4 fu 43 m y (nI (i + 1)) τ = some (k, τ) ∧ (k = 0 ∨ k = 1) ∧ (k = 1 ↔ ∀ p, p < n → fitB β 4 (gd l p) p = true) := fun y hy hy1 => ih (i + 1) y (by omega) (by omega) hy ⟨fun q p hp => by
            by_cases z : p = i
            · rw [z]; exact hy1.mp q
            · exact all p (by omega), fun q => hy1.mpr (q i (by omega))⟩
          by_cases f : β.1 8 (gd l i) = -1
          · rw [if_pos f]
            exact stp 1 (Or.inr rfl) ⟨fun _ => decide_eq_true (Or.inl f), fun _ => rfl⟩
          · rw [if_neg f]
            by_cases g : wornI (β.1 5 (gd l i)) (β.1 8 (gd l i)) (β.1 11 i) = β.1 6 (gd l i)
            · rw [if_pos g]
              exact stp 1 (Or.inr rfl) ⟨fun _ => decide_eq_true (Or.inr g), fun _ => rfl⟩
            · rw [if_neg g]
              exact stp 0 (Or.inl rfl) ⟨fun q => absurd q (by decide), fun q => by
                rcases of_decide_eq_true q with z | z
                · exact absurd z f
                · exact absurd z g⟩
      · have : i = n := by omega
        subst this
        rw [if_pos (nI_le (Nat.le_refl _) (by omega)), if_pos hx]
        exact ⟨x, rfl, hx, hx1⟩
  unfold fX10_isLast fX10_isLast_0
  rw [if_pos xv_43]
  exact lp fu 0 1 (by omega) (by omega) (Or.inr rfl) ⟨fun _ p hp => by omega, fun _ => rfl⟩
theorem ok_fit {β : St} {n : Nat} {l : List Nat} (hlen : l.length = n) (hl : ∀ p, p < n → gd l p < n) : acc (stF (pft (pfS β n))) fnF () 0 l = true ↔ ∀ p, p < n → fitB β 4 (gd l p) p = true := by
  rw [acc_stF, hlen]
  have e : ∀ p, p < n → pft (pfS β n) (gd l p) (0 + p) = fitB β 4 (gd l p) p := fun p hp => by
    unfold pft pfS
    rw [mkM_tb, Nat.zero_add, decide_eq_true hp, Bool.true_and]
  exact ⟨fun h p hp => by rw [← e p hp]; exact h p hp, fun h p hp => by rw [e p hp]; exact h p hp⟩
/-- count them, keep the first -/
def lsS (ok : List Nat → Bool) : List (List Nat) → Nat → Option (List Nat) → Nat × Option (List Nat)
  | [], c, b => (c, b)
  | l :: r, c, b => if ok l = true then lsS ok r (c + 1) (if c = 0 then some l else b) else lsS ok r c b
theorem lsS_pos (ok : List Nat → Bool) : ∀ (r : List (List Nat)) (c : Nat) (b : Option (List Nat)), 0 < c → lsS ok r c b = (c + r.countP ok, b)
  | [], c, b, _ => rfl
  | l :: r, c, b, h => by
    unfold lsS
    rw [List.countP_cons]
    by_cases k : ok l = true
    · rw [if_pos k, if_pos k, if_neg (by omega), lsS_pos ok r (c + 1) b (by omega)]
      exact Prod.ext (by show c + 1 + r.countP ok = c + (r.countP ok + 1); omega) rfl
    · rw [if_neg k, if_neg k, lsS_pos ok r c b h]
      rfl
theorem lsS_0 (ok : List Nat → Bool) : ∀ (r : List (List Nat)), lsS ok r 0 none = (r.countP ok, r.find? ok)
  | [] => rfl
  | l :: r => by
    unfold lsS
    rw [List.countP_cons, List.find?_cons]
    by_cases k : ok l = true
    · rw [if_pos k, if_pos k, if_pos rfl, lsS_pos ok r 1 _ (by omega), k]
      exact Prod.ext (by show 1 + r.countP ok = r.countP ok + 1; omega) rfl
    · rw [if_neg k, if_neg k, lsS_0 ok r, show ok l = false by cases q : ok l; rfl; exact absurd q k]
      rfl
theorem last_lp {fu : Nat} (hf : 100 ≤ fu) {n : Nat} {β σ : St} (hn : n ≤ 7) (hn2 : 2 ≤ n) (h : Ml β σ n) (x1 : Int32) : ∀ (Ls : List (List Nat)) (m c : Nat) (bb : Option (List Nat)) (τ : St), chk n Ls = true → (∀ l, l ∈ Ls → l.length = n ∧ okM n 0 l) → Ls.length < m → c + Ls.length < 2 ^ 31 → (∀ r, r ≠ 51 → τ.1 r = σ.1 r) → (∀ l r, Ls = l :: r → Od τ n l) → ∃ τ', fX10_last_56 fu 43 x1 m (nI c) (n23 bb) 1 τ = some (if x1 = 0 then nI (lsS (acc (stF (pft (pfS β n))) fnF () 0) Ls c bb).1 else n23 (lsS (acc (stF (pft (pfS β n))) fnF () 0) Ls c bb).2, τ') ∧ ∀ r, r ≠ 51 → τ'.1 r = σ.1 r := by
  intro Ls
  induction Ls with
  | nil => intro m c bb τ hc; exact Bool.noConfusion hc
  | cons l r ih =>
    intro m c bb τ hc hmem hlen hcl hB hO
    obtain ⟨m, rfl⟩ : ∃ m', m = m' + 1 := ⟨m - 1, by rw [List.length_cons] at hlen; omega⟩
    rw [List.length_cons] at hlen hcl
    have hO := hO l r rfl
    have hl := hmem l List.mem_cons_self
    have hgd := okM_Od hO hl
    have hM := h.f51 hB
    have cont : ∀ (c1 : Nat) (bb1 : Option (List Nat)), c1 + r.length < 2 ^ 31 → ∃ τ', fX10_last_84 fu (fX10_last_56 fu 43 x1 m) 43 x1 (nI c1) (n23 bb1) τ = some (if x1 = 0 then nI (lsS (acc (stF (pft (pfS β n))) fnF () 0) r c1 bb1).1 else n23 (lsS (acc (stF (pft (pfS β n))) fnF () 0) r c1 bb1).2, τ') ∧ ∀ r, r ≠ 51 → τ'.1 r = σ.1 r := by
      intro c1 bb1 hc1
      obtain ⟨y1, y2⟩ := next_eq hf hn hn2 hM.1 hO
      unfold fX10_last_84
      cases r with
      | nil =>
        rw [y1 (chk_nil hc)]
        obtain ⟨m, rfl⟩ : ∃ m', m = m' + 1 := ⟨m - 1, by rw [List.length_nil] at hlen; omega⟩
        refine ⟨τ, ?_, hB⟩
        show fX10_last_56b fu (fX10_last_56 fu 43 x1 m) 43 x1 (nI c1) (n23 bb1) 0 τ = _
        unfold fX10_last_56b fX10_last_102
        rw [if_pos rfl]
        by_cases z : x1 = 0
        · rw [if_pos z, if_pos z]; rfl
        · rw [if_neg z, if_neg z]; rfl
      | cons l' r' =>
        obtain ⟨z1, z2⟩ := chk_cons hc
        obtain ⟨τ2, t1, t2, t3⟩ := y2 l' z1
        rw [t1]
        exact ih m c1 bb1 τ2 z2 (fun q hq => hmem q (List.mem_cons_of_mem _ hq)) (by omega) hc1 (fun r hr => (t3 r hr).trans (hB r hr)) (fun l'' r'' e => by
          have : l' = l'' := (List.cons.inj e).1
          rw [← this]; exact t2)
    show ∃ τ', fX10_last_56b fu (fX10_last_56 fu 43 x1 m) 43 x1 (nI c) (n23 bb) 1 τ = _ ∧ _
    unfold fX10_last_56b fX10_last_80
    rw [if_neg (by decide)]
    obtain ⟨k, l1, l2, l3⟩ := isLast_eq hf hn hM hO hgd
    have l4 := l3.trans (ok_fit (β := β) hl.1 hgd).symm
    rw [l1]
    simp only [Option.bind_some, nm]
    by_cases ek : k = 0
    · rw [if_pos ek]
      have ha : ¬ acc (stF (pft (pfS β n))) fnF () 0 l = true := fun q => by
        have := l4.mpr q
        rw [ek] at this
        exact absurd this (by decide)
      have e : lsS (acc (stF (pft (pfS β n))) fnF () 0) (l :: r) c bb = lsS (acc (stF (pft (pfS β n))) fnF () 0) r c bb := by
        conv => lhs; unfold lsS
        rw [if_neg ha]
      rw [e]
      exact cont c bb (by omega)
    · rw [if_neg ek]
      have ha := l4.mp (l2.resolve_left ek)
      have e : lsS (acc (stF (pft (pfS β n))) fnF () 0) (l :: r) c bb = lsS (acc (stF (pft (pfS β n))) fnF () 0) r (c + 1) (if c = 0 then some l else bb) := by
        conv => lhs; unfold lsS
        rw [if_pos ha]
      rw [e, nI_1]
      by_cases q : c = 0
      · rw [if_pos (by rw [q]; rfl), if_pos q, numberOf_eq hf hn (by omega) hM.1 hO]
        exact cont (c + 1) (some l) (by omega)
      · rw [if_neg (nI_ne0 (by omega) (by omega)), if_neg q]
        exact cont (c + 1) bb (by omega)
theorem lfound_eq (fu : Nat) {τ : St} {g : Nat} (h : τ.1 30 0 = nI g) : fX3_ordersFound fu 29 τ = some (nI g, τ) := by
  unfold fX3_ordersFound fX3_ordersFound_0
  rw [if_pos xv_29, rv_29_0, show (0 : Int32) = nI 0 from rfl, ald_nI (by omega) (by omega), h]
  rfl
theorem Cf_0 (ft : Nat → Nat → Bool) (n : Nat) : Cf ft n 0 = (exts n n 0).countP (acc (stF ft) fnF () 0) := by
  unfold Cf
  rw [cS_0, Nat.sub_zero, cntA_eq]
theorem fitB_congr {β τ : St} (h5 : τ.1 5 = β.1 5) (h6 : τ.1 6 = β.1 6) (h8 : τ.1 8 = β.1 8) (h11 : τ.1 11 = β.1 11) : fitB τ 4 = fitB β 4 := by
  funext j p
  unfold fitB
  rw [show (4 + 4 : Nat) = 8 from rfl, h8, show (4 + 1 : Nat) = 5 from rfl, h5, show (4 + 7 : Nat) = 11 from rfl, h11, show (4 + 2 : Nat) = 6 from rfl, h6]
theorem pfS_congr {β τ : St} (n : Nat) (h5 : τ.1 5 = β.1 5) (h6 : τ.1 6 = β.1 6) (h8 : τ.1 8 = β.1 8) (h11 : τ.1 11 = β.1 11) : pfS τ n = pfS β n := by
  funext j
  unfold pfS
  rw [fitB_congr h5 h6 h8 h11]
theorem within01 {x : Int32} (hx : ¬ (x < 0 ∨ 1 < x)) (x0 : ¬ x = 0) : x = 1 := by
  obtain ⟨j, j1, j2⟩ := in_nI 1 (fun q => hx (Or.inl q)) (by
    rcases Classical.em (x ≤ nI 1) with q | q
    · exact q
    · exact absurd (Or.inr (not_le_lt.mp q)) hx) (by omega)
  have : j = 1 := by
    rcases Nat.lt_or_ge j 1 with q | q
    · exact absurd (by rw [j2, show j = 0 by omega]; rfl) x0
    · omega
  rw [j2, this]
  rfl
theorem sm_last {fu : Nat} (hf : 6000 ≤ fu) : Sm_last fu Inv := by
  intro σ x hI
  obtain ⟨⟨n, hW, hM⟩, hP, hL, hC, hIm⟩ := id hI
  obtain ⟨hn, hz, w1, w2, w3, w4⟩ := id hW
  obtain ⟨c1, c2, ⟨k, d1, d2, d3⟩, c4⟩ := id hC
  have s1 := isTooShort_eq fu hn hz
  have s2 := lacks_eq fu hn hM.1
  by_cases h : n < 2
  · rw [if_pos h] at s1 s2
    exact ⟨(-103, σ), (-103, σ), by simp [fX9_last_91, fX9_last_0, fX9_last, xv_0, xv_1, xv_3, xv_4, xv_12, xv_20, xv_22, xv_27, xv_29, xv_32, xv_34, xv_35, xv_43, rv_0_0, rv_0_1, rv_0_2, rv_0_3, rv_0_4, rv_0_5, rv_0_6, rv_0_7, rv_1_0, rv_4_0, rv_4_1, rv_4_2, rv_4_3, rv_4_4, rv_4_5, rv_4_6, rv_12_0, rv_12_1, rv_12_2, rv_12_3, rv_12_4, rv_12_5, rv_12_6, rv_35_0, rv_35_1, rv_35_2, rv_35_3, rv_35_4, rv_35_5, rv_35_6, rv_20_0, rv_27_0, rv_32_0, rv_22_0, rv_22_1, rv_22_2, rv_22_3, rv_22_4, rv_29_0, rv_29_1, rv_29_2, rv_34_0, rv_43_0, rv_43_13, rv_43_14, rv_43_15, rv_43_16, rv_43_17, rv_43_18, rv_43_19, rv_43_20, rv_43_21, rv_43_22, rv_43_30, if_true, Option.bind_some, nm, s1], by simp [fX10_last_84, fX10_last_80, fX10_last_102, fX10_last_56b, fX10_last_56, fX10_last_0, fX10_last, xv_0, xv_1, xv_3, xv_4, xv_12, xv_20, xv_22, xv_27, xv_29, xv_32, xv_34, xv_35, xv_43, rv_0_0, rv_0_1, rv_0_2, rv_0_3, rv_0_4, rv_0_5, rv_0_6, rv_0_7, rv_1_0, rv_4_0, rv_4_1, rv_4_2, rv_4_3, rv_4_4, rv_4_5, rv_4_6, rv_12_0, rv_12_1, rv_12_2, rv_12_3, rv_12_4, rv_12_5, rv_12_6, rv_35_0, rv_35_1, rv_35_2, rv_35_3, rv_35_4, rv_35_5, rv_35_6, rv_20_0, rv_27_0, rv_32_0, rv_22_0, rv_22_1, rv_22_2, rv_22_3, rv_22_4, rv_29_0, rv_29_1, rv_29_2, rv_34_0, rv_43_0, rv_43_13, rv_43_14, rv_43_15, rv_43_16, rv_43_17, rv_43_18, rv_43_19, rv_43_20, rv_43_21, rv_43_22, rv_43_30, if_true, Option.bind_some, nm, s2], rfl, hI⟩
  rw [if_neg h] at s1 s2
  have i1 := isWithin_eq fu x 0 1 σ
  have i2 : ∀ τ : St, fX10_in fu x.toInt64 (0 : Int64) (1 : Int64) τ = _ := fun τ => in_eq32 fu x 0 1 τ
  by_cases hx : x < 0 ∨ 1 < x
  · have i2 := i2 σ
    rw [if_pos hx] at i1 i2
    exact ⟨(-102, σ), (-102, σ), by simp [fX9_last_91, fX9_last_0, fX9_last, xv_0, xv_1, xv_3, xv_4, xv_12, xv_20, xv_22, xv_27, xv_29, xv_32, xv_34, xv_35, xv_43, rv_0_0, rv_0_1, rv_0_2, rv_0_3, rv_0_4, rv_0_5, rv_0_6, rv_0_7, rv_1_0, rv_4_0, rv_4_1, rv_4_2, rv_4_3, rv_4_4, rv_4_5, rv_4_6, rv_12_0, rv_12_1, rv_12_2, rv_12_3, rv_12_4, rv_12_5, rv_12_6, rv_35_0, rv_35_1, rv_35_2, rv_35_3, rv_35_4, rv_35_5, rv_35_6, rv_20_0, rv_27_0, rv_32_0, rv_22_0, rv_22_1, rv_22_2, rv_22_3, rv_22_4, rv_29_0, rv_29_1, rv_29_2, rv_34_0, rv_43_0, rv_43_13, rv_43_14, rv_43_15, rv_43_16, rv_43_17, rv_43_18, rv_43_19, rv_43_20, rv_43_21, rv_43_22, rv_43_30, if_true, Option.bind_some, nm, s1, i1], by simp [fX10_last_84, fX10_last_80, fX10_last_102, fX10_last_56b, fX10_last_56, fX10_last_0, fX10_last, xv_0, xv_1, xv_3, xv_4, xv_12, xv_20, xv_22, xv_27, xv_29, xv_32, xv_34, xv_35, xv_43, rv_0_0, rv_0_1, rv_0_2, rv_0_3, rv_0_4, rv_0_5, rv_0_6, rv_0_7, rv_1_0, rv_4_0, rv_4_1, rv_4_2, rv_4_3, rv_4_4, rv_4_5, rv_4_6, rv_12_0, rv_12_1, rv_12_2, rv_12_3, rv_12_4, rv_12_5, rv_12_6, rv_35_0, rv_35_1, rv_35_2, rv_35_3, rv_35_4, rv_35_5, rv_35_6, rv_20_0, rv_27_0, rv_32_0, rv_22_0, rv_22_1, rv_22_2, rv_22_3, rv_22_4, rv_29_0, rv_29_1, rv_29_2, rv_34_0, rv_43_0, rv_43_13, rv_43_14, rv_43_15, rv_43_16, rv_43_17, rv_43_18, rv_43_19, rv_43_20, rv_43_21, rv_43_22, rv_43_30, if_true, Option.bind_some, nm, s2, i2], rfl, hI⟩
  rw [if_neg hx] at i1
  simp only [if_neg hx] at i2
  by_cases hk : k = 40
  · subst hk
    refine ⟨(-103, σ), (-103, σ), ?_, ?_, rfl, hI⟩
    · simp only [fX9_last_91, fX9_last_0, fX9_last, xv_0, xv_1, xv_3, xv_4, xv_12, xv_20, xv_22, xv_27, xv_29, xv_32, xv_34, xv_35, xv_43, rv_0_0, rv_0_1, rv_0_2, rv_0_3, rv_0_4, rv_0_5, rv_0_6, rv_0_7, rv_1_0, rv_4_0, rv_4_1, rv_4_2, rv_4_3, rv_4_4, rv_4_5, rv_4_6, rv_12_0, rv_12_1, rv_12_2, rv_12_3, rv_12_4, rv_12_5, rv_12_6, rv_35_0, rv_35_1, rv_35_2, rv_35_3, rv_35_4, rv_35_5, rv_35_6, rv_20_0, rv_27_0, rv_32_0, rv_22_0, rv_22_1, rv_22_2, rv_22_3, rv_22_4, rv_29_0, rv_29_1, rv_29_2, rv_34_0, rv_43_0, rv_43_13, rv_43_14, rv_43_15, rv_43_16, rv_43_17, rv_43_18, rv_43_19, rv_43_20, rv_43_21, rv_43_22, rv_43_30, if_true, Option.bind_some, nm, s1, i1, d2]
      rfl
    · simp only [fX10_last_84, fX10_last_80, fX10_last_102, fX10_last_56b, fX10_last_56, fX10_last_0, fX10_last, xv_0, xv_1, xv_3, xv_4, xv_12, xv_20, xv_22, xv_27, xv_29, xv_32, xv_34, xv_35, xv_43, rv_0_0, rv_0_1, rv_0_2, rv_0_3, rv_0_4, rv_0_5, rv_0_6, rv_0_7, rv_1_0, rv_4_0, rv_4_1, rv_4_2, rv_4_3, rv_4_4, rv_4_5, rv_4_6, rv_12_0, rv_12_1, rv_12_2, rv_12_3, rv_12_4, rv_12_5, rv_12_6, rv_35_0, rv_35_1, rv_35_2, rv_35_3, rv_35_4, rv_35_5, rv_35_6, rv_20_0, rv_27_0, rv_32_0, rv_22_0, rv_22_1, rv_22_2, rv_22_3, rv_22_4, rv_29_0, rv_29_1, rv_29_2, rv_34_0, rv_43_0, rv_43_13, rv_43_14, rv_43_15, rv_43_16, rv_43_17, rv_43_18, rv_43_19, rv_43_20, rv_43_21, rv_43_22, rv_43_30, if_true, Option.bind_some, nm, s2, i2, d3]
      rfl
  obtain ⟨σ1, e1⟩ : ∃ σ1, σ1 = si σ 0 11 (nI (k + 1)) := ⟨_, rfl⟩
  have g1 : ∀ r, r ≠ 0 → σ1.1 r = σ.1 r := fun r hr => by rw [e1, si_row, if_neg hr]
  obtain ⟨σ2, a1, a2, a3, a4⟩ := lyStudy_eq (fu := fu) (by omega) hn (σ := σ1) (by rw [g1 4 (by omega)]; exact hz)
  rw [pfS_congr n (g1 5 (by omega)) (g1 6 (by omega)) (g1 8 (by omega)) (g1 11 (by omega))] at a3 a4
  obtain ⟨q, eq⟩ : ∃ q, q = Cf (pft (pfS σ n)) n 0 := ⟨_, rfl⟩
  have hq : q < 2 ^ 31 := by rw [eq]; exact Cf_lt _ hn 0
  have fo := lfound_eq fu (a4 0 (by omega) (Nat.two_pow_pos n))
  rw [← eq] at fo
  have eqc : q = (exts n n 0).countP (acc (stF (pft (pfS σ n))) fnF () 0) := by rw [eq]; exact Cf_0 _ _
  have ref : ∀ σ3 : St, (∀ r, r ≠ 0 → (r < 29 ∨ 33 < r) → σ3.1 r = σ.1 r) → σ3.1 0 = σ1.1 0 → ∃ τ2, Inv τ2 ∧ fX10_last fu 43 x σ3 = some (if x = 0 then nI q else n23 ((exts n n 0).find? (acc (stF (pft (pfS σ n))) fnF () 0)), τ2) := by
    intro σ3 g3 g0
    obtain ⟨τ1, e2⟩ : ∃ τ1, τ1 = si σ3 43 27 (nI (k + 1)) := ⟨_, rfl⟩
    have gs : ∀ j, j ≠ 27 → τ1.1 43 j = σ.1 43 j := fun j hj => by
      rw [e2]
      show upd (σ3.1 43) 27 _ j = _
      rw [upd_ne _ _ hj, g3 43 (by omega) (by omega)]
    have gr : ∀ r, r ≠ 43 → r ≠ 0 → (r < 29 ∨ 33 < r) → τ1.1 r = σ.1 r := fun r x p q => by
      rw [e2, si_row, if_neg x]; exact g3 r p q
    have z12 : τ1.1 43 12 = nI n := (gs 12 (by omega)).trans hM.1
    have hMl : Ml σ τ1 n := by
      refine ⟨z12, fun j hj => ?_, fun p hp => ?_⟩
      · rw [gr 45 (by omega) (by omega) (by omega), gr 46 (by omega) (by omega) (by omega), gr 49 (by omega) (by omega) (by omega)]
        exact ⟨(hM.2.1 j hj).1, (hM.2.1 j hj).2.1, (hM.2.1 j hj).2.2.2.2⟩
      · rw [gr 50 (by omega) (by omega) (by omega)]; exact hM.2.2 p hp
    obtain ⟨τ0, f1, f2, f3⟩ := firstOrder_eq (fu := fu) (by omega) hn z12
    have len := len7 n (by omega)
    obtain ⟨τ2, k1, k2⟩ := last_lp (fu := fu) (by omega) hn (by omega) hMl x (exts n n 0) fu 0 none τ0 (chk_all hn (by omega)) (fun l hl => exts_mem n 0 l hl) (by omega) (by omega) f2 (fun l r e => by rw [hd_all hn e]; exact f3)
    rw [lsS_0, ← eqc] at k1
    have s3 := lacks_eq fu hn (show σ3.1 43 12 = nI n by rw [g3 43 (by omega) (by omega)]; exact hM.1)
    rw [if_neg h] at s3
    refine ⟨τ2, ?_, ?_⟩
    · refine Inv_Fr ⟨fun r r1 r2 r3 => ?_, fun j j1 j2 j3 j4 => ?_⟩ (Inv_c11 (k := k) hI (by omega))
      · rw [k2 r (by omega), e2, si_row, if_neg r2, si_row, if_neg r2]
        by_cases z : r = 0
        · rw [z, g0, e1]
        · rw [g3 r z (by omega), si_row, if_neg z]
      · rw [k2 43 (by omega), e2]
        show upd (σ3.1 43) 27 _ j = upd (σ.1 43) 27 _ j
        rw [g3 43 (by omega) (by omega)]
    · unfold fX10_last fX10_last_0
      rw [if_pos xv_43, s3]
      simp only [Option.bind_some, nm]
      rw [if_pos trivial, i2]
      simp only [Option.bind_some]
      rw [if_neg (by decide), show σ3.1 43 27 = nI k by rw [g3 43 (by omega) (by omega)]; exact d3, l40, if_neg (fun q => hk ((nI_eq (by omega) (by omega)).mp q)), nI_1, ← e2, f1]
      exact k1
  have head : ∀ o : Option (Int32 × St), (if x = 0 then some (nI q, σ2) else if q = 0 then some (-1, σ2) else (fX3_firstOrder fu 29 σ2).bind fun q111 => if xk q111.1 = 4 then (fX6_told fu q111.1 q111.2).bind fun q113 => some (q113.1, q113.2) else none) = o → fX9_last fu 0 x σ = o := by
    intro o ho
    simp only [fX9_last_91, fX9_last_0, fX9_last, xv_0, xv_1, xv_3, xv_4, xv_12, xv_20, xv_22, xv_27, xv_29, xv_32, xv_34, xv_35, xv_43, rv_0_0, rv_0_1, rv_0_2, rv_0_3, rv_0_4, rv_0_5, rv_0_6, rv_0_7, rv_1_0, rv_4_0, rv_4_1, rv_4_2, rv_4_3, rv_4_4, rv_4_5, rv_4_6, rv_12_0, rv_12_1, rv_12_2, rv_12_3, rv_12_4, rv_12_5, rv_12_6, rv_35_0, rv_35_1, rv_35_2, rv_35_3, rv_35_4, rv_35_5, rv_35_6, rv_20_0, rv_27_0, rv_32_0, rv_22_0, rv_22_1, rv_22_2, rv_22_3, rv_22_4, rv_29_0, rv_29_1, rv_29_2, rv_34_0, rv_43_0, rv_43_13, rv_43_14, rv_43_15, rv_43_16, rv_43_17, rv_43_18, rv_43_19, rv_43_20, rv_43_21, rv_43_22, rv_43_30, if_true, Option.bind_some, nm, s1, i1, d2]
    rw [if_neg (by decide), l40, if_pos (nI_lt (show k < 40 by omega) (by omega)), nI_1, ← e1, a1]
    simp only [Option.bind_some]
    rw [fo]
    simp only [Option.bind_some]
    by_cases x0 : x = 0
    · rw [if_pos x0] at ho ⊢
      exact ho
    · rw [if_neg x0] at ho ⊢
      by_cases z : q = 0
      · rw [if_pos z] at ho
        rw [z, if_pos (by decide)]
        exact ho
      · rw [if_neg z] at ho
        rw [if_neg (nI_ne0 (by omega) (by omega))]
        exact ho
  have g2 : ∀ r, r ≠ 0 → (r < 29 ∨ 31 < r) → σ2.1 r = σ.1 r := fun r p q => (a2 r (by omega) (by omega) (by omega)).trans (g1 r p)
  have g20 : σ2.1 0 = σ1.1 0 := a2 0 (by omega) (by omega) (by omega)
  by_cases x0 : x = 0
  · obtain ⟨τ2, t1, t4⟩ := ref σ2 (fun r p q => g2 r p (by omega)) g20
    rw [if_pos x0] at t4
    exact ⟨(nI q, σ2), _, head _ (by rw [if_pos x0]), t4, rfl, t1⟩
  by_cases z : q = 0
  · obtain ⟨τ2, t1, t4⟩ := ref σ2 (fun r p q => g2 r p (by omega)) g20
    rw [if_neg x0] at t4
    refine ⟨(-1, σ2), _, head _ (by rw [if_neg x0, if_pos z]), t4, ?_, t1⟩
    have : (exts n n 0).find? (acc (stF (pft (pfS σ n))) fnF () 0) = none := by
      rw [List.find?_eq_none]
      rw [eqc, List.countP_eq_zero] at z
      exact z
    rw [this]
    rfl
  · have pos : 0 < (exts n n 0).countP (acc (stF (pft (pfS σ n))) fnF () 0) := by rw [← eqc]; omega
    rw [List.countP_pos_iff] at pos
    obtain ⟨F, v3⟩ := Option.isSome_iff_exists.mp (List.find?_isSome.mpr pos)
    obtain ⟨σ3, y1, y2⟩ := firstOrd_eq (fu := fu) (by omega) hn a3 a4 v3
    obtain ⟨τ2, t1, t4⟩ := ref σ3 (fun r p q => (y2.2.1 r (by omega) (by omega)).trans (g2 r p (by omega))) ((y2.2.1 0 (by omega) (by omega)).trans g20)
    rw [if_neg x0, v3] at t4
    have hm := exts_mem n 0 F (List.mem_of_find?_eq_some v3)
    have hb : ∀ p, p < n → gd F p < 8 := fun p hp => by
      have := (okM_gd F 0 hm.2 p (by rw [hm.1]; exact hp)).1
      omega
    refine ⟨(nI (num F), σ3), _, head _ ?_, t4, rfl, t1⟩
    rw [if_neg x0, if_neg z, y1]
    simp only [Option.bind_some]
    rw [if_pos xv_32, otold_eq (by omega) xv_32 hn (by omega) hm.1 hb y2.2.2.1 y2.2.2.2]
    rfl
