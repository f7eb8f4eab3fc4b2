/-! the reference's best order -/
def Bf (σ τ : St) : Prop := (∀ r, r ≠ 51 → r ≠ 43 → τ.1 r = σ.1 r) ∧ ∀ j, j ≠ 23 → j ≠ 24 → τ.1 43 j = σ.1 43 j
theorem Bf.of51 {σ τ τ' : St} (h : Bf σ τ) (h2 : ∀ r, r ≠ 51 → τ'.1 r = τ.1 r) : Bf σ τ' := ⟨fun r a b => (h2 r a).trans (h.1 r a b), fun j a b => by rw [h2 43 (by omega)]; exact h.2 j a b⟩
def n23 : Option (List Nat) → Int32
  | none => -1
  | some l => nI (num l)
theorem xk43 {u : Nat} (h : xk u = 16) : u ≠ 43 := fun e => by rw [e] at h; exact absurd h (by decide)
theorem Mv.bf {σ τ : St} {u d b n : Nat} {K U D V P : Nat → Nat} {tn nb tb : Bool} (h : Mv σ u d b n K U D V P tn nb tb) (hne : u ≠ 51 ∧ d ≠ 51 ∧ b ≠ 51) (hB : Bf σ τ) : Mv τ u d b n K U D V P tn nb tb :=
  h.congr (hB.1 u hne.1 (xk43 h.hu)) (hB.1 d hne.2.1 (xk43 h.hd)) (hB.1 b hne.2.2 (xk43 h.hb)) (hB.1 45 (by omega) (by omega)) (hB.1 50 (by omega) (by omega)) (hB.2 2 (by omega) (by omega)) (hB.2 3 (by omega) (by omega)) (hB.2 4 (by omega) (by omega)) (hB.2 12 (by omega) (by omega))
theorem chk_nil {n : Nat} {l : List Nat} (h : chk n [l] = true) : nxt n l = none := by
  change isNo (nxt n l) = true at h
  cases e : nxt n l with
  | none => rfl
  | some l' => rw [e] at h; exact Bool.noConfusion h
theorem chk_cons {n : Nat} {l l' : List Nat} {r : List (List Nat)} (h : chk n (l :: l' :: r) = true) : nxt n l = some l' ∧ chk n (l' :: r) = true := by
  unfold chk at h
  cases e : eqO (nxt n l) l'
  · rw [e] at h; exact Bool.noConfusion h
  · rw [e] at h
    refine ⟨?_, h⟩
    cases e2 : nxt n l with
    | none => rw [e2] at e; exact Bool.noConfusion e
    | some x => rw [e2] at e; rw [eqL_eq x l' e]
theorem okM_Od {τ : St} {n : Nat} {l : List Nat} (hO : Od τ n l) (h : l.length = n ∧ okM n 0 l) : ∀ p, p < n → gd l p < n := fun p hp => (okM_gd l 0 h.2 p (by rw [h.1]; exact hp)).1
theorem fb_lp {fu : Nat} (hf : 100 ≤ fu) {σ : St} {u d b n : Nat} {K U D V P : Nat → Nat} {tn nb tb : Bool} (h : Mv σ u d b n K U D V P tn nb tb) (hne : u ≠ 51 ∧ d ≠ 51 ∧ b ≠ 51) : ∀ (Ls : List (List Nat)) (m c mm : Nat) (bb : Option (List Nat)) (τ : St), chk n Ls = true → (∀ l, l ∈ Ls → l.length = n ∧ okM n 0 l) → Ls.length < m → mm < 2 ^ 31 → Bf σ τ → (∀ l r, Ls = l :: r → Od τ n l) → τ.1 43 23 = n23 bb → τ.1 43 24 = nI mm → ∃ τ', fX10_findBest_21 fu 43 u d b m (nI c) 1 τ = some (nI (fbS (acc (stL nb tb P K) fnL (7, false) 0) (mxW (wIf tn K U D V) 0) Ls c bb mm).1, τ') ∧ Bf σ τ' ∧ τ'.1 43 23 = n23 (fbS (acc (stL nb tb P K) fnL (7, false) 0) (mxW (wIf tn K U D V) 0) Ls c bb mm).2.1 ∧ τ'.1 43 24 = nI (fbS (acc (stL nb tb P K) fnL (7, false) 0) (mxW (wIf tn K U D V) 0) Ls c bb mm).2.2 := by
  intro Ls
  induction Ls with
  | nil => intro m c mm bb τ hc; exact Bool.noConfusion hc
  | cons l r ih =>
    intro m c mm bb τ hc hmem hlen hmm hB hO h23 h24
    obtain ⟨m, rfl⟩ : ∃ m', m = m' + 1 := ⟨m - 1, by rw [List.length_cons] at hlen; omega⟩
    rw [List.length_cons] at hlen
    have hO := hO l r rfl
    have hl := hmem l List.mem_cons_self
    have hgd := okM_Od hO hl
    have hMv := h.bf hne hB
    have cont : ∀ (c1 mm1 : Nat) (bb1 : Option (List Nat)) (τ1 : St), mm1 < 2 ^ 31 → Bf σ τ1 → Od τ1 n l → τ1.1 43 23 = n23 bb1 → τ1.1 43 24 = nI mm1 → ∃ τ', fX10_findBest_91 fu (fX10_findBest_21 fu 43 u d b m) 43 u d b (nI c1) τ1 = some (nI (fbS (acc (stL nb tb P K) fnL (7, false) 0) (mxW (wIf tn K U D V) 0) r c1 bb1 mm1).1, τ') ∧ Bf σ τ' ∧ τ'.1 43 23 = n23 (fbS (acc (stL nb tb P K) fnL (7, false) 0) (mxW (wIf tn K U D V) 0) r c1 bb1 mm1).2.1 ∧ τ'.1 43 24 = nI (fbS (acc (stL nb tb P K) fnL (7, false) 0) (mxW (wIf tn K U D V) 0) r c1 bb1 mm1).2.2 := by
      intro c1 mm1 bb1 τ1 k1 k2 k3 k4 k5
      obtain ⟨x1, x2⟩ := next_eq hf h.hn h.hn2 (h.bf hne k2).hz k3
      unfold fX10_findBest_91
      cases r with
      | nil =>
        rw [x1 (chk_nil hc)]
        obtain ⟨m, rfl⟩ : ∃ m', m = m' + 1 := ⟨m - 1, by rw [List.length_nil] at hlen; omega⟩
        refine ⟨τ1, ?_, k2, k4, k5⟩
        show fX10_findBest_21b fu (fX10_findBest_21 fu 43 u d b m) 43 u d b (nI c1) 0 τ1 = _
        unfold fX10_findBest_21b
        rw [if_pos rfl]
        rfl
      | cons l' r' =>
        obtain ⟨y1, y2⟩ := chk_cons hc
        obtain ⟨τ2, t1, t2, t3⟩ := x2 l' y1
        rw [t1]
        exact ih m c1 mm1 bb1 τ2 y2 (fun q hq => hmem q (List.mem_cons_of_mem _ hq)) (by omega) k1 (k2.of51 t3) (fun l'' r'' e => by
          have : l' = l'' := (List.cons.inj e).1
          rw [← this]; exact t2) (by rw [t3 43 (by omega)]; exact k4) (by rw [t3 43 (by omega)]; exact k5)
    show ∃ τ', fX10_findBest_21b fu (fX10_findBest_21 fu 43 u d b m) 43 u d b (nI c) 1 τ = _ ∧ _ ∧ _ ∧ _
    unfold fX10_findBest_21b
    rw [if_neg (by decide)]
    obtain ⟨k, l1, l2, l3⟩ := isLawful_eq hf h.hb (b := b) (σ := τ) (K := K) (P := P) ⟨h.hn, hMv.hz, fun j hj => ⟨(hMv.hk j hj).1, (hMv.hk j hj).2, (hMv.hP j hj).1, (hMv.hP j hj).2⟩⟩ (L := gd l) (fun p hp => ⟨hO.2.2 p hp, hgd p hp⟩)
    have l4 : k = 1 ↔ acc (stL nb tb P K) fnL (7, false) 0 l = true := by
      rw [l3, LawN_iff hMv.hnb hMv.htb]
      exact law_acc h.hn nb tb P K hl.1 hgd
    rw [l1]
    simp only [Option.bind_some]
    by_cases ek : k = 0
    · rw [if_pos ek]
      have ha : ¬ acc (stL nb tb P K) fnL (7, false) 0 l = true := fun q => by
        have := l4.mpr q
        rw [ek] at this
        exact absurd this (by decide)
      have e : fbS (acc (stL nb tb P K) fnL (7, false) 0) (mxW (wIf tn K U D V) 0) (l :: r) c bb mm = fbS (acc (stL nb tb P K) fnL (7, false) 0) (mxW (wIf tn K U D V) 0) r c bb mm := by
        show (if acc (stL nb tb P K) fnL (7, false) 0 l = true then _ else _) = _
        rw [if_neg ha]
      rw [e]
      exact cont c mm bb τ hmm hB hO h23 h24
    · rw [if_neg ek]
      have ha := l4.mp (l2.resolve_left ek)
      have e : fbS (acc (stL nb tb P K) fnL (7, false) 0) (mxW (wIf tn K U D V) 0) (l :: r) c bb mm = fbS (acc (stL nb tb P K) fnL (7, false) 0) (mxW (wIf tn K U D V) 0) r (c + 1) (if mm ≤ mxW (wIf tn K U D V) 0 l then bb else some l) (if mm ≤ mxW (wIf tn K U D V) 0 l then mm else mxW (wIf tn K U D V) 0 l) := by
        show (if acc (stL nb tb P K) fnL (7, false) 0 l = true then _ else _) = _
        rw [if_pos ha]
      rw [e, wouldBe_eq hf hMv hO hgd]
      have hw : mxW (wIf tn K U D V) 0 l ≤ 999 := mxW_le (wIf_le tn K U D V) l 0
      simp only [Option.bind_some, nm]
      rw [nI_1, h24]
      unfold fX10_findBest_66 fX10_findBest_88
      simp only [nm]
      by_cases q : mm ≤ mxW (wIf tn K U D V) 0 l
      · rw [if_pos (nI_le q (by omega)), if_pos q, if_pos q]
        rw [show (si τ 43 23 (τ.1 43 23)).1 43 24 = nI mm from h24, if_pos (nI_le q (by omega))]
        refine cont (c + 1) mm bb _ hmm ⟨fun r a b => by rw [si_row, if_neg b, si_row, if_neg b]; exact hB.1 r a b, fun j a b => ?_⟩ ⟨hO.1, hO.2.1, hO.2.2⟩ h23 rfl
        show upd (upd (τ.1 43) 23 (τ.1 43 23)) 24 (nI mm) j = _
        rw [upd_ne _ _ b, upd_ne _ _ a]
        exact hB.2 j a b
      · rw [if_neg (nI_ge (by omega) (by omega)), if_neg q, if_neg q, numberOf_eq hf h.hn (by have := h.hn2; omega) hMv.hz hO]
        simp only [Option.bind_some]
        rw [show (si τ 43 23 (nI (num l))).1 43 24 = nI mm from h24, if_neg (nI_ge (by omega) (by omega))]
        refine cont (c + 1) _ (some l) _ (by omega) ⟨fun r a b => by rw [si_row, if_neg b, si_row, if_neg b]; exact hB.1 r a b, fun j a b => ?_⟩ ⟨hO.1, hO.2.1, hO.2.2⟩ rfl rfl
        show upd (upd (τ.1 43) 23 (nI (num l))) 24 (nI (mxW (wIf tn K U D V) 0 l)) j = _
        rw [upd_ne _ _ b, upd_ne _ _ a]
        exact hB.2 j a b
theorem chk_all {n : Nat} (h : n ≤ 7) (h2 : 2 ≤ n) : chk n (exts n n 0) = true := by
  have : n = 2 ∨ n = 3 ∨ n = 4 ∨ n = 5 ∨ n = 6 ∨ n = 7 := by omega
  rcases this with rfl | rfl | rfl | rfl | rfl | rfl
  · exact chk2
  · exact chk3
  · exact chk4
  · exact chk5
  · exact chk6
  · exact chk7
theorem hd_all {n : Nat} (h : n ≤ 7) {l : List Nat} {r : List (List Nat)} (e : exts n n 0 = l :: r) : l = List.range n := by
  have := hd7 n (by omega)
  rw [e] at this
  exact eqL_eq l _ this
theorem findBest_eq {fu : Nat} (hf : 6000 ≤ fu) {σ : St} {u d b n : Nat} {K U D V P : Nat → Nat} {tn nb tb : Bool} (h : Mv σ u d b n K U D V P tn nb tb) (hne : u ≠ 51 ∧ d ≠ 51 ∧ b ≠ 51) : ∃ τ', fX10_findBest fu 43 u d b σ = some (nI (fbS (acc (stL nb tb P K) fnL (7, false) 0) (mxW (wIf tn K U D V) 0) (exts n n 0) 0 none 100000).1, τ') ∧ Bf σ τ' ∧ τ'.1 43 23 = n23 (fbS (acc (stL nb tb P K) fnL (7, false) 0) (mxW (wIf tn K U D V) 0) (exts n n 0) 0 none 100000).2.1 ∧ τ'.1 43 24 = nI (fbS (acc (stL nb tb P K) fnL (7, false) 0) (mxW (wIf tn K U D V) 0) (exts n n 0) 0 none 100000).2.2 := by
  have hn := h.hn
  obtain ⟨τ0, e0⟩ : ∃ τ0, τ0 = si (si σ 43 23 (-1)) 43 24 100000 := ⟨_, rfl⟩
  have hB0 : Bf σ τ0 := by
    rw [e0]
    refine ⟨fun r a b => by rw [si_row, if_neg b, si_row, if_neg b], fun j a b => ?_⟩
    show upd (upd (σ.1 43) 23 (-1)) 24 100000 j = _
    rw [upd_ne _ _ b, upd_ne _ _ a]
  obtain ⟨τ1, f1, f2, f3⟩ := firstOrder_eq (fu := fu) (by omega) hn (h.bf hne hB0).hz
  obtain ⟨τ', k1, k2, k3, k4⟩ := fb_lp (fu := fu) (by omega) h hne (exts n n 0) fu 0 100000 none τ1 (chk_all hn h.hn2) (fun l hl => exts_mem n 0 l hl) (by have := len7 n (by omega); omega) (by omega) (hB0.of51 f2) (fun l r e => by rw [hd_all hn e]; exact f3) (by rw [f2 43 (by omega), e0]; rfl) (by rw [f2 43 (by omega), e0]; rfl)
  refine ⟨τ', ?_, k2, k3, k4⟩
  unfold fX10_findBest fX10_findBest_0
  rw [if_pos xv_43, if_pos h.hu, if_pos h.hd, if_pos h.hb]
  simp only [nm]
  rw [← e0, f1]
  exact k1
