/-! flood -/
def sdX (x : Int32) : Int32 := (((((1103515245 : Int64) * x.toInt64) + (12345 : Int64)) &&& (2147483647 : Int64)).toInt32)
theorem sdX_ok (x : Int32) : ∃ Y, Y < 2 ^ 31 ∧ sdX x = nI Y := by
  obtain ⟨N, hN, h⟩ := wb_of ((1103515245 : Int64) * x.toInt64 + (12345 : Int64))
  refine ⟨N % 2 ^ 31, Nat.mod_lt _ (by decide), ?_⟩
  unfold sdX
  rw [h, show (2147483647 : Int64) = lN (2 ^ 31 - 1) from rfl, wb_mask hN (by omega), lN_i]
theorem draw_nI {Y D : Nat} (hY : Y < 2 ^ 31) (hD : 0 < D) (hD2 : D < 2 ^ 31) : nI Y / 65536 - nI Y / 65536 / nI D * nI D = nI (Y / 65536 % D) := by
  rw [show (65536 : Int32) = nI 65536 from rfl, pk_div hY (by omega) (by omega), pk_rem (Nat.lt_of_le_of_lt (Nat.div_le_self _ _) hY) hD hD2]
def Rl (σ τ : St) (n : Nat) : Prop := WS σ 4 n ∧ τ.1 43 12 = nI n ∧ ∀ j, j < n → τ.1 46 j = σ.1 6 j ∧ τ.1 47 j = σ.1 7 j ∧ τ.1 48 j = σ.1 9 j
theorem blockAt_R {fu : Nat} (hf : 100 ≤ fu) {σ τ : St} {n p : Nat} (h : Rl σ τ n) (hp : p < n) : ∃ b, b < n ∧ σ.1 10 p = nI b ∧ σ.1 9 b = nI p ∧ fX10_blockAt fu 43 (nI p) τ = some (nI b, τ) := by
  obtain ⟨hW, hz, hm⟩ := h
  obtain ⟨hn, hz4, w1, w2, w3, w4⟩ := id hW
  obtain ⟨b, hb, b1, b2⟩ := w3 p hp
  refine ⟨b, hb, b1, b2, ?_⟩
  unfold fX10_blockAt fX10_blockAt_0
  rw [if_pos xv_43]
  refine blockAt_lp fu hn hz hb ((hm b hb).2.2.trans b2) (fun j hj e => ?_) fu 0 (-1) (by omega) (by omega) (by rw [if_neg (by omega)])
  rw [(hm j hj).2.2] at e
  obtain ⟨q, hq, q1, q2⟩ := w2 j hj
  rw [show σ.1 9 j = nI q from q1] at e
  have : q = p := (nI_eq (by omega) (by omega)).mp e
  subst this
  have e3 : nI b = nI j := b1.symm.trans q2
  exact ((nI_eq (by omega) (by omega)).mp e3).symm
theorem exchange_eq (fu : Nat) {σ : St} {p q a b : Nat} (hp : p < 7) (hq : q < 7) (ha : a < 7) (hb : b < 7) (h1 : σ.1 10 p = nI a) (h2 : σ.1 10 q = nI b) : fX8_exchange fu 4 (nI p) (nI q) σ = some (si (si (si (si σ 9 b (nI p)) 10 p (nI b)) 9 a (nI q)) 10 q (nI a)) := by
  unfold fX8_exchange fX8_exchange_0
  rw [if_pos xv_4, rv_4_5, ald_nI hp (by omega), ald_nI hq (by omega), h1, h2]
  simp only [Option.bind_some]
  rw [put_eq fu xv_4 hb hp]
  simp only [Option.bind_some]
  rw [put_eq fu xv_4 ha hq]
  rfl
/-- the four stores of an exchange -/
def exS (σ : St) (p q a b : Nat) : St := si (si (si (si σ 9 b (nI p)) 10 p (nI b)) 9 a (nI q)) 10 q (nI a)
theorem exS_row (σ : St) (p q a b r : Nat) (h9 : r ≠ 9) (h10 : r ≠ 10) : (exS σ p q a b).1 r = σ.1 r := by
  unfold exS
  rw [si_row, if_neg h10, si_row, if_neg h9, si_row, if_neg h10, si_row, if_neg h9]
theorem exS_9 (σ : St) (p q a b j : Nat) : (exS σ p q a b).1 9 j = if j = a then nI q else if j = b then nI p else σ.1 9 j := by
  show upd (upd (σ.1 9) b (nI p)) a (nI q) j = _
  rw [upd_app, upd_app]
theorem exS_10 (σ : St) (p q a b j : Nat) : (exS σ p q a b).1 10 j = if j = q then nI a else if j = p then nI b else σ.1 10 j := by
  show upd (upd (σ.1 10) p (nI b)) q (nI a) j = _
  rw [upd_app, upd_app]
theorem WS_exS {σ : St} {n p q a b : Nat} (hW : WS σ 4 n) (hp : p < n) (hq : q < n) (ha : a < n) (hb : b < n) (a1 : σ.1 10 p = nI a) (b1 : σ.1 10 q = nI b) (a2 : σ.1 9 a = nI p) (b2 : σ.1 9 b = nI q) : WS (exS σ p q a b) 4 n := by
  obtain ⟨hn, hz, w1, w2, w3, w4⟩ := id hW
  have eqN : ∀ {x y : Nat}, x < n → y < n → nI x = nI y → x = y := fun hx hy e => (nI_eq (by omega) (by omega)).mp e
  have hr := exS_row σ p q a b
  refine ⟨hn, by rw [hr 4 (by omega) (by omega)]; exact hz, fun j hj => by rw [hr 5 (by omega) (by omega), hr 6 (by omega) (by omega), hr 7 (by omega) (by omega), hr 8 (by omega) (by omega)]; exact w1 j hj, fun j hj => ?_, fun r hr' => ?_, by rw [hr 11 (by omega) (by omega)]; exact w4⟩
  · show ∃ p', p' < n ∧ (exS σ p q a b).1 9 j = nI p' ∧ (exS σ p q a b).1 10 p' = nI j
    rw [exS_9]
    by_cases c1 : j = a
    · exact ⟨q, hq, by rw [if_pos c1], by rw [exS_10, if_pos rfl, c1]⟩
    by_cases c2 : j = b
    · refine ⟨p, hp, by rw [if_neg c1, if_pos c2], ?_⟩
      have : p ≠ q := fun e => c1 (by subst e; rw [c2]; exact eqN hb ha (b1.symm.trans a1))
      rw [exS_10, if_neg this, if_pos rfl, c2]
    · obtain ⟨t, ht, t1, t2⟩ := w2 j hj
      have n1 : t ≠ q := fun e => c2 (by subst e; exact eqN hj hb (t2.symm.trans b1))
      have n2 : t ≠ p := fun e => c1 (by subst e; exact eqN hj ha (t2.symm.trans a1))
      exact ⟨t, ht, by rw [if_neg c1, if_neg c2]; exact t1, by rw [exS_10, if_neg n1, if_neg n2]; exact t2⟩
  · show ∃ j, j < n ∧ (exS σ p q a b).1 10 r = nI j ∧ (exS σ p q a b).1 9 j = nI r
    rw [exS_10]
    by_cases c1 : r = q
    · exact ⟨a, ha, by rw [if_pos c1], by rw [exS_9, if_pos rfl, c1]⟩
    by_cases c2 : r = p
    · refine ⟨b, hb, by rw [if_neg c1, if_pos c2], ?_⟩
      have : b ≠ a := fun e => c1 (by subst e; rw [c2]; exact eqN hp hq (a2.symm.trans b2))
      rw [exS_9, if_neg this, if_pos rfl, c2]
    · obtain ⟨t, ht, t1, t2⟩ := w3 r hr'
      have n1 : t ≠ a := fun e => c2 (by subst e; exact eqN hr' hp (t2.symm.trans a2))
      have n2 : t ≠ b := fun e => c1 (by subst e; exact eqN hr' hq (t2.symm.trans b2))
      exact ⟨t, ht, by rw [if_neg c1, if_neg c2]; exact t1, by rw [exS_9, if_neg n1, if_neg n2]; exact t2⟩
theorem WS_tn {σ : St} {n j : Nat} (hW : WS σ 4 n) (hj : j < n) : WS (si (si σ 6 j (σ.1 7 j)) 7 j (σ.1 6 j)) 4 n := by
  obtain ⟨hn, hz, w1, w2, w3, w4⟩ := hW
  obtain ⟨v1, v2, v3, v4⟩ := w1 j hj
  exact ⟨hn, hz, fun i hi => ⟨(w1 i hi).1, upd_isN v3 (w1 i hi).2.1, upd_isN v2 (w1 i hi).2.2.1, (w1 i hi).2.2.2⟩, w2, w3, w4⟩
theorem dec7 : ∀ p, p < 7 → nI (p + 1) + (-1) = nI p := by decide +kernel
def FC (σ σ' : St) : Prop := ∀ r, r ≠ 6 → r ≠ 7 → r ≠ 9 → r ≠ 10 → σ'.1 r = σ.1 r
def FM (τ τ' : St) : Prop := (∀ r, r ≠ 43 → r ≠ 46 → r ≠ 47 → r ≠ 48 → τ'.1 r = τ.1 r) ∧ ∀ j, j ≠ 26 → τ'.1 43 j = τ.1 43 j
theorem flood_lp {fu : Nat} (hf : 100 ≤ fu) {n : Nat} (x1 x1' : Int32) : ∀ (m p : Nat) (s : Int32) (σ τ : St), p < n → p < m → Rl σ τ n → τ.1 43 26 = s → ∃ s' σ' τ', fX1_swim_9 fu 4 x1 m s (nI p) σ = some (s', σ') ∧ fX10_flood_29 fu 43 x1' m (nI p) τ = some (s', τ') ∧ Rl σ' τ' n ∧ FC σ σ' ∧ FM τ τ' := by
  intro m
  induction m with
  | zero => intro p _ _ _ _ h; omega
  | succ m ih =>
    intro p s σ τ hp hm hR hs
    show ∃ s' σ' τ', fX1_swim_9b fu (fX1_swim_9 fu 4 x1 m) 4 x1 s (nI p) σ = _ ∧ fX10_flood_29b fu (fX10_flood_29 fu 43 x1' m) 43 x1' (nI p) τ = _ ∧ _ ∧ _ ∧ _
    have hn := hR.1.1
    match p, hp, hm with
    | 0, _, _ =>
      refine ⟨s, σ, τ, ?_, ?_, hR, fun _ _ _ _ _ => rfl, fun _ _ _ _ _ => rfl, fun _ _ => rfl⟩
      · unfold fX1_swim_9b
        rw [if_pos (show nI 0 < 1 by decide)]
      · unfold fX10_flood_29b
        rw [if_pos (show nI 0 ≤ 0 by decide), hs]
    | p + 1, hp, hm =>
      obtain ⟨Y, hY, y1⟩ := sdX_ok s
      have hq : Y / 65536 % (p + 2) < n := Nat.lt_of_lt_of_le (Nat.mod_lt _ (by omega)) (by omega)
      obtain ⟨q, q1⟩ : ∃ q, q = Y / 65536 % (p + 2) := ⟨_, rfl⟩
      rw [← q1] at hq
      obtain ⟨a, ha, a1, a2, _⟩ := blockAt_R hf hR hp
      obtain ⟨b, hb, b1, b2, _⟩ := blockAt_R hf hR hq
      -- the reference: its first draw
      have hR1 : Rl σ (si τ 43 26 (nI Y)) n := ⟨hR.1, hR.2.1, hR.2.2⟩
      obtain ⟨a', ha', a1', _, ma⟩ := blockAt_R hf hR1 hp
      obtain ⟨b', hb', b1', _, mb⟩ := blockAt_R hf hR1 hq
      have ea : a' = a := (nI_eq (by omega) (by omega)).mp (a1'.symm.trans a1)
      have eb : b' = b := (nI_eq (by omega) (by omega)).mp (b1'.symm.trans b1)
      subst ea eb
      obtain ⟨Z, hZ, z1⟩ := sdX_ok (nI Y)
      have d1 : fX10_draw fu 43 (nI (p + 1) + 1) τ = some (nI q, si τ 43 26 (nI Y)) := by
        unfold fX10_draw fX10_draw_0
        simp only [nm, if_pos xv_43]
        rw [hs, nI_1, if_neg (nI_ne0 (by omega) (by omega))]
        rw [show (((((1103515245 : Int64) * s.toInt64) + (12345 : Int64)) &&& (2147483647 : Int64)).toInt32) = nI Y from y1]
        rw [show (si τ 43 26 (nI Y)).1 43 26 = nI Y from rfl, draw_nI hY (by omega) (by omega), q1]
      obtain ⟨τ2, et2⟩ : ∃ τ2, τ2 = si (si (si (si τ 43 26 (nI Y)) 48 a' (nI q)) 48 b' (nI (p + 1))) 43 26 (nI Z) := ⟨_, rfl⟩
      have d2 : fX10_draw fu 43 2 (si (si (si τ 43 26 (nI Y)) 48 a' (nI q)) 48 b' (nI (p + 1))) = some (nI (Z / 65536 % 2), τ2) := by
        unfold fX10_draw fX10_draw_0
        simp only [nm, if_pos xv_43]
        rw [show (si (si (si τ 43 26 (nI Y)) 48 a' (nI q)) 48 b' (nI (p + 1))).1 43 26 = nI Y from rfl]
        rw [show (((((1103515245 : Int64) * (nI Y).toInt64) + (12345 : Int64)) &&& (2147483647 : Int64)).toInt32) = nI Z from z1, if_neg (by decide)]
        rw [show (si (si (si (si τ 43 26 (nI Y)) 48 a' (nI q)) 48 b' (nI (p + 1))) 43 26 (nI Z)).1 43 26 = nI Z from rfl, show (2 : Int32) = nI 2 from rfl, draw_nI hZ (by omega) (by omega), et2]
      have e1 : fX1_nextSeed fu s σ = some (nI Y, σ) := by
        unfold fX1_nextSeed fX1_nextSeed_0
        exact congrArg (fun t => some (t, σ)) y1
      have e2 : fX1_rest fu (nI Y) (nI (p + 1) + 1) σ = some (nI q, σ) := by
        unfold fX1_rest fX1_rest_0 fX1_rest_14
        rw [nI_1, if_neg (nI_nle (by omega) (by omega)), if_neg (nI_ne0 (by omega) (by omega)), draw_nI hY (by omega) (by omega), q1]
      have e3 := exchange_eq fu (σ := σ) (p := p + 1) (q := q) (a := a') (b := b') (by omega) (by omega) (by omega) (by omega) a1 b1
      obtain ⟨σ1, es1⟩ : ∃ σ1, σ1 = exS σ (p + 1) q a' b' := ⟨_, rfl⟩
      have hW1 : WS σ1 4 n := by rw [es1]; exact WS_exS hR.1 hp hq ha hb a1 b1 a2 b2
      rw [show si (si (si (si σ 9 b' (nI (p + 1))) 10 (p + 1) (nI b')) 9 a' (nI q)) 10 q (nI a') = σ1 from es1.symm] at e3
      have e4 : fX1_nextSeed fu (nI Y) σ1 = some (nI Z, σ1) := by
        unfold fX1_nextSeed fX1_nextSeed_0
        exact congrArg (fun t => some (t, σ1)) z1
      have e5 : fX1_rest fu (nI Z) 2 σ1 = some (nI (Z / 65536 % 2), σ1) := by
        unfold fX1_rest fX1_rest_0 fX1_rest_14
        rw [if_neg (by decide), if_neg (by decide), show (2 : Int32) = nI 2 from rfl, draw_nI hZ (by omega) (by omega)]
      have e6 : fX8_blockIn fu 4 (nI (p + 1)) σ1 = some (nI b', σ1) := by
        unfold fX8_blockIn fX8_blockIn_0
        rw [if_pos xv_4, rv_4_5, ald_nI (by omega) (by omega), es1, exS_10]
        by_cases c : p + 1 = q
        · have : a' = b' := (nI_eq (by omega) (by omega)).mp (by rw [← a1, ← b1, c])
          rw [if_pos c, this]; rfl
        · rw [if_neg c, if_pos rfl]; rfl
      have hRx : Rl σ1 τ2 n := by
        refine ⟨hW1, by rw [et2]; exact hR.2.1, fun j hj => ?_⟩
        rw [et2, es1, exS_row _ _ _ _ _ 6 (by omega) (by omega), exS_row _ _ _ _ _ 7 (by omega) (by omega), exS_9]
        refine ⟨(hR.2.2 j hj).1, (hR.2.2 j hj).2.1, ?_⟩
        show upd (upd (τ.1 48) a' (nI q)) b' (nI (p + 1)) j = _
        rw [upd_app, upd_app]
        by_cases c1 : j = a'
        · by_cases c2 : j = b'
          · rw [if_pos c2, if_pos c1]
            have : nI (p + 1) = nI q := by rw [← a2, ← b2, ← c1, ← c2]
            exact this
          · rw [if_neg c2, if_pos c1, if_pos c1]
        · rw [if_neg c1, if_neg c1]
          by_cases c2 : j = b'
          · rw [if_pos c2, if_pos c2]
          · rw [if_neg c2, if_neg c2]; exact (hR.2.2 j hj).2.2
      have fc1 : FC σ σ1 := fun r r1 r2 r3 r4 => by rw [es1]; exact exS_row _ _ _ _ _ r r3 r4
      have fm1 : FM τ τ2 := by
        rw [et2]
        refine ⟨fun r r1 r2 r3 r4 => ?_, fun j hj => ?_⟩
        · rw [si_row, if_neg r1, si_row, if_neg r4, si_row, if_neg r4, si_row, if_neg r1]
        · show upd (upd (τ.1 43) 26 (nI Y)) 26 (nI Z) j = _
          rw [upd_ne _ _ hj, upd_ne _ _ hj]
      have body : ∀ (σ2 τ3 : St), Rl σ2 τ3 n → FC σ1 σ2 → FM τ2 τ3 → τ3.1 43 26 = nI Z → ∃ s' σ' τ', fX1_swim_54 fu (fX1_swim_9 fu 4 x1 m) 4 x1 (nI Z) (nI (p + 1)) σ2 = some (s', σ') ∧ fX10_flood_93 fu (fX10_flood_29 fu 43 x1' m) 43 x1' (nI (p + 1)) τ3 = some (s', τ') ∧ Rl σ' τ' n ∧ FC σ σ' ∧ FM τ τ' := by
        intro σ2 τ3 r1 r2 r3 r4
        obtain ⟨s', σ', τ', k1, k2, k3, k4, k5⟩ := ih p (nI Z) σ2 τ3 (by omega) (by omega) r1 r4
        refine ⟨s', σ', τ', ?_, ?_, k3, fun r h1 h2 h3 h4 => (k4 r h1 h2 h3 h4).trans ((r2 r h1 h2 h3 h4).trans (fc1 r h1 h2 h3 h4)), fun r h1 h2 h3 h4 => (k5.1 r h1 h2 h3 h4).trans ((r3.1 r h1 h2 h3 h4).trans (fm1.1 r h1 h2 h3 h4)), fun j hj => (k5.2 j hj).trans ((r3.2 j hj).trans (fm1.2 j hj))⟩
        · unfold fX1_swim_54
          simp only [nm]
          rw [dec7 p (by omega)]; exact k1
        · unfold fX10_flood_93
          simp only [nm]
          rw [dec7 p (by omega)]; exact k2
      unfold fX1_swim_9b fX10_flood_29b
      rw [if_neg (show ¬ nI (p + 1) < 1 from nI_nlt (b := 1) (by omega) (by omega)), if_neg (nI_nle (by omega) (by omega)), e1, d1]
      simp only [Option.bind_some]
      rw [e2, ma]
      simp only [Option.bind_some]
      rw [e3, mb]
      simp only [Option.bind_some]
      rw [e4, rv_43_16, ast_nI (by omega) (by omega)]
      simp only [Option.bind_some]
      rw [e5, ast_nI (by omega) (by omega)]
      simp only [Option.bind_some]
      rw [d2]
      simp only [Option.bind_some]
      by_cases c : nI (Z / 65536 % 2) = 1
      · rw [if_pos c, if_pos c, e6]
        simp only [Option.bind_some]
        have t1 := turnOver_eq fu xv_4 (show b' < 7 by omega) σ1
        rw [t1]
        simp only [Option.bind_some]
        have mx : fX10_exchange fu (rf 43 14) (rf 43 15) (nI b') τ2 = some (si (si τ2 46 b' (τ2.1 47 b')) 47 b' (τ2.1 46 b')) := by
          unfold fX10_exchange fX10_exchange_0
          rw [rv_43_14, rv_43_15, if_pos (show xk 46 = 16 from rfl), if_pos (show xk 47 = 16 from rfl), ald_nI (by omega) (by omega), ald_nI (by omega) (by omega)]
          simp only [Option.bind_some]
          rw [ast_nI (by omega) (by omega)]
          simp only [Option.bind_some]
          rw [ast_nI (by omega) (by omega)]
          rfl
        rw [mx]
        simp only [Option.bind_some]
        refine body _ _ ⟨WS_tn hW1 hb, hRx.2.1, fun j hj => ⟨?_, ?_, (hRx.2.2 j hj).2.2⟩⟩ ?_ ?_ (by rw [et2]; rfl)
        · show upd (τ2.1 46) b' (τ2.1 47 b') j = upd (σ1.1 6) b' (σ1.1 7 b') j
          rw [(hRx.2.2 b' hb).2.1]; exact upd_eq (hRx.2.2 j hj).1
        · show upd (τ2.1 47) b' (τ2.1 46 b') j = upd (σ1.1 7) b' (σ1.1 6 b') j
          rw [(hRx.2.2 b' hb).1]; exact upd_eq (hRx.2.2 j hj).2.1
        · intro r h1 h2 h3 h4
          rw [si_row, if_neg h2, si_row, if_neg h1]
        · refine ⟨fun r h1 h2 h3 h4 => by rw [si_row, if_neg h3, si_row, if_neg h2], fun j hj => rfl⟩
      · rw [if_neg c, if_neg c]
        exact body σ1 τ2 hRx (fun _ _ _ _ _ => rfl) ⟨fun _ _ _ _ _ => rfl, fun _ _ => rfl⟩ (by rw [et2]; rfl)
theorem sm_flood {fu : Nat} (hf : 100 ≤ fu) : Sm_flood fu Inv := by
  intro σ x hI
  obtain ⟨⟨n, hW, hM⟩, hP, hL, hC, hIm⟩ := id hI
  obtain ⟨hn, hz, w1, w2, w3, w4⟩ := id hW
  have s1 := isTooShort_eq fu hn hz
  have s2 := lacks_eq fu hn hM.1
  by_cases h : n < 2
  · rw [if_pos h] at s1 s2
    exact ⟨(-103, σ), (-103, σ), by simp [fX9_flood_27, fX9_flood_0, fX9_flood, xv_0, xv_1, xv_3, xv_4, xv_12, xv_20, xv_22, xv_27, xv_29, xv_32, xv_34, xv_35, xv_43, rv_0_0, rv_0_1, rv_0_2, rv_0_3, rv_0_4, rv_0_5, rv_0_6, rv_0_7, rv_1_0, rv_4_0, rv_4_1, rv_4_2, rv_4_3, rv_4_4, rv_4_5, rv_4_6, rv_12_0, rv_12_1, rv_12_2, rv_12_3, rv_12_4, rv_12_5, rv_12_6, rv_35_0, rv_35_1, rv_35_2, rv_35_3, rv_35_4, rv_35_5, rv_35_6, rv_20_0, rv_27_0, rv_32_0, rv_22_0, rv_22_1, rv_22_2, rv_22_3, rv_22_4, rv_29_0, rv_29_1, rv_29_2, rv_34_0, rv_43_0, rv_43_13, rv_43_14, rv_43_15, rv_43_16, rv_43_17, rv_43_18, rv_43_19, rv_43_20, rv_43_21, rv_43_22, rv_43_30, if_true, Option.bind_some, nm, s1], by simp [fX10_flood_93, fX10_flood_29b, fX10_flood_29, fX10_flood_0, fX10_flood, xv_0, xv_1, xv_3, xv_4, xv_12, xv_20, xv_22, xv_27, xv_29, xv_32, xv_34, xv_35, xv_43, rv_0_0, rv_0_1, rv_0_2, rv_0_3, rv_0_4, rv_0_5, rv_0_6, rv_0_7, rv_1_0, rv_4_0, rv_4_1, rv_4_2, rv_4_3, rv_4_4, rv_4_5, rv_4_6, rv_12_0, rv_12_1, rv_12_2, rv_12_3, rv_12_4, rv_12_5, rv_12_6, rv_35_0, rv_35_1, rv_35_2, rv_35_3, rv_35_4, rv_35_5, rv_35_6, rv_20_0, rv_27_0, rv_32_0, rv_22_0, rv_22_1, rv_22_2, rv_22_3, rv_22_4, rv_29_0, rv_29_1, rv_29_2, rv_34_0, rv_43_0, rv_43_13, rv_43_14, rv_43_15, rv_43_16, rv_43_17, rv_43_18, rv_43_19, rv_43_20, rv_43_21, rv_43_22, rv_43_30, if_true, Option.bind_some, nm, s2], rfl, hI⟩
  rw [if_neg h] at s1 s2
  by_cases hx : 0 ≤ x
  · have hR : ∀ τ : St, τ.1 43 12 = σ.1 43 12 → τ.1 46 = σ.1 46 → τ.1 47 = σ.1 47 → τ.1 48 = σ.1 48 → Rl σ τ n := fun τ h1 h2 h3 h4 => ⟨hW, h1.trans hM.1, fun j hj => by rw [h2, h3, h4]; exact ⟨(hM.2.1 j hj).2.1, (hM.2.1 j hj).2.2.1, (hM.2.1 j hj).2.2.2.1⟩⟩
    obtain ⟨s0, σ0, _, k1, _, _, f1, _⟩ := flood_lp hf x x fu (n - 1) x σ (si σ 43 26 x) (by omega) (by omega) (hR _ rfl rfl rfl rfl) rfl
    have g1 : ∀ r, r ≠ 6 → r ≠ 7 → r ≠ 9 → r ≠ 10 → σ0.1 r = σ.1 r := f1
    obtain ⟨s', σ', τ', k1', k2', k3', f1', f2'⟩ := flood_lp hf x x fu (n - 1) x σ (si σ0 43 26 x) (by omega) (by omega) (hR _ (congrFun (g1 43 (by omega) (by omega) (by omega) (by omega)) 12) (g1 46 (by omega) (by omega) (by omega) (by omega)) (g1 47 (by omega) (by omega) (by omega) (by omega)) (g1 48 (by omega) (by omega) (by omega) (by omega))) rfl
    have ee := k1.symm.trans k1'
    simp only [Option.some.injEq, Prod.mk.injEq] at ee
    obtain ⟨e1, e2⟩ := ee
    subst e1 e2
    have z0 : σ0.1 43 12 = nI n := by rw [g1 43 (by omega) (by omega) (by omega) (by omega)]; exact hM.1
    have s3 := lacks_eq fu hn z0
    rw [if_neg h] at s3
    refine ⟨(s0, σ0), (s0, τ'), ?_, ?_, rfl, ?_⟩
    · simp only [fX9_flood_27, fX9_flood_0, fX9_flood, fX1_swim_54, fX1_swim_9b, fX1_swim_9, fX1_swim_0, fX1_swim, xv_0, xv_1, xv_3, xv_4, xv_12, xv_20, xv_22, xv_27, xv_29, xv_32, xv_34, xv_35, xv_43, rv_0_0, rv_0_1, rv_0_2, rv_0_3, rv_0_4, rv_0_5, rv_0_6, rv_0_7, rv_1_0, rv_4_0, rv_4_1, rv_4_2, rv_4_3, rv_4_4, rv_4_5, rv_4_6, rv_12_0, rv_12_1, rv_12_2, rv_12_3, rv_12_4, rv_12_5, rv_12_6, rv_35_0, rv_35_1, rv_35_2, rv_35_3, rv_35_4, rv_35_5, rv_35_6, rv_20_0, rv_27_0, rv_32_0, rv_22_0, rv_22_1, rv_22_2, rv_22_3, rv_22_4, rv_29_0, rv_29_1, rv_29_2, rv_34_0, rv_43_0, rv_43_13, rv_43_14, rv_43_15, rv_43_16, rv_43_17, rv_43_18, rv_43_19, rv_43_20, rv_43_21, rv_43_22, rv_43_30, if_true, Option.bind_some, nm, s1]
      unfold fX1_swim_9 at k1
      simp only [if_pos hx, size_eq fu xv_4, hz, Option.bind_some]
      rw [nI_s1 (by omega), k1]
      rfl
    · simp only [fX10_flood_93, fX10_flood_29b, fX10_flood_29, fX10_flood_0, fX10_flood, xv_0, xv_1, xv_3, xv_4, xv_12, xv_20, xv_22, xv_27, xv_29, xv_32, xv_34, xv_35, xv_43, rv_0_0, rv_0_1, rv_0_2, rv_0_3, rv_0_4, rv_0_5, rv_0_6, rv_0_7, rv_1_0, rv_4_0, rv_4_1, rv_4_2, rv_4_3, rv_4_4, rv_4_5, rv_4_6, rv_12_0, rv_12_1, rv_12_2, rv_12_3, rv_12_4, rv_12_5, rv_12_6, rv_35_0, rv_35_1, rv_35_2, rv_35_3, rv_35_4, rv_35_5, rv_35_6, rv_20_0, rv_27_0, rv_32_0, rv_22_0, rv_22_1, rv_22_2, rv_22_3, rv_22_4, rv_29_0, rv_29_1, rv_29_2, rv_34_0, rv_43_0, rv_43_13, rv_43_14, rv_43_15, rv_43_16, rv_43_17, rv_43_18, rv_43_19, rv_43_20, rv_43_21, rv_43_22, rv_43_30, if_true, Option.bind_some, nm, s3]
      unfold fX10_flood_29 at k2'
      rw [if_pos hx, show (si σ0 43 26 x).1 43 12 = nI n from z0, nI_s1 (by omega), k2']
    · have gk : ∀ r, r ≠ 43 → r ≠ 46 → r ≠ 47 → r ≠ 48 → τ'.1 r = σ0.1 r := fun r h1 h2 h3 h4 => by
        rw [f2'.1 r h1 h2 h3 h4, si_row, if_neg h1]
      have gs : ∀ j, j ≠ 26 → τ'.1 43 j = σ.1 43 j := fun j hj => by
        rw [f2'.2 j hj]
        show upd (σ0.1 43) 26 x j = _
        rw [upd_ne _ _ hj, g1 43 (by omega) (by omega) (by omega) (by omega)]
      have gg : ∀ r, r ≠ 43 → r ≠ 46 → r ≠ 47 → r ≠ 48 → r ≠ 6 → r ≠ 7 → r ≠ 9 → r ≠ 10 → τ'.1 r = σ.1 r := fun r h1 h2 h3 h4 h5 h6 h7 h8 => (gk r h1 h2 h3 h4).trans (g1 r h5 h6 h7 h8)
      have gw : ∀ r, r < 4 ∨ r = 5 ∨ r = 8 ∨ (10 < r ∧ r < 43) ∨ r = 44 ∨ r = 45 ∨ 48 < r → τ'.1 r = σ.1 r := fun r hr => gg r (by omega) (by omega) (by omega) (by omega) (by omega) (by omega) (by omega) (by omega)
      refine ⟨⟨n, WS_congr (fun i a b => gk i (by omega) (by omega) (by omega) (by omega)) k3'.1, (gs 12 (by omega)).trans hM.1, fun j hj => ⟨?_, ?_, ?_, ?_, ?_⟩, fun p hp => ?_⟩, ?_, ?_, ?_, ?_⟩
      · rw [gw 45 (by omega), gw 5 (by omega)]; exact (hM.2.1 j hj).1
      · rw [(k3'.2.2 j hj).1, gk 6 (by omega) (by omega) (by omega) (by omega)]
      · rw [(k3'.2.2 j hj).2.1, gk 7 (by omega) (by omega) (by omega) (by omega)]
      · rw [(k3'.2.2 j hj).2.2, gk 9 (by omega) (by omega) (by omega) (by omega)]
      · rw [gw 49 (by omega), gw 8 (by omega)]; exact (hM.2.1 j hj).2.2.2.2
      · rw [gw 50 (by omega), gw 11 (by omega)]; exact hM.2.2 p hp
      · unfold Pg; rw [gw 1 (by omega), gs 1 (by omega), gw 44 (by omega), gw 2 (by omega)]; exact hP
      · unfold Lw; rw [gw 3 (by omega), gs 2 (by omega), gs 3 (by omega), gs 4 (by omega), gs 5 (by omega)]; exact hL
      · unfold Cn; rw [gw 0 (by omega), gs 6 (by omega), gs 25 (by omega), gs 27 (by omega), gs 28 (by omega)]; exact hC
      · unfold Im
        rw [gw 0 (by omega), gs 29 (by omega), gw 55 (by omega), gw 13 (by omega), gw 14 (by omega), gw 15 (by omega), gw 16 (by omega), gw 17 (by omega), gw 19 (by omega)]
        rcases hIm with q | ⟨q1, m, q2, q3⟩
        · exact Or.inl q
        · exact Or.inr ⟨q1, m, WS_congr (fun i a b => gw i (by omega)) q2, q3⟩
  · exact ⟨(-102, σ), (-102, σ), by simp [fX9_flood_27, fX9_flood_0, fX9_flood, xv_0, xv_1, xv_3, xv_4, xv_12, xv_20, xv_22, xv_27, xv_29, xv_32, xv_34, xv_35, xv_43, rv_0_0, rv_0_1, rv_0_2, rv_0_3, rv_0_4, rv_0_5, rv_0_6, rv_0_7, rv_1_0, rv_4_0, rv_4_1, rv_4_2, rv_4_3, rv_4_4, rv_4_5, rv_4_6, rv_12_0, rv_12_1, rv_12_2, rv_12_3, rv_12_4, rv_12_5, rv_12_6, rv_35_0, rv_35_1, rv_35_2, rv_35_3, rv_35_4, rv_35_5, rv_35_6, rv_20_0, rv_27_0, rv_32_0, rv_22_0, rv_22_1, rv_22_2, rv_22_3, rv_22_4, rv_29_0, rv_29_1, rv_29_2, rv_34_0, rv_43_0, rv_43_13, rv_43_14, rv_43_15, rv_43_16, rv_43_17, rv_43_18, rv_43_19, rv_43_20, rv_43_21, rv_43_22, rv_43_30, if_true, Option.bind_some, nm, s1, hx], by simp [fX10_flood_93, fX10_flood_29b, fX10_flood_29, fX10_flood_0, fX10_flood, xv_0, xv_1, xv_3, xv_4, xv_12, xv_20, xv_22, xv_27, xv_29, xv_32, xv_34, xv_35, xv_43, rv_0_0, rv_0_1, rv_0_2, rv_0_3, rv_0_4, rv_0_5, rv_0_6, rv_0_7, rv_1_0, rv_4_0, rv_4_1, rv_4_2, rv_4_3, rv_4_4, rv_4_5, rv_4_6, rv_12_0, rv_12_1, rv_12_2, rv_12_3, rv_12_4, rv_12_5, rv_12_6, rv_35_0, rv_35_1, rv_35_2, rv_35_3, rv_35_4, rv_35_5, rv_35_6, rv_20_0, rv_27_0, rv_32_0, rv_22_0, rv_22_1, rv_22_2, rv_22_3, rv_22_4, rv_29_0, rv_29_1, rv_29_2, rv_34_0, rv_43_0, rv_43_13, rv_43_14, rv_43_15, rv_43_16, rv_43_17, rv_43_18, rv_43_19, rv_43_20, rv_43_21, rv_43_22, rv_43_30, if_true, Option.bind_some, nm, s2, hx], rfl, hI⟩
