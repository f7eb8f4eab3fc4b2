/-! springs: numbers of orders -/
theorem dg_num : ∀ (l : List Nat), (∀ p, p < l.length → gd l p < 8) → ∀ p, p < l.length → dg (num l) p = gd l p
  | [], _, p, hp => absurd hp (Nat.not_lt_zero _)
  | x :: l, h, 0, _ => by
    have b : x < 8 := h 0 (by rw [List.length_cons]; omega)
    show (x + 8 * num l) / 8 ^ 0 % 8 = x
    rw [Nat.pow_zero, Nat.div_one]
    omega
  | x :: l, h, p + 1, hp => by
    have b : x < 8 := h 0 (by rw [List.length_cons]; omega)
    have ih := dg_num l (fun q hq => h (q + 1) (by rw [List.length_cons]; omega)) p (by rw [List.length_cons] at hp; omega)
    show (x + 8 * num l) / 8 ^ (p + 1) % 8 = gd l p
    rw [Nat.pow_succ, Nat.mul_comm (8 ^ p) 8, ← Nat.div_div_eq_div_mul, show (x + 8 * num l) / 8 = num l by omega]
    exact ih
theorem isPm_gd {n : Nat} {l : List Nat} (h : l.length = n ∧ okM n 0 l) : isPm n (gd l) := ⟨fun p hp => (okM_gd l 0 h.2 p (by rw [h.1]; exact hp)).1, fun j hj => pos_ex h hj, fun p q hp hq e => okM_inj l 0 h.2 p q (by rw [h.1]; exact hp) (by rw [h.1]; exact hq) e⟩
theorem okP_num {n : Nat} (hn : n ≤ 7) {l : List Nat} (h : l.length = n ∧ okM n 0 l) : okP (num l) n n ∧ num l / 8 ^ n = 0 ∧ num l < 2 ^ 31 ∧ ∀ p, p < n → dg (num l) p = gd l p := by
  have pm := isPm_gd h
  have hb : ∀ p, p < l.length → gd l p < 8 := fun p hp => by
    have := pm.1 p (by rw [← h.1]; exact hp)
    omega
  have hd : ∀ p, p < n → dg (num l) p = gd l p := fun p hp => dg_num l hb p (by rw [h.1]; exact hp)
  have lt := num_lt l hb
  rw [h.1] at lt
  have p7 : 8 ^ n ≤ 8 ^ 7 := Nat.pow_le_pow_right (by decide) hn
  refine ⟨fun q hq => ?_, Nat.div_eq_of_lt lt, by omega, hd⟩
  refine ⟨by rw [hd q hq]; exact pm.1 q hq, ?_⟩
  cases e : (sn (num l) q).testBit (dg (num l) q)
  · rfl
  · obtain ⟨r, r1, r2⟩ := (sn_tb (num l) (dg (num l) q) q).mp e
    rw [hd r (by omega), hd q hq] at r2
    have := pm.2.2 r q (by omega) hq r2
    omega
def LwC (σ : St) : Prop := (σ.1 3 1 = 0 ∨ σ.1 3 1 = 1) ∧ (σ.1 3 2 = 0 ∨ σ.1 3 2 = 1)
def LwQ (σ τ : St) : Prop := τ.1 43 2 = σ.1 3 0 ∧ τ.1 43 3 = σ.1 3 1 ∧ τ.1 43 4 = σ.1 3 2 ∧ τ.1 43 5 = σ.1 3 3
/-- the forecast's street and the reference's rows -/
def Rs (σ τ : St) (n : Nat) : Prop := LwQ σ τ ∧ τ.1 43 12 = nI n ∧ (∀ j, j < n → τ.1 45 j = σ.1 36 j ∧ τ.1 52 j = σ.1 37 j ∧ τ.1 53 j = σ.1 38 j ∧ τ.1 54 j = σ.1 40 j) ∧ ∀ p, p < 7 → τ.1 50 p = σ.1 42 p
def Gc (σ σ' : St) : Prop := (∀ r, r < 22 ∨ 42 < r → σ'.1 r = σ.1 r) ∧ σ'.1 34 = σ.1 34
def Gm (τ τ' : St) : Prop := (∀ r, r < 51 ∨ 54 < r → r ≠ 43 → τ'.1 r = τ.1 r) ∧ ∀ j, j ≠ 23 → j ≠ 24 → τ'.1 43 j = τ.1 43 j
theorem Gc.tr {a b c : St} (h1 : Gc a b) (h2 : Gc b c) : Gc a c := ⟨fun r hr => (h2.1 r hr).trans (h1.1 r hr), h2.2.trans h1.2⟩
theorem Gm.tr {a b c : St} (h1 : Gm a b) (h2 : Gm b c) : Gm a c := ⟨fun r hr h => (h2.1 r hr h).trans (h1.1 r hr h), fun j a b => (h2.2 j a b).trans (h1.2 j a b)⟩
theorem Rs_Cv {σ : St} {n : Nat} (hW : WS σ 35 n) (hL : LwC σ) (h2 : 2 ≤ n) : Cv σ 35 n (nv σ 36) (nv σ 37) (nv σ 38) (nv σ 42) (nv σ 40) (decide (¬ σ.1 3 1 = 0)) (decide (¬ σ.1 3 0 = 0)) (decide (¬ σ.1 3 2 = 0)) := by
  obtain ⟨hn, hz, w1, w2, w3, w4⟩ := id hW
  refine ⟨hn, h2, xv_35, hz, fun j hj => isN_nv (w1 j hj).1 (by omega), fun j hj => isN_nv (w1 j hj).2.1 (by omega), fun j hj => isN_nv (w1 j hj).2.2.1 (by omega), fun j hj => ⟨(WS_pl hW j hj).1, ?_⟩, fun p hp => isN_nv (w4 p hp) (by omega), decide_eq_true_iff.symm, decide_eq_true_iff.symm, decide_eq_true_iff.symm, hL.1, hL.2⟩
  have : nv σ 40 j < n := (WS_pl hW j hj).2.1
  show nv σ 40 j < 7
  omega
theorem Rs_Mv {σ τ : St} {n : Nat} (hW : WS σ 35 n) (hL : LwC σ) (h2 : 2 ≤ n) (hR : Rs σ τ n) : Mv τ 52 53 54 n (nv σ 36) (nv σ 37) (nv σ 38) (nv σ 42) (nv σ 40) (decide (¬ σ.1 3 1 = 0)) (decide (¬ σ.1 3 0 = 0)) (decide (¬ σ.1 3 2 = 0)) := by
  have C := Rs_Cv hW hL h2
  obtain ⟨⟨q2, q3, q4, q5⟩, rz, rj, rp⟩ := hR
  refine ⟨C.hn, h2, rfl, rfl, rfl, rz, fun j hj => ?_, fun j hj => ?_, fun j hj => ?_, fun j hj => ?_, fun p hp => ?_, ?_, ?_, ?_⟩
  · rw [(rj j hj).1]; exact C.hk j hj
  · rw [(rj j hj).2.1]; exact C.hU j hj
  · rw [(rj j hj).2.2.1]; exact C.hD j hj
  · rw [(rj j hj).2.2.2]; exact C.hP j hj
  · rw [rp p hp]; exact C.hV p hp
  · rw [q3, decide_eq_true_iff]
    rcases hL.1 with e | e <;> rw [e] <;> decide
  · rw [q2, decide_eq_true_iff]
  · rw [q4, decide_eq_true_iff]
/-- laid anew in spring -/
theorem spr_lay {fu : Nat} (hf : 6000 ≤ fu) {σ : St} {n : Nat} (hW : WS σ 35 n) (hL : LwC σ) (h2 : 2 ≤ n) {s k : Nat} (hk : k ≤ s) (hs : s < 100) (k21 : Int32 → St → Option St) : ∃ σ', fX2_run_21b fu k21 34 4 3 22 (nI s) (nI k) σ = fX2_run_59 fu k21 34 4 3 22 (nI s) (nI k) σ' ∧ WS σ' 35 n ∧ Gc σ σ' ∧ ∀ τ, Rs σ τ n → ∃ τ', fX10_oneSpring fu 43 τ = fX10_oneSpring_48 fu 43 τ' ∧ Rs σ' τ' n ∧ Gm τ τ' := by
  have hn := hW.1
  have C := Rs_Cv hW hL h2
  obtain ⟨w, ew⟩ : ∃ w, w = wIf (decide (¬ σ.1 3 1 = 0)) (nv σ 36) (nv σ 37) (nv σ 38) (nv σ 42) := ⟨_, rfl⟩
  have hw : ∀ x p, w x p ≤ 999 := by rw [ew]; exact wIf_le _ _ _ _ _
  obtain ⟨σ1, a1, a2, a3⟩ := study_eq (fu := fu) (by omega) C
  rw [← ew] at a3
  obtain ⟨b1, b2, b3⟩ := best_spec (nb := decide (¬ σ.1 3 0 = 0)) (tb := decide (¬ σ.1 3 2 = 0)) (P := nv σ 40) (K := nv σ 36) (n := n) hw
  obtain ⟨q, eq⟩ : ∃ q, q = Cq (decide (¬ σ.1 3 0 = 0)) (decide (¬ σ.1 3 2 = 0)) (nv σ 40) (nv σ 36) n 0 7 false := ⟨_, rfl⟩
  have hq : q ≤ 5040 := by
    rw [eq]
    unfold Cq
    rw [cS_0, Nat.sub_zero, cntA_eq]
    exact Nat.le_trans List.countP_le_length (len7 n (by omega))
  have fo := found_eq fu a3.2.2.1
  rw [← eq] at b1 b2 b3 fo
  have hd : fX2_run_21b fu k21 34 4 3 22 (nI s) (nI k) σ = if q = 0 then fX2_run_59 fu k21 34 4 3 22 (nI s) (nI k) σ1 else (fX5_bestOrder fu 22 σ1).bind fun q105 => if xk q105.1 = 4 then (fX4_turns fu 3 q105.2).bind fun q107 => (fX8_putDown fu 35 q105.1 q107.1 q107.2).bind fun q108 => fX2_run_59 fu k21 34 4 3 22 (nI s) (nI k) q108 else none := by
    unfold fX2_run_21b
    rw [if_neg (nI_nlt hk (by omega)), rv_34_0, a1]
    simp only [Option.bind_some]
    rw [fo]
    simp only [Option.bind_some]
    by_cases z : q = 0
    · rw [if_pos z, z, if_pos (by decide)]
    · rw [if_neg z, if_neg (nI_nle (by omega) (by omega))]
  have gm : ∀ τ, Rs σ τ n → ∃ τ1, fX10_findBest fu 43 52 53 54 τ = some (nI q, τ1) ∧ Bf τ τ1 ∧ τ1.1 43 23 = n23 (fbS (acc (stL (decide (¬ σ.1 3 0 = 0)) (decide (¬ σ.1 3 2 = 0)) (nv σ 40) (nv σ 36)) fnL (7, false) 0) (mxW w 0) (exts n n 0) 0 none 100000).2.1 := by
    intro τ hR
    obtain ⟨τ1, f1, f2, f3, f4⟩ := findBest_eq hf (Rs_Mv hW hL h2 hR) (by decide)
    rw [← ew, b1] at f1
    rw [← ew] at f3
    exact ⟨τ1, f1, f2, f3⟩
  have Rs1 : ∀ τ τ1 σ', Rs σ τ n → Bf τ τ1 → (∀ r, r = 3 ∨ r = 36 ∨ r = 37 ∨ r = 38 ∨ r = 40 ∨ r = 42 → σ'.1 r = σ.1 r) → Rs σ' τ1 n := by
    intro τ τ1 σ' hR hB hr
    obtain ⟨⟨q2, q3, q4, q5⟩, rz, rj, rp⟩ := hR
    unfold Rs LwQ
    rw [hB.2 2 (by omega) (by omega), hB.2 3 (by omega) (by omega), hB.2 4 (by omega) (by omega), hB.2 5 (by omega) (by omega), hB.2 12 (by omega) (by omega), hB.1 45 (by omega) (by omega), hB.1 52 (by omega) (by omega), hB.1 53 (by omega) (by omega), hB.1 54 (by omega) (by omega), hB.1 50 (by omega) (by omega), hr 3 (by omega), hr 36 (by omega), hr 37 (by omega), hr 38 (by omega), hr 40 (by omega), hr 42 (by omega)]
    exact ⟨⟨q2, q3, q4, q5⟩, rz, rj, rp⟩
  by_cases z : q = 0
  · rw [if_pos z] at hd
    refine ⟨σ1, hd, WS_congr (fun i a b => a2 i (by omega)) hW, ⟨fun r hr => a2 r (by omega), a2 34 (by omega)⟩, fun τ hR => ?_⟩
    obtain ⟨τ1, f1, f2, f3⟩ := gm τ hR
    refine ⟨τ1, ?_, Rs1 τ τ1 σ1 hR f2 (fun r hr => a2 r (by omega)), fun r hr h => f2.1 r (by omega) h, f2.2⟩
    unfold fX10_oneSpring fX10_oneSpring_0
    rw [if_pos xv_43, rv_43_20, rv_43_21, rv_43_22, f1]
    simp only [Option.bind_some]
    rw [if_pos (by rw [z]; decide)]
  rw [if_neg z] at hd
  obtain ⟨v1, v2, F, v3, v4⟩ := b3 (by omega)
  obtain ⟨σ2, y1, y2⟩ := bestOrder_eq (fu := fu) (by omega) hn hw a3 v2 rfl v3
  have hm := exts_mem n 0 F (List.mem_of_find?_eq_some v3)
  have pm := isPm_gd hm
  have g2 : ∀ r, r < 22 ∨ 28 < r → σ2.1 r = σ.1 r := fun r hr => (y2.2.1 r (by omega) (by omega)).trans (a2 r (by omega))
  have t3 : σ2.1 3 1 = 0 ∨ σ2.1 3 1 = 1 := by rw [g2 3 (by omega)]; exact hL.1
  have C2 := C.congr (τ' := σ2) (fun r a b => g2 r (by omega)) (g2 3 (by omega))
  obtain ⟨σ3, p1, p2⟩ := putDown_eq (fu := fu) (by omega) xv_35 xv_27 (by omega) C2.vw C2.hz y2.2.2.1 y2.2.2.2 pm (σ2.1 3 1)
  rw [y1] at hd
  simp only [Option.bind_some] at hd
  rw [if_pos xv_27, turns_eq fu t3] at hd
  simp only [Option.bind_some] at hd
  rw [p1] at hd
  have hW2 : WS σ2 35 n := WS_congr (fun i a b => g2 i (by omega)) hW
  have eK : nv σ2 36 = nv σ 36 := by unfold nv; rw [g2 36 (by omega)]
  have g3 : ∀ r, r < 22 ∨ 28 < r → r ≠ 37 → r ≠ 38 → r ≠ 40 → r ≠ 41 → σ3.1 r = σ.1 r := fun r hr x1 x2 x3 x4 => (p2.2.1 r (by omega) (by omega) (by omega) (by omega)).trans (g2 r hr)
  refine ⟨σ3, hd, WS_Ld hW2 pm (by rw [show nv σ2 (35 + 1) = nv σ 36 from eK]; exact p2), ⟨fun r hr => g3 r (by omega) (by omega) (by omega) (by omega) (by omega), g3 34 (by omega) (by omega) (by omega) (by omega) (by omega)⟩, fun τ hR => ?_⟩
  obtain ⟨τ1, f1, f2, f3⟩ := gm τ hR
  rw [v4] at f3
  have R1 := Rs1 τ τ1 σ2 hR f2 (fun r hr => g2 r (by omega))
  obtain ⟨o1, o2, o3, o4⟩ := okP_num hn hm
  obtain ⟨τ2, k2, r1, r2, r3, r4, r5, r6⟩ := readOrder_eq (fu := fu) (by omega) o3 hn R1.2.1
  have ek : k2 = 1 := r3.mpr ⟨o1, o2⟩
  subst ek
  have h51 : ∀ p, p < n → τ2.1 51 p = nI (gd F p) := fun p hp => by rw [r6 p hp, o4 p hp]
  obtain ⟨τ3, l1, l2⟩ := layOn_eq (fu := fu) (by omega) (u := 52) (d := 53) (b := 54) rfl rfl rfl (by decide) (K := nv σ 36) (σ := τ2) hn (by rw [r5 43 (by omega)]; exact R1.2.1) (fun j hj => by
    rw [r5 45 (by omega), (R1.2.2.1 j hj).1, g2 36 (by omega)]
    exact C.hk j hj) h51 pm
  have htn : (¬ σ2.1 3 1 = 0) ↔ τ2.1 43 3 = 1 := by
    rw [r5 43 (by omega), R1.1.2.1]
    rcases t3 with e | e <;> rw [e] <;> decide
  have key := Ld_Md (o := 35) (u := 52) (d := 53) (b := 54) (σ := σ2) (τ := τ2) (υ := τ3) pm htn (fun j hj => by rw [r5 52 (by omega)]; exact (R1.2.2.1 j hj).2.1) (fun j hj => by rw [r5 53 (by omega)]; exact (R1.2.2.1 j hj).2.2.1) p2 l2
  have gt : ∀ r, r ≠ 51 → r ≠ 52 → r ≠ 53 → r ≠ 54 → τ3.1 r = τ1.1 r := fun r x1 x2 x3 x4 => (l2.2.1 r x2 x3 x4).trans (r5 r x1)
  refine ⟨τ3, ?_, ?_, ?_⟩
  · unfold fX10_oneSpring fX10_oneSpring_0
    rw [if_pos xv_43, rv_43_20, rv_43_21, rv_43_22, f1]
    simp only [Option.bind_some]
    rw [if_neg (nI_nle (by omega) (by omega)), f3]
    rw [show n23 (some F) = nI (num F) from rfl, r1]
    simp only [Option.bind_some]
    rw [if_neg (by decide), l1]
    rfl
  · obtain ⟨⟨q2, q3, q4, q5⟩, rz, rj, rp⟩ := R1
    have g43 := gt 43 (by omega) (by omega) (by omega) (by omega)
    have s3' : σ3.1 3 = σ2.1 3 := p2.2.1 3 (by omega) (by omega) (by omega) (by omega)
    refine ⟨?_, by rw [g43]; exact rz, fun j hj => ⟨?_, (key j hj).1, (key j hj).2.1, (key j hj).2.2⟩, fun p hp => ?_⟩
    · unfold LwQ
      rw [g43, s3']
      exact ⟨q2, q3, q4, q5⟩
    · rw [gt 45 (by omega) (by omega) (by omega) (by omega), (rj j hj).1]
      exact (congrFun (p2.2.1 36 (by omega) (by omega) (by omega) (by omega)) j).symm
    · rw [gt 50 (by omega) (by omega) (by omega) (by omega), rp p hp]
      exact (congrFun (p2.2.1 42 (by omega) (by omega) (by omega) (by omega)) p).symm
  · refine ⟨fun r hr h => (gt r (by omega) (by omega) (by omega) (by omega)).trans (f2.1 r (by omega) h), fun j x1 x2 => ?_⟩
    rw [gt 43 (by omega) (by omega) (by omega) (by omega)]
    exact f2.2 j x1 x2
/-- a year -/
theorem spr_year {fu : Nat} (hf : 100 ≤ fu) {σ : St} {n : Nat} (hW : WS σ 35 n) : ∃ σ', fX8_wearForAYear fu 35 σ = some σ' ∧ WS σ' 35 n ∧ Gc σ σ' ∧ ∀ τ, Rs σ τ n → ∃ τ', fX10_oneSpring_48 fu 43 τ = some τ' ∧ Rs σ' τ' n ∧ Gm τ τ' := by
  obtain ⟨hn, hz, w1, w2, w3, w4⟩ := id hW
  have hpl := WS_pl hW
  have y := wearForAYear_eq hf xv_35 hn hz (fun j hj => ⟨(hpl j hj).1, by have := (hpl j hj).2.1; omega⟩)
  refine ⟨_, y, ?_, ⟨fun r hr => by rw [sc_row, if_neg (by omega)], by rw [sc_row, if_neg (by omega)]⟩, fun τ hR => ?_⟩
  · refine ⟨hn, hz, fun j hj => ⟨(w1 j hj).1, ?_, (w1 j hj).2.2.1, (w1 j hj).2.2.2⟩, w2, w3, w4⟩
    exact yrF_isN (fun j hj => (w1 j hj).1) (fun j hj => (w1 j hj).2.1) w4 (fun j hj => by have := (hpl j hj).2.1; omega) j hj
  · obtain ⟨lq, rz, rj, rp⟩ := hR
    have nve : ∀ j, j < n → nv τ 54 j = nv σ 40 j := fun j hj => by unfold nv; rw [(rj j hj).2.2.2]
    have y2 := yearOn_eq hf (a := 52) (b := 54) rfl rfl (by decide) hn rz (fun j hj => by
      rw [nve j hj, (rj j hj).2.2.2]
      exact ⟨(hpl j hj).1, by have : nv σ 40 j < n := (hpl j hj).2.1; omega⟩)
    refine ⟨sc τ 52 (yrF (τ.1 45) (nv τ 54) (τ.1 50) (τ.1 52) n), ?_, ⟨lq, rz, fun j hj => ⟨(rj j hj).1, ?_, (rj j hj).2.2.1, (rj j hj).2.2.2⟩, rp⟩, fun r hr h => by rw [sc_row, if_neg (by omega)], fun j _ _ => by rw [sc_row, if_neg (by omega)]⟩
    · unfold fX10_oneSpring_48
      rw [rv_43_20, rv_43_22, y2]
      rfl
    · show yrF (τ.1 45) (nv τ 54) (τ.1 50) (τ.1 52) n j = yrF (σ.1 36) (nv σ 40) (σ.1 42) (σ.1 37) n j
      unfold yrF
      rw [if_pos hj, if_pos hj, (rj j hj).1, (rj j hj).2.1, nve j hj, rp _ (by have : nv σ 40 j < n := (hpl j hj).2.1; omega)]
/-- burnt -/
def bnC (A B : Nat → Int32) (W : Int32) (j : Nat) : Bool := decide (¬ A j < W ∧ ¬ B j < W)
def bnF (f A B : Nat → Int32) (W : Int32) (i : Nat) : Nat → Int32 := fun j => if j < i ∧ bnC A B W j = true then 0 else f j
def bnN (A B : Nat → Int32) (W : Int32) : Nat → Nat
  | 0 => 0
  | i + 1 => bnN A B W i + if bnC A B W i = true then 1 else 0
theorem bnN_le (A B : Nat → Int32) (W : Int32) : ∀ i, bnN A B W i ≤ i
  | 0 => Nat.le_refl _
  | i + 1 => by
    have := bnN_le A B W i
    unfold bnN
    split <;> omega
theorem bnF_0 (f A B : Nat → Int32) (W : Int32) : bnF f A B W 0 = f := by
  funext j
  unfold bnF
  rw [if_neg (by omega)]
theorem bnF_no (f A B : Nat → Int32) (W : Int32) {i : Nat} (h : ¬ bnC A B W i = true) : bnF f A B W (i + 1) = bnF f A B W i := by
  funext j
  unfold bnF
  by_cases c : j < i ∧ bnC A B W j = true
  · rw [if_pos c, if_pos ⟨by omega, c.2⟩]
  · rw [if_neg c, if_neg]
    intro q
    have : j ≠ i := fun e => h (by rw [← e]; exact q.2)
    exact c ⟨by omega, q.2⟩
theorem bnF_yes (f A B : Nat → Int32) (W : Int32) {i : Nat} (h : bnC A B W i = true) : upd (bnF f A B W i) i 0 = bnF f A B W (i + 1) := by
  funext j
  rw [upd_app]
  unfold bnF
  by_cases c : j = i
  · rw [if_pos c, if_pos ⟨by omega, by rw [c]; exact h⟩]
  · rw [if_neg c]
    by_cases d : j < i ∧ bnC A B W j = true
    · rw [if_pos d, if_pos ⟨by omega, d.2⟩]
    · rw [if_neg d, if_neg (fun q => d ⟨by omega, q.2⟩)]
theorem bnF_at (f A B : Nat → Int32) (W : Int32) (i : Nat) : bnF f A B W i i = f i := by
  unfold bnF
  rw [if_neg (by omega)]
def bnS (σ : St) (u d : Nat) (W : Int32) (i : Nat) : St := sc (sc σ u (bnF (σ.1 u) (σ.1 u) (σ.1 d) W i)) d (bnF (σ.1 d) (σ.1 u) (σ.1 d) W i)
theorem bnS_u (σ : St) {u d : Nat} (h : u ≠ d) (W : Int32) (i : Nat) : (bnS σ u d W i).1 u = bnF (σ.1 u) (σ.1 u) (σ.1 d) W i := by
  unfold bnS
  rw [sc_row, if_neg h, sc_row, if_pos rfl]
theorem bnS_d (σ : St) {u d : Nat} (W : Int32) (i : Nat) : (bnS σ u d W i).1 d = bnF (σ.1 d) (σ.1 u) (σ.1 d) W i := by
  unfold bnS
  rw [sc_row, if_pos rfl]
theorem bnS_r (σ : St) {u d : Nat} (W : Int32) (i r : Nat) (h1 : r ≠ u) (h2 : r ≠ d) : (bnS σ u d W i).1 r = σ.1 r := by
  unfold bnS
  rw [sc_row, if_neg h2, sc_row, if_neg h1]
theorem bnS_0 (σ : St) (u d : Nat) (W : Int32) : bnS σ u d W 0 = σ := by
  unfold bnS
  rw [bnF_0, bnF_0, sc_self, sc_self]
theorem bnS_no (σ : St) (u d : Nat) (W : Int32) {i : Nat} (h : ¬ bnC (σ.1 u) (σ.1 d) W i = true) : bnS σ u d W (i + 1) = bnS σ u d W i := by
  unfold bnS
  rw [bnF_no _ _ _ _ h, bnF_no _ _ _ _ h]
theorem sc_comm (σ : St) {a b : Nat} (h : a ≠ b) (f g : Nat → Int32) : sc (sc σ a f) b g = sc (sc σ b g) a f := by
  have : (sc (sc σ a f) b g).1 = (sc (sc σ b g) a f).1 := by
    funext i
    rw [sc_row, sc_row, sc_row, sc_row]
    by_cases c : i = b
    · rw [if_pos c, if_neg (fun e => h (e.symm.trans c)), if_pos c]
    · rw [if_neg c]
      by_cases d : i = a
      · rw [if_pos d, if_pos d]
      · rw [if_neg d, if_neg d, if_neg c]
  exact Prod.ext this rfl
theorem bnS_yes (σ : St) {u d : Nat} (hne : u ≠ d) (W : Int32) {i : Nat} (h : bnC (σ.1 u) (σ.1 d) W i = true) : si (si (bnS σ u d W i) u i 0) d i 0 = bnS σ u d W (i + 1) := by
  rw [si_sc, si_sc, bnS_u σ hne, bnF_yes _ _ _ _ h]
  rw [show (sc (bnS σ u d W i) u (bnF (σ.1 u) (σ.1 u) (σ.1 d) W (i + 1))).1 d = bnF (σ.1 d) (σ.1 u) (σ.1 d) W i by rw [sc_row, if_neg (fun e => hne e.symm), bnS_d], bnF_yes _ _ _ _ h]
  unfold bnS
  rw [sc_comm _ hne, sc_sc, sc_comm _ (fun e => hne e.symm), sc_sc, sc_comm _ hne]
theorem burnWorn_eq {fu : Nat} (hf : 100 ≤ fu) {o n : Nat} (ho : xk o = 6) {σ : St} (hn : n ≤ 7) (hz : σ.1 o 7 = nI n) (W : Int32) : fX8_burnWorn fu o W σ = some (nI (bnN (σ.1 (o + 2)) (σ.1 (o + 3)) W n), bnS σ (o + 2) (o + 3) W n) := by
  have lp : ∀ (m i : Nat), i ≤ n → n - i < m → fX8_burnWorn_4 fu o W m (nI (bnN (σ.1 (o + 2)) (σ.1 (o + 3)) W i)) (nI i) (bnS σ (o + 2) (o + 3) W i) = some (nI (bnN (σ.1 (o + 2)) (σ.1 (o + 3)) W n), bnS σ (o + 2) (o + 3) W n) := by
    intro m
    induction m with
    | zero => intro i _ h; omega
    | succ m ih =>
      intro i hi hm
      show fX8_burnWorn_4b fu (fX8_burnWorn_4 fu o W m) o W _ (nI i) _ = _
      unfold fX8_burnWorn_4b fX8_burnWorn_49
      rw [show (bnS σ (o + 2) (o + 3) W i).1 o 7 = nI n by rw [bnS_r σ W i o (by omega) (by omega)]; exact hz]
      simp only [nm]
      by_cases c : i < n
      · rw [if_neg (nI_ge c (by omega)), rs1 ho, rs2 ho, ald_nI (by omega) (by omega), ald_nI (by omega) (by omega), bnS_u σ (by omega), bnS_d, bnF_at, bnF_at]
        simp only [Option.bind_some]
        have key := ih (i + 1) (by omega) (by omega)
        rw [show bnN (σ.1 (o + 2)) (σ.1 (o + 3)) W (i + 1) = bnN (σ.1 (o + 2)) (σ.1 (o + 3)) W i + if bnC (σ.1 (o + 2)) (σ.1 (o + 3)) W i = true then 1 else 0 from rfl] at key
        by_cases d : bnC (σ.1 (o + 2)) (σ.1 (o + 3)) W i = true
        · have d' := of_decide_eq_true d
          rw [if_neg d'.1, if_neg d'.2, ast_nI (by omega) (by omega)]
          simp only [Option.bind_some]
          rw [ast_nI (by omega) (by omega)]
          simp only [Option.bind_some]
          rw [bnS_yes σ (by omega) W d, nI_1, nI_1]
          rw [if_pos d] at key
          exact key
        · rw [if_neg d, Nat.add_zero, bnS_no σ _ _ W d] at key
          by_cases e : σ.1 (o + 2) i < W
          · rw [if_pos e, nI_1]; exact key
          · rw [if_neg e]
            have : σ.1 (o + 3) i < W := Classical.byContradiction (fun q => d (decide_eq_true ⟨e, q⟩))
            rw [if_pos this, nI_1]; exact key
      · have : i = n := by omega
        subst this
        rw [if_pos (nI_le (Nat.le_refl _) (by omega))]
  unfold fX8_burnWorn fX8_burnWorn_0
  rw [if_pos ho]
  have := lp fu 0 (by omega) (by omega)
  rw [bnS_0] at this
  exact this
theorem mburn_eq {fu : Nat} (hf : 100 ≤ fu) {n : Nat} {σ : St} (hn : n ≤ 7) (hz : σ.1 43 12 = nI n) : fX10_burn fu 43 σ = some (nI (bnN (σ.1 52) (σ.1 53) (100 * σ.1 43 5) n), bnS σ 52 53 (100 * σ.1 43 5) n) := by
  obtain ⟨W, eW⟩ : ∃ W, W = 100 * σ.1 43 5 := ⟨_, rfl⟩
  rw [← eW]
  have lp : ∀ (m i : Nat), i ≤ n → n - i < m → fX10_burn_4 fu 43 m (nI (bnN (σ.1 52) (σ.1 53) W i)) (nI i) (bnS σ 52 53 W i) = some (nI (bnN (σ.1 52) (σ.1 53) W n), bnS σ 52 53 W n) := by
    intro m
    induction m with
    | zero => intro i _ h; omega
    | succ m ih =>
      intro i hi hm
      show fX10_burn_4b fu (fX10_burn_4 fu 43 m) 43 _ (nI i) _ = _
      unfold fX10_burn_4b fX10_burn_61
      rw [bnS_r σ W i 43 (by omega) (by omega), hz, ← eW]
      simp only [nm]
      by_cases c : i < n
      · rw [if_neg (nI_ge c (by omega)), rv_43_20, rv_43_21, ald_nI (by omega) (by omega), ald_nI (by omega) (by omega), bnS_u σ (by omega), bnS_d, bnF_at, bnF_at]
        simp only [Option.bind_some]
        have key := ih (i + 1) (by omega) (by omega)
        rw [show bnN (σ.1 52) (σ.1 53) W (i + 1) = bnN (σ.1 52) (σ.1 53) W i + if bnC (σ.1 52) (σ.1 53) W i = true then 1 else 0 from rfl] at key
        by_cases d : bnC (σ.1 52) (σ.1 53) W i = true
        · have d' := of_decide_eq_true d
          rw [if_neg d'.1, if_neg d'.2, ast_nI (by omega) (by omega)]
          simp only [Option.bind_some]
          rw [ast_nI (by omega) (by omega)]
          simp only [Option.bind_some]
          rw [bnS_yes σ (by omega) W d, nI_1, nI_1]
          rw [if_pos d] at key
          exact key
        · rw [if_neg d, Nat.add_zero, bnS_no σ _ _ W d] at key
          by_cases e : σ.1 52 i < W
          · rw [if_pos e, nI_1]; exact key
          · rw [if_neg e]
            have : σ.1 53 i < W := Classical.byContradiction (fun q => d (decide_eq_true ⟨e, q⟩))
            rw [if_pos this, nI_1]; exact key
      · have : i = n := by omega
        subst this
        rw [if_pos (nI_le (Nat.le_refl _) (by omega))]
  unfold fX10_burn fX10_burn_0
  rw [if_pos xv_43]
  have := lp fu 0 (by omega) (by omega)
  rw [bnS_0] at this
  exact this
