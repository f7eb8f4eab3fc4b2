/-! the class's study: all sets -/
theorem wrS_row (τ : St) (i C M r : Nat) (h3 : r ≠ 23) (h4 : r ≠ 24) : (wrS τ i C M).1 r = τ.1 r := by
  unfold wrS
  rw [si_row, if_neg h4, si_row, if_neg h3]
theorem wrS_23 (τ : St) (i C M j : Nat) : (wrS τ i C M).1 23 j = if j = i then nI C else τ.1 23 j := upd_app _ _ _ _
theorem wrS_24 (τ : St) (i C M j : Nat) : (wrS τ i C M).1 24 j = if j = i then nI M else τ.1 24 j := upd_app _ _ _ _
theorem tn2 (al : Bool) : al.toNat < 2 := by cases al <;> decide
theorem tn_inj {a b : Bool} (h : a.toNat = b.toNat) : a = b := by cases a <;> cases b <;> first | rfl | exact absurd h (by decide)
/-- an entry of another state stays -/
theorem Te_wr {nb tb : Bool} {P K : Nat → Nat} {w : Nat → Nat → Nat} {n L e : Nat} {τ : St} (he : e < 8) {L' e' C M : Nat} {a' : Nat} (he' : e' < 8) (ha' : a' < 2) (hne : L ≠ L' ∨ e ≠ e') (h : Te nb tb P K w n L e τ) : Te nb tb P K w n L e (wrS τ (sIx L' e' a') C M) := by
  intro al hal
  have := h al hal
  have ne : sIx L e al.toNat ≠ sIx L' e' a' := fun q => by
    have := sIx_inj he (tn2 al) he' ha' q
    rcases hne with z | z
    · exact z this.1
    · exact z this.2.1
  rw [wrS_23, wrS_24, if_neg ne, if_neg ne]
  exact this
theorem Tb_wr {nb tb : Bool} {P K : Nat → Nat} {w : Nat → Nat → Nat} {n L : Nat} {τ : St} (hn : n ≤ 7) {e' C M a' : Nat} (he' : e' < 8) (ha' : a' < 2) (h : Tb nb tb P K w n L τ) : Tb nb tb P K w n L (wrS τ (sIx L e' a') C M) := fun L' hL hL2 e he hb => Te_wr (by omega) he' ha' (Or.inl (by omega)) (h L' hL hL2 e he hb)
theorem Sv_wr {nb tb : Bool} {P K : Nat → Nat} {w : Nat → Nat → Nat} {n : Nat} {τ : St} {i C M : Nat} (h : Sv nb tb P K w n τ) : Sv nb tb P K w n (wrS τ i C M) := h.congr (wrS_row _ _ _ _ 22 (by omega) (by omega)) (wrS_row _ _ _ _ 25 (by omega) (by omega)) (wrS_row _ _ _ _ 26 (by omega) (by omega))
theorem decG (p : Nat) : nI (p + 1) + (-1) = nI p := by
  rw [← nI_pred p, Int32.sub_eq_add_neg]
def F4 (σ τ : St) : Prop := ∀ r, r ≠ 23 → r ≠ 24 → τ.1 r = σ.1 r
theorem study32 {fu : Nat} (hf : 200 ≤ fu) {nb tb : Bool} {P K : Nat → Nat} {w : Nat → Nat → Nat} {o n : Nat} {σ : St} (hn : n ≤ 7) (hn1 : 1 ≤ n) (hw : ∀ x p, w x p ≤ 999) : ∀ (m L : Nat) (τ : St), L < 2 ^ n → L < m → Sv nb tb P K w n τ → Tb nb tb P K w n L τ → F4 σ τ → ∃ τ', fX5_study_32 fu 22 o 3 m (nI (2 ^ n - 1)) (nI L) τ = some τ' ∧ Sv nb tb P K w n τ' ∧ Tb nb tb P K w n 0 τ' ∧ F4 σ τ' ∧ τ'.1 23 14 = nI (Cq nb tb P K n 0 7 false) ∧ τ'.1 24 14 = nI (Lq nb tb P K w n 0 7 false) := by
  have pn : 2 ^ n ≤ 2 ^ 7 := Nat.pow_le_pow_right (by decide) hn
  intro m
  induction m with
  | zero => intro L τ _ h; omega
  | succ m ih =>
    intro L τ hL hm hS hT hF
    show ∃ τ', fX5_study_32b fu (fX5_study_32 fu 22 o 3 m) 22 o 3 (nI (2 ^ n - 1)) (nI L) τ = _ ∧ _
    unfold fX5_study_32b
    match L, hL, hm, hT with
    | 0, hL, hm, hT =>
      have se := settle_eq (fu := fu) (by omega) hn hn1 hw hS hL (Or.inr rfl) false hT
      have fl : sFl n 0 false = 0 := by
        unfold sFl
        rw [if_neg]
        intro q
        have := (cS_full 0 n).mp q.1 0 (by omega)
        rw [Nat.zero_testBit] at this
        exact Bool.noConfusion this
      rw [fl] at se
      rw [if_pos (by decide)]
      rw [show fX5_settle fu 22 0 7 0 0 τ = _ from se]
      refine ⟨_, rfl, Sv_wr hS, Tb_wr hn (by omega) (by decide) hT, fun r a b => by rw [wrS_row _ _ _ _ r a b]; exact hF r a b, ?_, ?_⟩
      · rw [wrS_23]; rfl
      · rw [wrS_24]; rfl
    | L + 1, hL, hm, hT =>
      rw [if_neg (show ¬ nI (L + 1) < 1 from nI_nlt (b := 1) (by omega) (by omega))]
      have L8 := p128 hn hL
      have inner : ∀ (m2 e : Nat) (τ : St), e ≤ n → n - e < m2 → Sv nb tb P K w n τ → Tb nb tb P K w n (L + 1) τ → (∀ e', e' < e → (L + 1).testBit e' = true → Te nb tb P K w n (L + 1) e' τ) → F4 σ τ → ∃ τ', fX5_study_41 fu (fX5_study_32 fu 22 o 3 m) 22 o 3 m2 (nI (2 ^ n - 1)) (nI (L + 1)) (nI e) τ = some τ' ∧ Sv nb tb P K w n τ' ∧ Tb nb tb P K w n 0 τ' ∧ F4 σ τ' ∧ τ'.1 23 14 = nI (Cq nb tb P K n 0 7 false) ∧ τ'.1 24 14 = nI (Lq nb tb P K w n 0 7 false) := by
        intro m2
        induction m2 with
        | zero => intro e τ _ h; omega
        | succ m2 ih2 =>
          intro e τ he hm2 hS hT hE hF
          show ∃ τ', fX5_study_41b fu (fX5_study_32 fu 22 o 3 m) (fX5_study_41 fu (fX5_study_32 fu 22 o 3 m) 22 o 3 m2) 22 o 3 (nI (2 ^ n - 1)) (nI (L + 1)) (nI e) τ = _ ∧ _
          unfold fX5_study_41b
          rw [hS.1]
          simp only [nm]
          by_cases c : e < n
          · rw [if_neg (nI_ge c (by omega)), isIn_eq fu (by omega) (by omega)]
            simp only [Option.bind_some]
            have lNn := mkM_lt (Nd tb K) n hn
            -- behind the first settling
            have second : ∀ τ1 : St, Sv nb tb P K w n τ1 → Tb nb tb P K w n (L + 1) τ1 → (∀ e', e' < e → (L + 1).testBit e' = true → Te nb tb P K w n (L + 1) e' τ1) → F4 σ τ1 → ((L + 1).testBit e = true → τ1.1 23 (sIx (L + 1) e 0) = nI (Cq nb tb P K n (L + 1) e false) ∧ τ1.1 24 (sIx (L + 1) e 0) = nI (Lq nb tb P K w n (L + 1) e false)) → ∃ τ', fX5_study_80 fu (fX5_study_32 fu 22 o 3 m) (fX5_study_41 fu (fX5_study_32 fu 22 o 3 m) 22 o 3 m2) 22 o 3 (nI (2 ^ n - 1)) (nI (L + 1)) (nI e) τ1 = some τ' ∧ Sv nb tb P K w n τ' ∧ Tb nb tb P K w n 0 τ' ∧ F4 σ τ' ∧ τ'.1 23 14 = nI (Cq nb tb P K n 0 7 false) ∧ τ'.1 24 14 = nI (Lq nb tb P K w n 0 7 false) := by
              intro τ1 s1 s2 s3 s4 s5
              unfold fX5_study_80 fX5_study_105
              simp only [nm]
              rw [s1.2.1, fa_and, isIn_eq fu (by have := and_lt (L := mkM (Nd tb K) n) L8; omega) (by omega), Nat.testBit_and, Nd_tb hn tb K (Or.inl c)]
              simp only [Option.bind_some]
              by_cases d : ((L + 1).testBit e && Nd tb K e) = true
              · rw [if_pos d, if_neg (by decide)]
                rw [Bool.and_eq_true] at d
                have se := settle_eq (fu := fu) (by omega) hn hn1 hw s1 hL (Or.inl c) true s2
                have fl : sFl n (L + 1) true = 0 := by unfold sFl; rw [if_neg (fun q => Bool.noConfusion q.2)]
                rw [fl] at se
                rw [show fX5_settle fu 22 (nI (L + 1)) (nI e) 1 0 τ1 = _ from se]
                simp only [Option.bind_some]
                rw [nI_1]
                refine ih2 (e + 1) _ (by omega) (by omega) (Sv_wr s1) (Tb_wr hn (by omega) (by decide) s2) (fun e' he' hb => ?_) (fun r a b => by rw [wrS_row _ _ _ _ r a b]; exact s4 r a b)
                by_cases q : e' = e
                · subst q
                  intro al hal
                  cases al with
                  | true => rw [wrS_23, wrS_24, if_pos rfl, if_pos rfl]; exact ⟨rfl, rfl⟩
                  | false =>
                    have ne : sIx (L + 1) e' (false).toNat ≠ sIx (L + 1) e' (true).toNat := fun z => by
                      have := (sIx_inj (show e' < 8 by omega) (tn2 false) (show e' < 8 by omega) (tn2 true) z).2.2
                      exact absurd this (by decide)
                    rw [wrS_23, wrS_24, if_neg ne, if_neg ne]
                    exact s5 d.1
                · exact Te_wr (by omega) (by omega) (by decide) (Or.inr q) (s3 e' (by omega) hb)
              · rw [if_neg d, if_pos rfl, nI_1]
                refine ih2 (e + 1) _ (by omega) (by omega) s1 s2 (fun e' he' hb => ?_) s4
                by_cases q : e' = e
                · subst q
                  intro al hal
                  cases al with
                  | true => exact absurd (by rw [hb, hal rfl]; rfl) d
                  | false => exact s5 hb
                · exact s3 e' (by omega) hb
            by_cases d : (L + 1).testBit e = true
            · rw [if_pos d, if_neg (by decide)]
              have se := settle_eq (fu := fu) (by omega) hn hn1 hw hS hL (Or.inl c) false hT
              have go : ∃ τ', fX5_study_77 fu (fX5_study_32 fu 22 o 3 m) (fX5_study_41 fu (fX5_study_32 fu 22 o 3 m) 22 o 3 m2) 22 o 3 (nI (2 ^ n - 1)) (nI (L + 1)) (nI e) 22 (nI (L + 1)) (nI e) 0 (nI (sFl n (L + 1) false)) τ = some τ' ∧ Sv nb tb P K w n τ' ∧ Tb nb tb P K w n 0 τ' ∧ F4 σ τ' ∧ τ'.1 23 14 = nI (Cq nb tb P K n 0 7 false) ∧ τ'.1 24 14 = nI (Lq nb tb P K w n 0 7 false) := by
                unfold fX5_study_77
                rw [show fX5_settle fu 22 (nI (L + 1)) (nI e) 0 (nI (sFl n (L + 1) false)) τ = _ from se]
                simp only [Option.bind_some]
                refine second _ (Sv_wr hS) (Tb_wr hn (by omega) (by decide) hT) (fun e' he' hb => Te_wr (by omega) (by omega) (by decide) (Or.inr (by omega)) (hE e' he' hb)) (fun r a b => by rw [wrS_row _ _ _ _ r a b]; exact hF r a b) (fun _ => ?_)
                rw [wrS_23, wrS_24]
                exact ⟨if_pos rfl, if_pos rfl⟩
              by_cases f : L + 1 = 2 ^ n - 1
              · rw [if_pos (by rw [f])]
                have fl : sFl n (L + 1) false = 1 := by
                  unfold sFl
                  rw [if_pos]
                  refine ⟨(cS_full _ n).mpr (fun k hk => ?_), rfl⟩
                  rw [f, Nat.testBit_two_pow_sub_one, decide_eq_true hk]
                rw [fl] at go
                exact go
              · rw [if_neg (fun q => f ((nI_eq (by omega) (by omega)).mp q))]
                have fl : sFl n (L + 1) false = 0 := by
                  unfold sFl
                  rw [if_neg]
                  intro q
                  refine f ((eq_full hn (by omega)).mpr ⟨(cS_full _ n).mp q.1, fun k hk => ?_⟩)
                  exact Nat.testBit_lt_two_pow (Nat.lt_of_lt_of_le hL (Nat.pow_le_pow_right (by decide) hk))
                rw [fl] at go
                exact go
            · rw [if_neg d, if_pos rfl]
              exact second τ hS hT hE hF (fun q => absurd q d)
          · have : e = n := by omega
            subst this
            rw [if_pos (nI_le (Nat.le_refl _) (by omega)), decG]
            refine ih L τ (by omega) (by omega) hS (fun L' h1 h2 e he hb => ?_) hF
            by_cases q : L' = L + 1
            · rw [q] at hb ⊢; exact hE e he hb
            · exact hT L' (by omega) h2 e he hb
      exact inner fu 0 τ (by omega) (by omega) hS hT (fun e' h => by omega) hF
/-- what study leaves -/
def Sd (nb tb : Bool) (P K : Nat → Nat) (w : Nat → Nat → Nat) (n : Nat) (τ : St) : Prop := Sv nb tb P K w n τ ∧ Tb nb tb P K w n 0 τ ∧ τ.1 23 14 = nI (Cq nb tb P K n 0 7 false) ∧ τ.1 24 14 = nI (Lq nb tb P K w n 0 7 false)
theorem study_eq {fu : Nat} (hf : 200 ≤ fu) {σ : St} {o n : Nat} {K U D V P : Nat → Nat} {tn nb tb : Bool} (h : Cv σ o n K U D V P tn nb tb) : ∃ τ', fX5_study fu 22 o 3 σ = some τ' ∧ Sf σ τ' ∧ Sd nb tb P K (wIf tn K U D V) n τ' := by
  have hn := h.hn
  have hn2 := h.hn2
  obtain ⟨σ1, e1⟩ : ∃ σ1, σ1 = si σ 22 5 (nI n) := ⟨_, rfl⟩
  have g1 : ∀ r, r ≠ 22 → σ1.1 r = σ.1 r := fun r hr => by rw [e1, si_row, if_neg hr]
  have C1 : Cv σ1 o n K U D V P tn nb tb := h.congr (fun r a b => g1 r (by have := st_far h.ho r a b; omega)) (g1 3 (by omega))
  obtain ⟨σ2, a1, a2, a3⟩ := noteWear_eq (fu := fu) (by omega) C1 (by rw [e1]; rfl)
  have C2 : Cv σ2 o n K U D V P tn nb tb := C1.congr (fun r a b => a2 r (by have := st_far h.ho r a b; omega)) (a2 3 (by omega))
  obtain ⟨σ3, b1, b2, b3, b4, b5⟩ := noteNb_eq (fu := fu) (by omega) C2 (by rw [a2 22 (by omega), e1]; rfl)
  have hS : Sv nb tb P K (wIf tn K U D V) n σ3 := by
    refine ⟨b3, b4.1, fun e he => ?_, ?_⟩
    · rcases he with q | q
      · exact b4.2 e q
      · rw [q]; exact b5
    · unfold Wg
      rw [b2 25 (by omega) (by omega)]
      exact a3
  have pn : 2 ^ n ≤ 2 ^ 7 := Nat.pow_le_pow_right (by decide) hn
  have p1 : 1 ≤ 2 ^ n := Nat.one_le_two_pow
  obtain ⟨σ4, c1, c2, c3, c4, c5, c6⟩ := study32 (o := o) hf hn (by omega) (wIf_le tn K U D V) fu (2 ^ n - 1) σ3 (by omega) (by omega) hS (fun L' h1 h2 => by omega) (fun _ _ _ => rfl)
  refine ⟨σ4, ?_, fun r hr => ?_, c2, c3, c5, c6⟩
  · unfold fX5_study fX5_study_0
    rw [if_pos xv_22, if_pos h.ho, if_pos xv_3, size_eq fu h.ho, h.hz]
    simp only [Option.bind_some, nm]
    rw [← e1, a1]
    simp only [Option.bind_some]
    rw [b1]
    simp only [Option.bind_some]
    rw [b3, bt1 n (by omega), nI_s1 p1]
    exact c1
  · rw [c4 r (by omega) (by omega), b2 r (by omega) (by omega), a2 r (by omega), g1 r (by omega)]
