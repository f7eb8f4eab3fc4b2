noncomputable def fX2_note_17 (fu : Nat) (x0 : Nat) (x1 : Int32) (x2 : Int32) (σ : St) : Option (St) :=
  nm (si σ x0 1 ((σ.1 x0 1) + x2)) fun (σ101 : St) =>
  some σ101
set_option maxHeartbeats 4000000 in
set_option maxRecDepth 100000 in
theorem tX2_note_17 {l : Launch} {D : va_G} {cA : ClassId} {bs : Nat} {ad : Nat → Nat} {p : Program} {e : Env} {s : State} {m : MethodId} {args : Array Value} {below : List Frame} {meth : Method} {c : Code} {fu : Nat} (C : Cx D cA bs ad RX2 cX2_note 3 none p s m args meth c) {x0 : Nat} {x1 : Int32} {x2 : Int32} {q : St} (hx0 : xk x0 = 0) {σ : St} (h : fX2_note_17 fu x0 x1 x2 σ = some q) : Y D cA bs ad p l e (rmY 0 0) s m args below meth c 3 0 0 (QM D cA bs ad below args s none q) σ 17 [(0, .ref (ad x0)), (1, .int x1), (2, .int x2)] [] := by
  unfold fX2_note_17 at h
  refine y_aload_n (pc := 17) (q := 0) C dX2_note_17 rfl rfl ?_
  refine y_dup (pc := 18) C dX2_note_18 rfl ?_
  refine y_geti (pc := 19) C faX2_22 rfl hx0 dX2_note_19 ?_
  refine y_iload_n (pc := 22) (q := 2) C dX2_note_22 rfl rfl ?_
  refine y_iadd (pc := 23) C dX2_note_23 ?_
  obtain ⟨σ101, eσ101, h⟩ := nmS h
  refine y_puti (pc := 24) C fpX2_22 rfl hx0 rfl rfl dX2_note_24 ?_
  rw [← eσ101]
  cases h
  exact y_vret (pc := 27) C dX2_note_27
noncomputable def fX2_note_0 (fu : Nat) (x0 : Nat) (x1 : Int32) (x2 : Int32) (σ : St) : Option (St) :=
  if x2 ≤ 0 then
    fX2_note_17 fu x0 x1 x2 σ
  else
    if (σ.1 x0 2) = (-1 : Int32) then
      nm (si σ x0 2 x1) fun (σ103 : St) =>
      fX2_note_17 fu x0 x1 x2 σ103
    else
      fX2_note_17 fu x0 x1 x2 σ
set_option maxHeartbeats 4000000 in
set_option maxRecDepth 100000 in
theorem tX2_note_0 {l : Launch} {D : va_G} {cA : ClassId} {bs : Nat} {ad : Nat → Nat} {p : Program} {e : Env} {s : State} {m : MethodId} {args : Array Value} {below : List Frame} {meth : Method} {c : Code} {fu : Nat} (C : Cx D cA bs ad RX2 cX2_note 3 none p s m args meth c) {x0 : Nat} {x1 : Int32} {x2 : Int32} {q : St} (hx0 : xk x0 = 0) {σ : St} (h : fX2_note_0 fu x0 x1 x2 σ = some q) : Y D cA bs ad p l e (rmY 0 0) s m args below meth c 3 0 0 (QM D cA bs ad below args s none q) σ 0 [(0, .ref (ad x0)), (1, .int x1), (2, .int x2)] [] := by
  unfold fX2_note_0 at h
  refine y_iload_n (pc := 0) (q := 2) C dX2_note_0 rfl rfl ?_
  refine y_if_le (pc := 1) (tgt := 17) C dX2_note_1 (by decide) (fun c101 => ?_) (fun c101 => ?_)
  · rw [if_pos c101] at h
    exact tX2_note_17 (fu := fu) C hx0 h
  · rw [if_neg c101] at h
    refine y_aload_n (pc := 4) (q := 0) C dX2_note_4 rfl rfl ?_
    refine y_geti (pc := 5) C faX2_26 rfl hx0 dX2_note_5 ?_
    refine y_iconst (pc := 8) (v := (-1 : Int32)) C dX2_note_8 (by decide) ?_
    refine y_icmp_ne (pc := 9) (tgt := 17) C dX2_note_9 (by decide) (fun c102 => ?_) (fun c102 => ?_)
    · rw [if_neg c102] at h
      exact tX2_note_17 (fu := fu) C hx0 h
    · rw [if_pos c102] at h
      refine y_aload_n (pc := 12) (q := 0) C dX2_note_12 rfl rfl ?_
      refine y_iload_n (pc := 13) (q := 1) C dX2_note_13 rfl rfl ?_
      obtain ⟨σ103, eσ103, h⟩ := nmS h
      refine y_puti (pc := 14) C fpX2_26 rfl hx0 rfl rfl dX2_note_14 ?_
      rw [← eσ103]
      exact tX2_note_17 (fu := fu) C hx0 h
noncomputable def fX2_note (fu : Nat) (x0 : Nat) (x1 : Int32) (x2 : Int32) (σ : St) : Option (St) := if xk x0 = 0 then fX2_note_0 fu x0 x1 x2 σ else none
theorem mX2_note {l : Launch} {D : va_G} {cA : ClassId} {bs fu : Nat} {ad : Nat → Nat} {x0 : Nat} {x1 : Int32} {x2 : Int32} {σ : St} {q : St} (h : fX2_note fu x0 x1 x2 σ = some q) : Ct l D cA bs ad yX2_note cX2_note 3 none 0 0 [.ref (ad x0), .int x1, .int x2] σ none q := by
  unfold fX2_note at h
  by_cases hx0 : xk x0 = 0
  case neg => rw [if_neg hx0] at h; cases h
  rw [if_pos hx0] at h
  exact Ct.of (by decide) (Nat.le_of_ble_eq_true rfl) (fun p e s m args below meth c C => tX2_note_0 (fu := fu) C hx0 h)
noncomputable def fX2_run_59 (fu : Nat) (k21 : Int32 → St → Option (St)) (x0 : Nat) (x1 : Nat) (x2 : Nat) (x3 : Nat) (x4 : Int32) (x5 : Int32) (σ : St) : Option (St) :=
  (fX8_wearForAYear fu (rf x0 0) σ).bind fun (q101 : St) =>
  (fX4_burningWear fu x2 q101).bind fun (q102 : Int32 × St) =>
  (fX8_burnWorn fu (rf x0 0) q102.1 q102.2).bind fun (q103 : Int32 × St) =>
  (fX2_note fu x0 x5 q103.1 q103.2).bind fun (q104 : St) =>
  nm (x5 + (1 : Int32)) fun (y105 : Int32) =>
  k21 y105 q104
set_option maxHeartbeats 4000000 in
set_option maxRecDepth 100000 in
theorem tX2_run_59 {l : Launch} {D : va_G} {cA : ClassId} {bs : Nat} {ad : Nat → Nat} {p : Program} {e : Env} {s : State} {m : MethodId} {args : Array Value} {below : List Frame} {meth : Method} {c : Code} {fu : Nat} (C : Cx D cA bs ad RX2 cX2_run 6 none p s m args meth c) {k21 : Int32 → St → Option (St)} {x0 : Nat} {x1 : Nat} {x2 : Nat} {x3 : Nat} {x4 : Int32} {x5 : Int32} {q : St} (hx0 : xk x0 = 0) (hx1 : xk x1 = 6) (hx2 : xk x2 = 2) (hx3 : xk x3 = 3) (hk21 : ∀ (x5 : Int32) (σ : St), k21 x5 σ = some q → Y D cA bs ad p l e (rmY 5 121) s m args below meth c 6 0 0 (QM D cA bs ad below args s none q) σ 21 [(0, .ref (ad x0)), (1, .ref (ad x1)), (2, .ref (ad x2)), (3, .ref (ad x3)), (4, .int x4), (5, .int x5)] []) {σ : St} (h : fX2_run_59 fu k21 x0 x1 x2 x3 x4 x5 σ = some q) : Y D cA bs ad p l e (rmY 5 121) s m args below meth c 6 0 0 (QM D cA bs ad below args s none q) σ 59 [(0, .ref (ad x0)), (1, .ref (ad x1)), (2, .ref (ad x2)), (3, .ref (ad x3)), (4, .int x4), (5, .int x5)] [] := by
  unfold fX2_run_59 at h
  refine y_aload_n (pc := 59) (q := 0) C dX2_run_59 rfl rfl ?_
  refine y_getr (pc := 60) C faX2_12 rfl hx0 dX2_run_60 ?_
  obtain ⟨q101, eq101, h⟩ := bdS h
  refine y_callV (pc := 63) (As := []) (rest := []) C (mX8_wearForAYear (fu := fu) eq101) vwX2_53 rfl (by decide) (rf_0_0 _ hx0) rfl rfl (Nat.le_of_ble_eq_true rfl) ⟨Nat.le_of_ble_eq_true rfl, Nat.le_of_ble_eq_true rfl⟩ ⟨Nat.le_refl _, Nat.le_refl _⟩ dX2_run_63 ?_
  show Y _ _ _ _ _ _ _ _ _ _ _ _ _ _ _ _ _ _ q101 66 [(0, .ref (ad x0)), (1, .ref (ad x1)), (2, .ref (ad x2)), (3, .ref (ad x3)), (4, .int x4), (5, .int x5)] []
  refine y_aload_n (pc := 66) (q := 0) C dX2_run_66 rfl rfl ?_
  refine y_iload (pc := 67) (q := 5) C dX2_run_67 rfl ?_
  refine y_aload_n (pc := 69) (q := 0) C dX2_run_69 rfl rfl ?_
  refine y_getr (pc := 70) C faX2_12 rfl hx0 dX2_run_70 ?_
  refine y_aload_n (pc := 73) (q := 2) C dX2_run_73 rfl rfl ?_
  obtain ⟨q102, eq102, h⟩ := bdS h
  refine y_callV (pc := 74) (As := []) (rest := [.ref (ad (rf x0 0)), .int x5, .ref (ad x0)]) C (mX4_burningWear (fu := fu) eq102) vwX2_56 rfl (by decide) hx2 rfl rfl (Nat.le_of_ble_eq_true rfl) ⟨Nat.le_of_ble_eq_true rfl, Nat.le_of_ble_eq_true rfl⟩ ⟨Nat.le_refl _, Nat.le_refl _⟩ dX2_run_74 ?_
  show Y _ _ _ _ _ _ _ _ _ _ _ _ _ _ _ _ _ _ q102.2 77 [(0, .ref (ad x0)), (1, .ref (ad x1)), (2, .ref (ad x2)), (3, .ref (ad x3)), (4, .int x4), (5, .int x5)] [.int q102.1, .ref (ad (rf x0 0)), .int x5, .ref (ad x0)]
  obtain ⟨q103, eq103, h⟩ := bdS h
  refine y_callV (pc := 77) (As := [.int q102.1]) (rest := [.int x5, .ref (ad x0)]) C (mX8_burnWorn (fu := fu) eq103) vwX2_59 rfl (by decide) (rf_0_0 _ hx0) rfl rfl (Nat.le_of_ble_eq_true rfl) ⟨Nat.le_of_ble_eq_true rfl, Nat.le_of_ble_eq_true rfl⟩ ⟨Nat.le_refl _, Nat.le_refl _⟩ dX2_run_77 ?_
  show Y _ _ _ _ _ _ _ _ _ _ _ _ _ _ _ _ _ _ q103.2 80 [(0, .ref (ad x0)), (1, .ref (ad x1)), (2, .ref (ad x2)), (3, .ref (ad x3)), (4, .int x4), (5, .int x5)] [.int q103.1, .int x5, .ref (ad x0)]
  obtain ⟨q104, eq104, h⟩ := bdS h
  refine y_callV (pc := 80) (As := [.int x5, .int q103.1]) (rest := []) C (mX2_note (fu := fu) eq104) vwX2_63 rfl (by decide) hx0 rfl rfl (Nat.le_of_ble_eq_true rfl) ⟨Nat.le_of_ble_eq_true rfl, Nat.le_of_ble_eq_true rfl⟩ ⟨Nat.le_refl _, Nat.le_refl _⟩ dX2_run_80 ?_
  show Y _ _ _ _ _ _ _ _ _ _ _ _ _ _ _ _ _ _ q104 83 [(0, .ref (ad x0)), (1, .ref (ad x1)), (2, .ref (ad x2)), (3, .ref (ad x3)), (4, .int x4), (5, .int x5)] []
  obtain ⟨y105, ey105, h⟩ := nmS h
  refine y_iinc (pc := 83) (v := y105) (k := 5) (lv' := [(5, .int y105), (0, .ref (ad x0)), (1, .ref (ad x1)), (2, .ref (ad x2)), (3, .ref (ad x3)), (4, .int x4)]) C dX2_run_83 rfl (by rw [ey105]; rfl) (by decide) rfl ?_
  refine y_goto (pc := 86) (tgt := 21) C dX2_run_86 (by decide) ?_
  refine y_sub [1, 2, 3, 4, 5, 0] (lv' := [(0, .ref (ad x0)), (1, .ref (ad x1)), (2, .ref (ad x2)), (3, .ref (ad x3)), (4, .int x4), (5, .int y105)]) rfl ?_
  exact hk21 _ _ h
noncomputable def fX2_run_21b (fu : Nat) (k21 : Int32 → St → Option (St)) (x0 : Nat) (x1 : Nat) (x2 : Nat) (x3 : Nat) (x4 : Int32) (x5 : Int32) (σ : St) : Option (St) :=
  if x4 < x5 then
    some σ
  else
    (fX5_study fu x3 (rf x0 0) x2 σ).bind fun (q102 : St) =>
    (fX5_ordersFound fu x3 q102).bind fun (q103 : Int32 × St) =>
    if q103.1 ≤ 0 then
      fX2_run_59 fu k21 x0 x1 x2 x3 x4 x5 q103.2
    else
      (fX5_bestOrder fu x3 q103.2).bind fun (q105 : Nat × St) =>
      if xk q105.1 = 4 then
      (fX4_turns fu x2 q105.2).bind fun (q107 : Int32 × St) =>
      (fX8_putDown fu (rf x0 0) q105.1 q107.1 q107.2).bind fun (q108 : St) =>
      fX2_run_59 fu k21 x0 x1 x2 x3 x4 x5 q108
      else none
set_option maxHeartbeats 4000000 in
set_option maxRecDepth 100000 in
theorem tX2_run_21b {l : Launch} {D : va_G} {cA : ClassId} {bs : Nat} {ad : Nat → Nat} {p : Program} {e : Env} {s : State} {m : MethodId} {args : Array Value} {below : List Frame} {meth : Method} {c : Code} {fu : Nat} (C : Cx D cA bs ad RX2 cX2_run 6 none p s m args meth c) {k21 : Int32 → St → Option (St)} {x0 : Nat} {x1 : Nat} {x2 : Nat} {x3 : Nat} {x4 : Int32} {x5 : Int32} {q : St} (hx0 : xk x0 = 0) (hx1 : xk x1 = 6) (hx2 : xk x2 = 2) (hx3 : xk x3 = 3) (hk21 : ∀ (x5 : Int32) (σ : St), k21 x5 σ = some q → Y D cA bs ad p l e (rmY 5 121) s m args below meth c 6 0 0 (QM D cA bs ad below args s none q) σ 21 [(0, .ref (ad x0)), (1, .ref (ad x1)), (2, .ref (ad x2)), (3, .ref (ad x3)), (4, .int x4), (5, .int x5)] []) {σ : St} (h : fX2_run_21b fu k21 x0 x1 x2 x3 x4 x5 σ = some q) : Y D cA bs ad p l e (rmY 5 121) s m args below meth c 6 0 0 (QM D cA bs ad below args s none q) σ 21 [(0, .ref (ad x0)), (1, .ref (ad x1)), (2, .ref (ad x2)), (3, .ref (ad x3)), (4, .int x4), (5, .int x5)] [] := by
  unfold fX2_run_21b at h
  refine y_iload (pc := 21) (q := 5) C dX2_run_21 rfl ?_
  refine y_iload (pc := 23) (q := 4) C dX2_run_23 rfl ?_
  refine y_icmp_gt (pc := 25) (tgt := 89) C dX2_run_25 (by decide) (fun c101 => ?_) (fun c101 => ?_)
  · rw [if_pos c101] at h
    cases h
    exact y_vret (pc := 89) C dX2_run_89
  · rw [if_neg c101] at h
    refine y_aload_n (pc := 28) (q := 3) C dX2_run_28 rfl rfl ?_
    refine y_aload_n (pc := 29) (q := 0) C dX2_run_29 rfl rfl ?_
    refine y_getr (pc := 30) C faX2_12 rfl hx0 dX2_run_30 ?_
    refine y_aload_n (pc := 33) (q := 2) C dX2_run_33 rfl rfl ?_
    obtain ⟨q102, eq102, h⟩ := bdS h
    refine y_callV (pc := 34) (As := [.ref (ad (rf x0 0)), .ref (ad x2)]) (rest := []) C (mX5_study (fu := fu) eq102) vwX2_29 rfl (by decide) hx3 rfl rfl (Nat.le_of_ble_eq_true rfl) ⟨Nat.le_of_ble_eq_true rfl, Nat.le_of_ble_eq_true rfl⟩ ⟨Nat.le_refl _, Nat.le_refl _⟩ dX2_run_34 ?_
    show Y _ _ _ _ _ _ _ _ _ _ _ _ _ _ _ _ _ _ q102 37 [(0, .ref (ad x0)), (1, .ref (ad x1)), (2, .ref (ad x2)), (3, .ref (ad x3)), (4, .int x4), (5, .int x5)] []
    refine y_aload_n (pc := 37) (q := 3) C dX2_run_37 rfl rfl ?_
    obtain ⟨q103, eq103, h⟩ := bdS h
    refine y_callV (pc := 38) (As := []) (rest := []) C (mX5_ordersFound (fu := fu) eq103) vwX2_35 rfl (by decide) hx3 rfl rfl (Nat.le_of_ble_eq_true rfl) ⟨Nat.le_of_ble_eq_true rfl, Nat.le_of_ble_eq_true rfl⟩ ⟨Nat.le_refl _, Nat.le_refl _⟩ dX2_run_38 ?_
    show Y _ _ _ _ _ _ _ _ _ _ _ _ _ _ _ _ _ _ q103.2 41 [(0, .ref (ad x0)), (1, .ref (ad x1)), (2, .ref (ad x2)), (3, .ref (ad x3)), (4, .int x4), (5, .int x5)] [.int q103.1]
    refine y_if_le (pc := 41) (tgt := 59) C dX2_run_41 (by decide) (fun c104 => ?_) (fun c104 => ?_)
    · rw [if_pos c104] at h
      exact tX2_run_59 (fu := fu) C hx0 hx1 hx2 hx3 hk21 h
    · rw [if_neg c104] at h
      refine y_aload_n (pc := 44) (q := 0) C dX2_run_44 rfl rfl ?_
      refine y_getr (pc := 45) C faX2_12 rfl hx0 dX2_run_45 ?_
      refine y_aload_n (pc := 48) (q := 3) C dX2_run_48 rfl rfl ?_
      obtain ⟨q105, eq105, h⟩ := bdS h
      refine y_callV (pc := 49) (As := []) (rest := [.ref (ad (rf x0 0))]) C (mX5_bestOrder (fu := fu) eq105) vwX2_39 rfl (by decide) hx3 rfl rfl (Nat.le_of_ble_eq_true rfl) ⟨Nat.le_of_ble_eq_true rfl, Nat.le_of_ble_eq_true rfl⟩ ⟨Nat.le_refl _, Nat.le_refl _⟩ dX2_run_49 ?_
      by_cases hr106 : xk q105.1 = 4
      case neg => rw [if_neg hr106] at h; cases h
      rw [if_pos hr106] at h
      show Y _ _ _ _ _ _ _ _ _ _ _ _ _ _ _ _ _ _ q105.2 52 [(0, .ref (ad x0)), (1, .ref (ad x1)), (2, .ref (ad x2)), (3, .ref (ad x3)), (4, .int x4), (5, .int x5)] [.ref (ad q105.1), .ref (ad (rf x0 0))]
      refine y_aload_n (pc := 52) (q := 2) C dX2_run_52 rfl rfl ?_
      obtain ⟨q107, eq107, h⟩ := bdS h
      refine y_callV (pc := 53) (As := []) (rest := [.ref (ad q105.1), .ref (ad (rf x0 0))]) C (mX4_turns (fu := fu) eq107) vwX2_43 rfl (by decide) hx2 rfl rfl (Nat.le_of_ble_eq_true rfl) ⟨Nat.le_of_ble_eq_true rfl, Nat.le_of_ble_eq_true rfl⟩ ⟨Nat.le_refl _, Nat.le_refl _⟩ dX2_run_53 ?_
      show Y _ _ _ _ _ _ _ _ _ _ _ _ _ _ _ _ _ _ q107.2 56 [(0, .ref (ad x0)), (1, .ref (ad x1)), (2, .ref (ad x2)), (3, .ref (ad x3)), (4, .int x4), (5, .int x5)] [.int q107.1, .ref (ad q105.1), .ref (ad (rf x0 0))]
      obtain ⟨q108, eq108, h⟩ := bdS h
      refine y_callV (pc := 56) (As := [.ref (ad q105.1), .int q107.1]) (rest := []) C (mX8_putDown (fu := fu) eq108) vwX2_49 rfl (by decide) (rf_0_0 _ hx0) rfl rfl (Nat.le_of_ble_eq_true rfl) ⟨Nat.le_of_ble_eq_true rfl, Nat.le_of_ble_eq_true rfl⟩ ⟨Nat.le_refl _, Nat.le_refl _⟩ dX2_run_56 ?_
      show Y _ _ _ _ _ _ _ _ _ _ _ _ _ _ _ _ _ _ q108 59 [(0, .ref (ad x0)), (1, .ref (ad x1)), (2, .ref (ad x2)), (3, .ref (ad x3)), (4, .int x4), (5, .int x5)] []
      exact tX2_run_59 (fu := fu) C hx0 hx1 hx2 hx3 hk21 h
noncomputable def fX2_run_21 (fu : Nat) (x0 : Nat) (x1 : Nat) (x2 : Nat) (x3 : Nat) (x4 : Int32) : Nat → Int32 → St → Option (St) := lp (fun k21 => fX2_run_21b fu k21 x0 x1 x2 x3 x4) (fun _ _ => none)
set_option maxHeartbeats 4000000 in
theorem tX2_run_21 {l : Launch} {D : va_G} {cA : ClassId} {bs : Nat} {ad : Nat → Nat} {p : Program} {e : Env} {s : State} {m : MethodId} {args : Array Value} {below : List Frame} {meth : Method} {c : Code} {fu : Nat} (C : Cx D cA bs ad RX2 cX2_run 6 none p s m args meth c) {x0 : Nat} {x1 : Nat} {x2 : Nat} {x3 : Nat} {x4 : Int32} {q : St} (hx0 : xk x0 = 0) (hx1 : xk x1 = 6) (hx2 : xk x2 = 2) (hx3 : xk x3 = 3)  : ∀ (n : Nat) (x5 : Int32) (σ : St), fX2_run_21 fu  x0 x1 x2 x3 x4 n x5 σ = some q → Y D cA bs ad p l e (rmY 5 121) s m args below meth c 6 0 0 (QM D cA bs ad below args s none q) σ 21 [(0, .ref (ad x0)), (1, .ref (ad x1)), (2, .ref (ad x2)), (3, .ref (ad x3)), (4, .int x4), (5, .int x5)] [] := by
  intro n
  induction n with
  | zero => intro x5 σ h; cases h
  | succ n ih => intro x5 σ h; exact tX2_run_21b (fu := fu) C hx0 hx1 hx2 hx3 ih h
noncomputable def fX2_run_0 (fu : Nat) (x0 : Nat) (x1 : Nat) (x2 : Nat) (x3 : Nat) (x4 : Int32) (σ : St) : Option (St) :=
  (fX8_copyFrom fu (rf x0 0) x1 σ).bind fun (q101 : St) =>
  nm (si q101 x0 1 (0 : Int32)) fun (σ102 : St) =>
  nm (si σ102 x0 2 (-1 : Int32)) fun (σ103 : St) =>
  fX2_run_21 fu x0 x1 x2 x3 x4 fu (1 : Int32) σ103
set_option maxHeartbeats 4000000 in
set_option maxRecDepth 100000 in
theorem tX2_run_0 {l : Launch} {D : va_G} {cA : ClassId} {bs : Nat} {ad : Nat → Nat} {p : Program} {e : Env} {s : State} {m : MethodId} {args : Array Value} {below : List Frame} {meth : Method} {c : Code} {fu : Nat} (C : Cx D cA bs ad RX2 cX2_run 6 none p s m args meth c) {x0 : Nat} {x1 : Nat} {x2 : Nat} {x3 : Nat} {x4 : Int32} {q : St} (hx0 : xk x0 = 0) (hx1 : xk x1 = 6) (hx2 : xk x2 = 2) (hx3 : xk x3 = 3) {σ : St} (h : fX2_run_0 fu x0 x1 x2 x3 x4 σ = some q) : Y D cA bs ad p l e (rmY 5 121) s m args below meth c 6 0 0 (QM D cA bs ad below args s none q) σ 0 [(0, .ref (ad x0)), (1, .ref (ad x1)), (2, .ref (ad x2)), (3, .ref (ad x3)), (4, .int x4)] [] := by
  unfold fX2_run_0 at h
  refine y_aload_n (pc := 0) (q := 0) C dX2_run_0 rfl rfl ?_
  refine y_getr (pc := 1) C faX2_12 rfl hx0 dX2_run_1 ?_
  refine y_aload_n (pc := 4) (q := 1) C dX2_run_4 rfl rfl ?_
  obtain ⟨q101, eq101, h⟩ := bdS h
  refine y_callV (pc := 5) (As := [.ref (ad x1)]) (rest := []) C (mX8_copyFrom (fu := fu) eq101) vwX2_18 rfl (by decide) (rf_0_0 _ hx0) rfl rfl (Nat.le_of_ble_eq_true rfl) ⟨Nat.le_of_ble_eq_true rfl, Nat.le_of_ble_eq_true rfl⟩ ⟨Nat.le_refl _, Nat.le_refl _⟩ dX2_run_5 ?_
  show Y _ _ _ _ _ _ _ _ _ _ _ _ _ _ _ _ _ _ q101 8 [(0, .ref (ad x0)), (1, .ref (ad x1)), (2, .ref (ad x2)), (3, .ref (ad x3)), (4, .int x4)] []
  refine y_aload_n (pc := 8) (q := 0) C dX2_run_8 rfl rfl ?_
  refine y_iconst (pc := 9) (v := (0 : Int32)) C dX2_run_9 (by decide) ?_
  obtain ⟨σ102, eσ102, h⟩ := nmS h
  refine y_puti (pc := 10) C fpX2_22 rfl hx0 rfl rfl dX2_run_10 ?_
  rw [← eσ102]
  refine y_aload_n (pc := 13) (q := 0) C dX2_run_13 rfl rfl ?_
  refine y_iconst (pc := 14) (v := (-1 : Int32)) C dX2_run_14 (by decide) ?_
  obtain ⟨σ103, eσ103, h⟩ := nmS h
  refine y_puti (pc := 15) C fpX2_26 rfl hx0 rfl rfl dX2_run_15 ?_
  rw [← eσ103]
  refine y_iconst (pc := 18) (v := (1 : Int32)) C dX2_run_18 (by decide) ?_
  refine y_istore (pc := 19) (lv' := [(5, .int (1 : Int32)), (0, .ref (ad x0)), (1, .ref (ad x1)), (2, .ref (ad x2)), (3, .ref (ad x3)), (4, .int x4)]) C dX2_run_19 (by decide) rfl ?_
  refine y_sub [1, 2, 3, 4, 5, 0] (lv' := [(0, .ref (ad x0)), (1, .ref (ad x1)), (2, .ref (ad x2)), (3, .ref (ad x3)), (4, .int x4), (5, .int (1 : Int32))]) rfl ?_
  exact tX2_run_21 (fu := fu) C hx0 hx1 hx2 hx3 fu _ _ h
noncomputable def fX2_run (fu : Nat) (x0 : Nat) (x1 : Nat) (x2 : Nat) (x3 : Nat) (x4 : Int32) (σ : St) : Option (St) := if xk x0 = 0 then if xk x1 = 6 then if xk x2 = 2 then if xk x3 = 3 then fX2_run_0 fu x0 x1 x2 x3 x4 σ else none else none else none else none
theorem mX2_run {l : Launch} {D : va_G} {cA : ClassId} {bs fu : Nat} {ad : Nat → Nat} {x0 : Nat} {x1 : Nat} {x2 : Nat} {x3 : Nat} {x4 : Int32} {σ : St} {q : St} (h : fX2_run fu x0 x1 x2 x3 x4 σ = some q) : Ct l D cA bs ad yX2_run cX2_run 6 none 5 121 [.ref (ad x0), .ref (ad x1), .ref (ad x2), .ref (ad x3), .int x4] σ none q := by
  unfold fX2_run at h
  by_cases hx0 : xk x0 = 0
  case neg => rw [if_neg hx0] at h; cases h
  rw [if_pos hx0] at h
  by_cases hx1 : xk x1 = 6
  case neg => rw [if_neg hx1] at h; cases h
  rw [if_pos hx1] at h
  by_cases hx2 : xk x2 = 2
  case neg => rw [if_neg hx2] at h; cases h
  rw [if_pos hx2] at h
  by_cases hx3 : xk x3 = 3
  case neg => rw [if_neg hx3] at h; cases h
  rw [if_pos hx3] at h
  exact Ct.of (by decide) (Nat.le_of_ble_eq_true rfl) (fun p e s m args below meth c C => tX2_run_0 (fu := fu) C hx0 hx1 hx2 hx3 h)
noncomputable def fX8_worstWear_4b (fu : Nat) (k4 : Int32 → Int32 → St → Option (Int32 × St)) (x0 : Nat) (x1 : Int32) (x2 : Int32) (σ : St) : Option (Int32 × St) :=
  if (σ.1 x0 7) ≤ x2 then
    some (x1, σ)
  else
    (ald σ (rf x0 1) 7 x2).bind fun (v102 : Int32) =>
    nm (jmax x1 v102) fun (y103 : Int32) =>
    nm (x2 + (1 : Int32)) fun (y104 : Int32) =>
    k4 y103 y104 σ
set_option maxHeartbeats 4000000 in
set_option maxRecDepth 100000 in
theorem tX8_worstWear_4b {l : Launch} {D : va_G} {cA : ClassId} {bs : Nat} {ad : Nat → Nat} {p : Program} {e : Env} {s : State} {m : MethodId} {args : Array Value} {below : List Frame} {meth : Method} {c : Code} {fu : Nat} (C : Cx D cA bs ad RX8 cX8_worstWear 3 (some .int) p s m args meth c) {k4 : Int32 → Int32 → St → Option (Int32 × St)} {x0 : Nat} {x1 : Int32} {x2 : Int32} {q : Int32 × St} (hx0 : xk x0 = 6) (hk4 : ∀ (x1 : Int32) (x2 : Int32) (σ : St), k4 x1 x2 σ = some q → Y D cA bs ad p l e (rmY 1 21) s m args below meth c 3 0 0 (QM D cA bs ad below args s (some (.int q.1)) q.2) σ 4 [(0, .ref (ad x0)), (1, .int x1), (2, .int x2)] []) {σ : St} (h : fX8_worstWear_4b fu k4 x0 x1 x2 σ = some q) : Y D cA bs ad p l e (rmY 1 21) s m args below meth c 3 0 0 (QM D cA bs ad below args s (some (.int q.1)) q.2) σ 4 [(0, .ref (ad x0)), (1, .int x1), (2, .int x2)] [] := by
  unfold fX8_worstWear_4b at h
  refine y_iload_n (pc := 4) (q := 2) C dX8_worstWear_4 rfl rfl ?_
  refine y_aload_n (pc := 5) (q := 0) C dX8_worstWear_5 rfl rfl ?_
  refine y_geti (pc := 6) C faX8_33 rfl hx0 dX8_worstWear_6 ?_
  refine y_icmp_ge (pc := 9) (tgt := 29) C dX8_worstWear_9 (by decide) (fun c101 => ?_) (fun c101 => ?_)
  · rw [if_pos c101] at h
    refine y_iload_n (pc := 29) (q := 1) C dX8_worstWear_29 rfl rfl ?_
    cases h
    exact y_iret (pc := 30) C dX8_worstWear_30
  · rw [if_neg c101] at h
    refine y_iload_n (pc := 12) (q := 1) C dX8_worstWear_12 rfl rfl ?_
    refine y_aload_n (pc := 13) (q := 0) C dX8_worstWear_13 rfl rfl ?_
    refine y_getr (pc := 14) C faX8_15 rfl hx0 dX8_worstWear_14 ?_
    refine y_iload_n (pc := 17) (q := 2) C dX8_worstWear_17 rfl rfl ?_
    obtain ⟨v102, ev102, h⟩ := bdS h
    refine y_iald (pc := 18) (n := 7) C (rf_6_1 _ hx0) (by decide) ev102 dX8_worstWear_18 ?_
    refine y_jmax (pc := 19) C jwX8_73 (Nat.le_of_ble_eq_true rfl) (Nat.le_of_ble_eq_true rfl) ⟨Nat.le_refl _, Nat.le_refl _⟩ dX8_worstWear_19 ?_
    obtain ⟨y103, ey103, h⟩ := nmS h
    refine y_nmI y103 ey103 ?_
    refine y_istore_n (pc := 22) (lv' := [(1, .int y103), (0, .ref (ad x0)), (2, .int x2)]) C dX8_worstWear_22 rfl (by decide) rfl ?_
    obtain ⟨y104, ey104, h⟩ := nmS h
    refine y_iinc (pc := 23) (v := y104) (k := 2) (lv' := [(2, .int y104), (1, .int y103), (0, .ref (ad x0))]) C dX8_worstWear_23 rfl (by rw [ey104]; rfl) (by decide) rfl ?_
    refine y_goto (pc := 26) (tgt := 4) C dX8_worstWear_26 (by decide) ?_
    refine y_sub [2, 1, 0] (lv' := [(0, .ref (ad x0)), (1, .int y103), (2, .int y104)]) rfl ?_
    exact hk4 _ _ _ h
noncomputable def fX8_worstWear_4 (fu : Nat) (x0 : Nat) : Nat → Int32 → Int32 → St → Option (Int32 × St) := lp (fun k4 => fX8_worstWear_4b fu k4 x0) (fun _ _ _ => none)
set_option maxHeartbeats 4000000 in
theorem tX8_worstWear_4 {l : Launch} {D : va_G} {cA : ClassId} {bs : Nat} {ad : Nat → Nat} {p : Program} {e : Env} {s : State} {m : MethodId} {args : Array Value} {below : List Frame} {meth : Method} {c : Code} {fu : Nat} (C : Cx D cA bs ad RX8 cX8_worstWear 3 (some .int) p s m args meth c) {x0 : Nat} {q : Int32 × St} (hx0 : xk x0 = 6)  : ∀ (n : Nat) (x1 : Int32) (x2 : Int32) (σ : St), fX8_worstWear_4 fu  x0 n x1 x2 σ = some q → Y D cA bs ad p l e (rmY 1 21) s m args below meth c 3 0 0 (QM D cA bs ad below args s (some (.int q.1)) q.2) σ 4 [(0, .ref (ad x0)), (1, .int x1), (2, .int x2)] [] := by
  intro n
  induction n with
  | zero => intro x1 x2 σ h; cases h
  | succ n ih => intro x1 x2 σ h; exact tX8_worstWear_4b (fu := fu) C hx0 ih h
noncomputable def fX8_worstWear_0 (fu : Nat) (x0 : Nat) (σ : St) : Option (Int32 × St) :=
  fX8_worstWear_4 fu x0 fu (0 : Int32) (0 : Int32) σ
set_option maxHeartbeats 4000000 in
set_option maxRecDepth 100000 in
theorem tX8_worstWear_0 {l : Launch} {D : va_G} {cA : ClassId} {bs : Nat} {ad : Nat → Nat} {p : Program} {e : Env} {s : State} {m : MethodId} {args : Array Value} {below : List Frame} {meth : Method} {c : Code} {fu : Nat} (C : Cx D cA bs ad RX8 cX8_worstWear 3 (some .int) p s m args meth c) {x0 : Nat} {q : Int32 × St} (hx0 : xk x0 = 6) {σ : St} (h : fX8_worstWear_0 fu x0 σ = some q) : Y D cA bs ad p l e (rmY 1 21) s m args below meth c 3 0 0 (QM D cA bs ad below args s (some (.int q.1)) q.2) σ 0 [(0, .ref (ad x0))] [] := by
  unfold fX8_worstWear_0 at h
  refine y_iconst (pc := 0) (v := (0 : Int32)) C dX8_worstWear_0 (by decide) ?_
  refine y_istore_n (pc := 1) (lv' := [(1, .int (0 : Int32)), (0, .ref (ad x0))]) C dX8_worstWear_1 rfl (by decide) rfl ?_
  refine y_iconst (pc := 2) (v := (0 : Int32)) C dX8_worstWear_2 (by decide) ?_
  refine y_istore_n (pc := 3) (lv' := [(2, .int (0 : Int32)), (1, .int (0 : Int32)), (0, .ref (ad x0))]) C dX8_worstWear_3 rfl (by decide) rfl ?_
  refine y_sub [2, 1, 0] (lv' := [(0, .ref (ad x0)), (1, .int (0 : Int32)), (2, .int (0 : Int32))]) rfl ?_
  exact tX8_worstWear_4 (fu := fu) C hx0 fu _ _ _ h
noncomputable def fX8_worstWear (fu : Nat) (x0 : Nat) (σ : St) : Option (Int32 × St) := if xk x0 = 6 then fX8_worstWear_0 fu x0 σ else none
theorem mX8_worstWear {l : Launch} {D : va_G} {cA : ClassId} {bs fu : Nat} {ad : Nat → Nat} {x0 : Nat} {σ : St} {q : Int32 × St} (h : fX8_worstWear fu x0 σ = some q) : Ct l D cA bs ad yX8_worstWear cX8_worstWear 3 (some .int) 1 21 [.ref (ad x0)] σ (some (.int q.1)) q.2 := by
  unfold fX8_worstWear at h
  by_cases hx0 : xk x0 = 6
  case neg => rw [if_neg hx0] at h; cases h
  rw [if_pos hx0] at h
  exact Ct.of (by decide) (Nat.le_of_ble_eq_true rfl) (fun p e s m args below meth c C => tX8_worstWear_0 (fu := fu) C hx0 h)
noncomputable def fX2_told_0 (fu : Nat) (x0 : Nat) (x1 : Int32) (σ : St) : Option (Int32 × St) :=
  if x1 = (0 : Int32) then
    some ((σ.1 x0 1), σ)
  else
  if x1 = (1 : Int32) then
    some ((σ.1 x0 2), σ)
  else
  (fX8_worstWear fu (rf x0 0) σ).bind fun (q103 : Int32 × St) =>
  some (q103.1, q103.2)
set_option maxHeartbeats 4000000 in
set_option maxRecDepth 100000 in
theorem tX2_told_0 {l : Launch} {D : va_G} {cA : ClassId} {bs : Nat} {ad : Nat → Nat} {p : Program} {e : Env} {s : State} {m : MethodId} {args : Array Value} {below : List Frame} {meth : Method} {c : Code} {fu : Nat} (C : Cx D cA bs ad RX2 cX2_told 2 (some .int) p s m args meth c) {x0 : Nat} {x1 : Int32} {q : Int32 × St} (hx0 : xk x0 = 0) {σ : St} (h : fX2_told_0 fu x0 x1 σ = some q) : Y D cA bs ad p l e (rmY 2 43) s m args below meth c 2 0 0 (QM D cA bs ad below args s (some (.int q.1)) q.2) σ 0 [(0, .ref (ad x0)), (1, .int x1)] [] := by
  unfold fX2_told_0 at h
  refine y_iload_n (pc := 0) (q := 1) C dX2_told_0 rfl rfl ?_
  by_cases c101 : x1 = (0 : Int32)
  · rw [if_pos c101] at h
    refine y_look (pc := 1) (tgt := 28) (off := 27) C dX2_told_1 (by decide) (by rw [c101]; decide +kernel) (by decide) ?_
    refine y_aload_n (pc := 28) (q := 0) C dX2_told_28 rfl rfl ?_
    refine y_geti (pc := 29) C faX2_22 rfl hx0 dX2_told_29 ?_
    cases h
    exact y_iret (pc := 32) C dX2_told_32
  rw [if_neg c101] at h
  by_cases c102 : x1 = (1 : Int32)
  · rw [if_pos c102] at h
    refine y_look (pc := 1) (tgt := 33) (off := 32) C dX2_told_1 (by decide) (by rw [c102]; decide +kernel) (by decide) ?_
    refine y_aload_n (pc := 33) (q := 0) C dX2_told_33 rfl rfl ?_
    refine y_geti (pc := 34) C faX2_26 rfl hx0 dX2_told_34 ?_
    cases h
    exact y_iret (pc := 37) C dX2_told_37
  rw [if_neg c102] at h
  refine y_look (pc := 1) (tgt := 38) (off := 37) C dX2_told_1 (by decide) (by show Op.lookupswitch.offset _ _ _ = _; rw [lv_osw c101 (by decide), lv_osw c102 (by decide)]; rfl) (by decide) ?_
  refine y_aload_n (pc := 38) (q := 0) C dX2_told_38 rfl rfl ?_
  refine y_getr (pc := 39) C faX2_12 rfl hx0 dX2_told_39 ?_
  obtain ⟨q103, eq103, h⟩ := bdS h
  refine y_callV (pc := 42) (As := []) (rest := []) C (mX8_worstWear (fu := fu) eq103) vwX2_67 rfl (by decide) (rf_0_0 _ hx0) rfl rfl (Nat.le_of_ble_eq_true rfl) ⟨Nat.le_of_ble_eq_true rfl, Nat.le_of_ble_eq_true rfl⟩ ⟨Nat.le_refl _, Nat.le_refl _⟩ dX2_told_42 ?_
  show Y _ _ _ _ _ _ _ _ _ _ _ _ _ _ _ _ _ _ q103.2 45 [(0, .ref (ad x0)), (1, .int x1)] [.int q103.1]
  cases h
  exact y_iret (pc := 45) C dX2_told_45
noncomputable def fX2_told (fu : Nat) (x0 : Nat) (x1 : Int32) (σ : St) : Option (Int32 × St) := if xk x0 = 0 then fX2_told_0 fu x0 x1 σ else none
theorem mX2_told {l : Launch} {D : va_G} {cA : ClassId} {bs fu : Nat} {ad : Nat → Nat} {x0 : Nat} {x1 : Int32} {σ : St} {q : Int32 × St} (h : fX2_told fu x0 x1 σ = some q) : Ct l D cA bs ad yX2_told cX2_told 2 (some .int) 2 43 [.ref (ad x0), .int x1] σ (some (.int q.1)) q.2 := by
  unfold fX2_told at h
  by_cases hx0 : xk x0 = 0
  case neg => rw [if_neg hx0] at h; cases h
  rw [if_pos hx0] at h
  exact Ct.of (by decide) (Nat.le_of_ble_eq_true rfl) (fun p e s m args below meth c C => tX2_told_0 (fu := fu) C hx0 h)
noncomputable def fX8_wasOf_0 (fu : Nat) (x0 : Nat) (x1 : Int32) (σ : St) : Option (Int32 × St) :=
  (ald σ (rf x0 3) 7 x1).bind fun (v101 : Int32) =>
  some (v101, σ)
set_option maxHeartbeats 4000000 in
set_option maxRecDepth 100000 in
theorem tX8_wasOf_0 {l : Launch} {D : va_G} {cA : ClassId} {bs : Nat} {ad : Nat → Nat} {p : Program} {e : Env} {s : State} {m : MethodId} {args : Array Value} {below : List Frame} {meth : Method} {c : Code} {fu : Nat} (C : Cx D cA bs ad RX8 cX8_wasOf 2 (some .int) p s m args meth c) {x0 : Nat} {x1 : Int32} {q : Int32 × St} (hx0 : xk x0 = 6) {σ : St} (h : fX8_wasOf_0 fu x0 x1 σ = some q) : Y D cA bs ad p l e (rmY 0 0) s m args below meth c 2 0 0 (QM D cA bs ad below args s (some (.int q.1)) q.2) σ 0 [(0, .ref (ad x0)), (1, .int x1)] [] := by
  unfold fX8_wasOf_0 at h
  refine y_aload_n (pc := 0) (q := 0) C dX8_wasOf_0 rfl rfl ?_
  refine y_getr (pc := 1) C faX8_21 rfl hx0 dX8_wasOf_1 ?_
  refine y_iload_n (pc := 4) (q := 1) C dX8_wasOf_4 rfl rfl ?_
  obtain ⟨v101, ev101, h⟩ := bdS h
  refine y_iald (pc := 5) (n := 7) C (rf_6_3 _ hx0) (by decide) ev101 dX8_wasOf_5 ?_
  cases h
  exact y_iret (pc := 6) C dX8_wasOf_6
noncomputable def fX8_wasOf (fu : Nat) (x0 : Nat) (x1 : Int32) (σ : St) : Option (Int32 × St) := if xk x0 = 6 then fX8_wasOf_0 fu x0 x1 σ else none
theorem mX8_wasOf {l : Launch} {D : va_G} {cA : ClassId} {bs fu : Nat} {ad : Nat → Nat} {x0 : Nat} {x1 : Int32} {σ : St} {q : Int32 × St} (h : fX8_wasOf fu x0 x1 σ = some q) : Ct l D cA bs ad yX8_wasOf cX8_wasOf 2 (some .int) 0 0 [.ref (ad x0), .int x1] σ (some (.int q.1)) q.2 := by
  unfold fX8_wasOf at h
  by_cases hx0 : xk x0 = 6
  case neg => rw [if_neg hx0] at h; cases h
  rw [if_pos hx0] at h
  exact Ct.of (by decide) (Nat.le_of_ble_eq_true rfl) (fun p e s m args below meth c C => tX8_wasOf_0 (fu := fu) C hx0 h)
noncomputable def fX8_aboveOf_0 (fu : Nat) (x0 : Nat) (x1 : Int32) (σ : St) : Option (Int32 × St) :=
  (ald σ (rf x0 1) 7 x1).bind fun (v101 : Int32) =>
  some (v101, σ)
set_option maxHeartbeats 4000000 in
set_option maxRecDepth 100000 in
theorem tX8_aboveOf_0 {l : Launch} {D : va_G} {cA : ClassId} {bs : Nat} {ad : Nat → Nat} {p : Program} {e : Env} {s : State} {m : MethodId} {args : Array Value} {below : List Frame} {meth : Method} {c : Code} {fu : Nat} (C : Cx D cA bs ad RX8 cX8_aboveOf 2 (some .int) p s m args meth c) {x0 : Nat} {x1 : Int32} {q : Int32 × St} (hx0 : xk x0 = 6) {σ : St} (h : fX8_aboveOf_0 fu x0 x1 σ = some q) : Y D cA bs ad p l e (rmY 0 0) s m args below meth c 2 0 0 (QM D cA bs ad below args s (some (.int q.1)) q.2) σ 0 [(0, .ref (ad x0)), (1, .int x1)] [] := by
  unfold fX8_aboveOf_0 at h
  refine y_aload_n (pc := 0) (q := 0) C dX8_aboveOf_0 rfl rfl ?_
  refine y_getr (pc := 1) C faX8_15 rfl hx0 dX8_aboveOf_1 ?_
  refine y_iload_n (pc := 4) (q := 1) C dX8_aboveOf_4 rfl rfl ?_
  obtain ⟨v101, ev101, h⟩ := bdS h
  refine y_iald (pc := 5) (n := 7) C (rf_6_1 _ hx0) (by decide) ev101 dX8_aboveOf_5 ?_
  cases h
  exact y_iret (pc := 6) C dX8_aboveOf_6
noncomputable def fX8_aboveOf (fu : Nat) (x0 : Nat) (x1 : Int32) (σ : St) : Option (Int32 × St) := if xk x0 = 6 then fX8_aboveOf_0 fu x0 x1 σ else none
theorem mX8_aboveOf {l : Launch} {D : va_G} {cA : ClassId} {bs fu : Nat} {ad : Nat → Nat} {x0 : Nat} {x1 : Int32} {σ : St} {q : Int32 × St} (h : fX8_aboveOf fu x0 x1 σ = some q) : Ct l D cA bs ad yX8_aboveOf cX8_aboveOf 2 (some .int) 0 0 [.ref (ad x0), .int x1] σ (some (.int q.1)) q.2 := by
  unfold fX8_aboveOf at h
  by_cases hx0 : xk x0 = 6
  case neg => rw [if_neg hx0] at h; cases h
  rw [if_pos hx0] at h
  exact Ct.of (by decide) (Nat.le_of_ble_eq_true rfl) (fun p e s m args below meth c C => tX8_aboveOf_0 (fu := fu) C hx0 h)
noncomputable def fX3_fits_31 (fu : Nat) (x0 : Nat) (x1 : Int32) (x2 : Int32) (s0 : Int32) (σ : St) : Option (Int32 × St) :=
  if s0 = 0 ∨ s0 = 1 then some (s0, σ) else none
set_option maxHeartbeats 4000000 in
set_option maxRecDepth 100000 in
theorem tX3_fits_31 {l : Launch} {D : va_G} {cA : ClassId} {bs : Nat} {ad : Nat → Nat} {p : Program} {e : Env} {s : State} {m : MethodId} {args : Array Value} {below : List Frame} {meth : Method} {c : Code} {fu : Nat} (C : Cx D cA bs ad RX3 cX3_fits 4 (some .boolean) p s m args meth c) {x0 : Nat} {x1 : Int32} {x2 : Int32} {s0 : Int32} {q : Int32 × St} (hx0 : xk x0 = 6) {σ : St} (h : fX3_fits_31 fu x0 x1 x2 s0 σ = some q) : Y D cA bs ad p l e (rmY 2 46) s m args below meth c 4 0 0 (QM D cA bs ad below args s (some (.int q.1)) q.2) σ 31 [(0, .ref (ad x0)), (1, .int x1), (2, .int x2)] [.int s0] := by
  unfold fX3_fits_31 at h
  by_cases c101 : s0 = 0 ∨ s0 = 1
  case neg => rw [if_neg c101] at h; cases h
  rw [if_pos c101] at h
  cases h
  exact y_zret (pc := 31) C c101 dX3_fits_31
noncomputable def fX3_fits_26 (fu : Nat) (x0 : Nat) (x1 : Int32) (x2 : Int32) (σ : St) : Option (Int32 × St) :=
  fX3_fits_31 fu x0 x1 x2 (1 : Int32) σ
set_option maxHeartbeats 4000000 in
set_option maxRecDepth 100000 in
theorem tX3_fits_26 {l : Launch} {D : va_G} {cA : ClassId} {bs : Nat} {ad : Nat → Nat} {p : Program} {e : Env} {s : State} {m : MethodId} {args : Array Value} {below : List Frame} {meth : Method} {c : Code} {fu : Nat} (C : Cx D cA bs ad RX3 cX3_fits 4 (some .boolean) p s m args meth c) {x0 : Nat} {x1 : Int32} {x2 : Int32} {q : Int32 × St} (hx0 : xk x0 = 6) {σ : St} (h : fX3_fits_26 fu x0 x1 x2 σ = some q) : Y D cA bs ad p l e (rmY 2 46) s m args below meth c 4 0 0 (QM D cA bs ad below args s (some (.int q.1)) q.2) σ 26 [(0, .ref (ad x0)), (1, .int x1), (2, .int x2)] [] := by
  unfold fX3_fits_26 at h
  refine y_iconst (pc := 26) (v := (1 : Int32)) C dX3_fits_26 (by decide) ?_
  refine y_goto (pc := 27) (tgt := 31) C dX3_fits_27 (by decide) ?_
  exact tX3_fits_31 (fu := fu) C hx0 h
noncomputable def fX3_fits_0 (fu : Nat) (x0 : Nat) (x1 : Int32) (x2 : Int32) (σ : St) : Option (Int32 × St) :=
  (fX8_wasOf fu x0 x1 σ).bind fun (q101 : Int32 × St) =>
  if q101.1 = (-1 : Int32) then
    fX3_fits_26 fu x0 x1 x2 q101.2
  else
    (fX8_wornHead fu x0 q101.1 x1 x2 q101.2).bind fun (q103 : Int32 × St) =>
    (fX8_aboveOf fu x0 x1 q103.2).bind fun (q104 : Int32 × St) =>
    if q103.1 = q104.1 then
      fX3_fits_26 fu x0 x1 x2 q104.2
    else
      fX3_fits_31 fu x0 x1 x2 (0 : Int32) q104.2
set_option maxHeartbeats 4000000 in
set_option maxRecDepth 100000 in
theorem tX3_fits_0 {l : Launch} {D : va_G} {cA : ClassId} {bs : Nat} {ad : Nat → Nat} {p : Program} {e : Env} {s : State} {m : MethodId} {args : Array Value} {below : List Frame} {meth : Method} {c : Code} {fu : Nat} (C : Cx D cA bs ad RX3 cX3_fits 4 (some .boolean) p s m args meth c) {x0 : Nat} {x1 : Int32} {x2 : Int32} {q : Int32 × St} (hx0 : xk x0 = 6) {σ : St} (h : fX3_fits_0 fu x0 x1 x2 σ = some q) : Y D cA bs ad p l e (rmY 2 46) s m args below meth c 4 0 0 (QM D cA bs ad below args s (some (.int q.1)) q.2) σ 0 [(0, .ref (ad x0)), (1, .int x1), (2, .int x2)] [] := by
  unfold fX3_fits_0 at h
  refine y_aload_n (pc := 0) (q := 0) C dX3_fits_0 rfl rfl ?_
  refine y_iload_n (pc := 1) (q := 1) C dX3_fits_1 rfl rfl ?_
  obtain ⟨q101, eq101, h⟩ := bdS h
  refine y_callV (pc := 2) (As := [.int x1]) (rest := []) C (mX8_wasOf (fu := fu) eq101) vwX3_72 rfl (by decide) hx0 rfl rfl (Nat.le_of_ble_eq_true rfl) ⟨Nat.le_of_ble_eq_true rfl, Nat.le_of_ble_eq_true rfl⟩ ⟨Nat.le_refl _, Nat.le_refl _⟩ dX3_fits_2 ?_
  show Y _ _ _ _ _ _ _ _ _ _ _ _ _ _ _ _ _ _ q101.2 5 [(0, .ref (ad x0)), (1, .int x1), (2, .int x2)] [.int q101.1]
  refine y_istore_n (pc := 5) (lv' := [(3, .int q101.1), (0, .ref (ad x0)), (1, .int x1), (2, .int x2)]) C dX3_fits_5 rfl (by decide) rfl ?_
  refine y_iload_n (pc := 6) (q := 0) C dX3_fits_6 rfl rfl ?_
  refine y_iconst (pc := 7) (v := (-1 : Int32)) C dX3_fits_7 (by decide) ?_
  refine y_icmp_eq (pc := 8) (tgt := 26) C dX3_fits_8 (by decide) (fun c102 => ?_) (fun c102 => ?_)
  · rw [if_pos c102] at h
    refine y_sub [1, 2, 3] (lv' := [(0, .ref (ad x0)), (1, .int x1), (2, .int x2)]) rfl ?_
    exact tX3_fits_26 (fu := fu) C hx0 h
  · rw [if_neg c102] at h
    refine y_aload_n (pc := 11) (q := 1) C dX3_fits_11 rfl rfl ?_
    refine y_iload_n (pc := 12) (q := 0) C dX3_fits_12 rfl rfl ?_
    refine y_iload_n (pc := 13) (q := 2) C dX3_fits_13 rfl rfl ?_
    refine y_iload_n (pc := 14) (q := 3) C dX3_fits_14 rfl rfl ?_
    obtain ⟨q103, eq103, h⟩ := bdS h
    refine y_callV (pc := 15) (As := [.int q101.1, .int x1, .int x2]) (rest := []) C (mX8_wornHead (fu := fu) eq103) vwX3_75 rfl (by decide) hx0 rfl rfl (Nat.le_of_ble_eq_true rfl) ⟨Nat.le_of_ble_eq_true rfl, Nat.le_of_ble_eq_true rfl⟩ ⟨Nat.le_refl _, Nat.le_refl _⟩ dX3_fits_15 ?_
    show Y _ _ _ _ _ _ _ _ _ _ _ _ _ _ _ _ _ _ q103.2 18 [(3, .int q101.1), (0, .ref (ad x0)), (1, .int x1), (2, .int x2)] [.int q103.1]
    refine y_aload_n (pc := 18) (q := 1) C dX3_fits_18 rfl rfl ?_
    refine y_iload_n (pc := 19) (q := 2) C dX3_fits_19 rfl rfl ?_
    obtain ⟨q104, eq104, h⟩ := bdS h
    refine y_callV (pc := 20) (As := [.int x1]) (rest := [.int q103.1]) C (mX8_aboveOf (fu := fu) eq104) vwX3_79 rfl (by decide) hx0 rfl rfl (Nat.le_of_ble_eq_true rfl) ⟨Nat.le_of_ble_eq_true rfl, Nat.le_of_ble_eq_true rfl⟩ ⟨Nat.le_refl _, Nat.le_refl _⟩ dX3_fits_20 ?_
    show Y _ _ _ _ _ _ _ _ _ _ _ _ _ _ _ _ _ _ q104.2 23 [(3, .int q101.1), (0, .ref (ad x0)), (1, .int x1), (2, .int x2)] [.int q104.1, .int q103.1]
    refine y_icmp_ne (pc := 23) (tgt := 30) C dX3_fits_23 (by decide) (fun c105 => ?_) (fun c105 => ?_)
    · rw [if_neg c105] at h
      refine y_iconst (pc := 30) (v := (0 : Int32)) C dX3_fits_30 (by decide) ?_
      refine y_sub [1, 2, 3] (lv' := [(0, .ref (ad x0)), (1, .int x1), (2, .int x2)]) rfl ?_
      exact tX3_fits_31 (fu := fu) C hx0 h
    · rw [if_pos c105] at h
      refine y_sub [1, 2, 3] (lv' := [(0, .ref (ad x0)), (1, .int x1), (2, .int x2)]) rfl ?_
      exact tX3_fits_26 (fu := fu) C hx0 h
noncomputable def fX3_fits (fu : Nat) (x0 : Nat) (x1 : Int32) (x2 : Int32) (σ : St) : Option (Int32 × St) := if xk x0 = 6 then fX3_fits_0 fu x0 x1 x2 σ else none
theorem mX3_fits {l : Launch} {D : va_G} {cA : ClassId} {bs fu : Nat} {ad : Nat → Nat} {x0 : Nat} {x1 : Int32} {x2 : Int32} {σ : St} {q : Int32 × St} (h : fX3_fits fu x0 x1 x2 σ = some q) : Ct l D cA bs ad yX3_fits cX3_fits 4 (some .boolean) 2 46 [.ref (ad x0), .int x1, .int x2] σ (some (.int q.1)) q.2 := by
  unfold fX3_fits at h
  by_cases hx0 : xk x0 = 6
  case neg => rw [if_neg hx0] at h; cases h
  rw [if_pos hx0] at h
  exact Ct.of (by decide) (Nat.le_of_ble_eq_true rfl) (fun p e s m args below meth c C => tX3_fits_0 (fu := fu) C hx0 h)
noncomputable def fX3_placesFitting_27 (fu : Nat) (k4 : Int32 → Int32 → St → Option (Int32 × St)) (x0 : Nat) (x1 : Int32) (x2 : Int32) (x3 : Int32) (σ : St) : Option (Int32 × St) :=
  nm (x3 + (1 : Int32)) fun (y101 : Int32) =>
  k4 x2 y101 σ
set_option maxHeartbeats 4000000 in
set_option maxRecDepth 100000 in
theorem tX3_placesFitting_27 {l : Launch} {D : va_G} {cA : ClassId} {bs : Nat} {ad : Nat → Nat} {p : Program} {e : Env} {s : State} {m : MethodId} {args : Array Value} {below : List Frame} {meth : Method} {c : Code} {fu : Nat} (C : Cx D cA bs ad RX3 cX3_placesFitting 4 (some .int) p s m args meth c) {k4 : Int32 → Int32 → St → Option (Int32 × St)} {x0 : Nat} {x1 : Int32} {x2 : Int32} {x3 : Int32} {q : Int32 × St} (hx0 : xk x0 = 6) (hk4 : ∀ (x2 : Int32) (x3 : Int32) (σ : St), k4 x2 x3 σ = some q → Y D cA bs ad p l e (rmY 3 69) s m args below meth c 4 0 0 (QM D cA bs ad below args s (some (.int q.1)) q.2) σ 4 [(0, .ref (ad x0)), (1, .int x1), (2, .int x2), (3, .int x3)] []) {σ : St} (h : fX3_placesFitting_27 fu k4 x0 x1 x2 x3 σ = some q) : Y D cA bs ad p l e (rmY 3 69) s m args below meth c 4 0 0 (QM D cA bs ad below args s (some (.int q.1)) q.2) σ 27 [(0, .ref (ad x0)), (1, .int x1), (2, .int x2), (3, .int x3)] [] := by
  unfold fX3_placesFitting_27 at h
  obtain ⟨y101, ey101, h⟩ := nmS h
  refine y_iinc (pc := 27) (v := y101) (k := 3) (lv' := [(3, .int y101), (0, .ref (ad x0)), (1, .int x1), (2, .int x2)]) C dX3_placesFitting_27 rfl (by rw [ey101]; rfl) (by decide) rfl ?_
  refine y_goto (pc := 30) (tgt := 4) C dX3_placesFitting_30 (by decide) ?_
  refine y_sub [1, 2, 3, 0] (lv' := [(0, .ref (ad x0)), (1, .int x1), (2, .int x2), (3, .int y101)]) rfl ?_
  exact hk4 _ _ _ h
noncomputable def fX3_placesFitting_4b (fu : Nat) (k4 : Int32 → Int32 → St → Option (Int32 × St)) (x0 : Nat) (x1 : Int32) (x2 : Int32) (x3 : Int32) (σ : St) : Option (Int32 × St) :=
  (fX8_size fu x0 σ).bind fun (q101 : Int32 × St) =>
  if q101.1 ≤ x3 then
    some (x2, q101.2)
  else
    (fX3_fits fu x0 x1 x3 q101.2).bind fun (q103 : Int32 × St) =>
    if q103.1 = 0 then
      fX3_placesFitting_27 fu k4 x0 x1 x2 x3 q103.2
    else
      nm (x2 ||| ((1 : Int32) <<< (x3 &&& 31))) fun (y105 : Int32) =>
      fX3_placesFitting_27 fu k4 x0 x1 y105 x3 q103.2
set_option maxHeartbeats 4000000 in
set_option maxRecDepth 100000 in
theorem tX3_placesFitting_4b {l : Launch} {D : va_G} {cA : ClassId} {bs : Nat} {ad : Nat → Nat} {p : Program} {e : Env} {s : State} {m : MethodId} {args : Array Value} {below : List Frame} {meth : Method} {c : Code} {fu : Nat} (C : Cx D cA bs ad RX3 cX3_placesFitting 4 (some .int) p s m args meth c) {k4 : Int32 → Int32 → St → Option (Int32 × St)} {x0 : Nat} {x1 : Int32} {x2 : Int32} {x3 : Int32} {q : Int32 × St} (hx0 : xk x0 = 6) (hk4 : ∀ (x2 : Int32) (x3 : Int32) (σ : St), k4 x2 x3 σ = some q → Y D cA bs ad p l e (rmY 3 69) s m args below meth c 4 0 0 (QM D cA bs ad below args s (some (.int q.1)) q.2) σ 4 [(0, .ref (ad x0)), (1, .int x1), (2, .int x2), (3, .int x3)] []) {σ : St} (h : fX3_placesFitting_4b fu k4 x0 x1 x2 x3 σ = some q) : Y D cA bs ad p l e (rmY 3 69) s m args below meth c 4 0 0 (QM D cA bs ad below args s (some (.int q.1)) q.2) σ 4 [(0, .ref (ad x0)), (1, .int x1), (2, .int x2), (3, .int x3)] [] := by
  unfold fX3_placesFitting_4b at h
  refine y_iload_n (pc := 4) (q := 3) C dX3_placesFitting_4 rfl rfl ?_
  refine y_aload_n (pc := 5) (q := 0) C dX3_placesFitting_5 rfl rfl ?_
  obtain ⟨q101, eq101, h⟩ := bdS h
  refine y_callV (pc := 6) (As := []) (rest := [.int x3]) C (mX8_size (fu := fu) eq101) vwX3_25 rfl (by decide) hx0 rfl rfl (Nat.le_of_ble_eq_true rfl) ⟨Nat.le_of_ble_eq_true rfl, Nat.le_of_ble_eq_true rfl⟩ ⟨Nat.le_refl _, Nat.le_refl _⟩ dX3_placesFitting_6 ?_
  show Y _ _ _ _ _ _ _ _ _ _ _ _ _ _ _ _ _ _ q101.2 9 [(0, .ref (ad x0)), (1, .int x1), (2, .int x2), (3, .int x3)] [.int q101.1, .int x3]
  refine y_icmp_ge (pc := 9) (tgt := 33) C dX3_placesFitting_9 (by decide) (fun c102 => ?_) (fun c102 => ?_)
  · rw [if_pos c102] at h
    refine y_iload_n (pc := 33) (q := 2) C dX3_placesFitting_33 rfl rfl ?_
    cases h
    exact y_iret (pc := 34) C dX3_placesFitting_34
  · rw [if_neg c102] at h
    refine y_aload_n (pc := 12) (q := 0) C dX3_placesFitting_12 rfl rfl ?_
    refine y_iload_n (pc := 13) (q := 1) C dX3_placesFitting_13 rfl rfl ?_
    refine y_iload_n (pc := 14) (q := 3) C dX3_placesFitting_14 rfl rfl ?_
    obtain ⟨q103, eq103, h⟩ := bdS h
    refine y_callS (pc := 15) (As := [.ref (ad x0), .int x1, .int x3]) (rest := []) C (mX3_fits (fu := fu) eq103) vwX3_68 rfl rfl (Nat.le_of_ble_eq_true rfl) ⟨Nat.le_of_ble_eq_true rfl, Nat.le_of_ble_eq_true rfl⟩ ⟨Nat.le_refl _, Nat.le_refl _⟩ dX3_placesFitting_15 ?_
    show Y _ _ _ _ _ _ _ _ _ _ _ _ _ _ _ _ _ _ q103.2 18 [(0, .ref (ad x0)), (1, .int x1), (2, .int x2), (3, .int x3)] [.int q103.1]
    refine y_if_eq (pc := 18) (tgt := 27) C dX3_placesFitting_18 (by decide) (fun c104 => ?_) (fun c104 => ?_)
    · rw [if_pos c104] at h
      exact tX3_placesFitting_27 (fu := fu) C hx0 hk4 h
    · rw [if_neg c104] at h
      refine y_iload_n (pc := 21) (q := 2) C dX3_placesFitting_21 rfl rfl ?_
      refine y_iconst (pc := 22) (v := (1 : Int32)) C dX3_placesFitting_22 (by decide) ?_
      refine y_iload_n (pc := 23) (q := 3) C dX3_placesFitting_23 rfl rfl ?_
      refine y_ishl (pc := 24) C dX3_placesFitting_24 ?_
      refine y_ior (pc := 25) C dX3_placesFitting_25 ?_
      obtain ⟨y105, ey105, h⟩ := nmS h
      refine y_nmI y105 ey105 ?_
      refine y_istore_n (pc := 26) (lv' := [(2, .int y105), (0, .ref (ad x0)), (1, .int x1), (3, .int x3)]) C dX3_placesFitting_26 rfl (by decide) rfl ?_
      refine y_sub [1, 2, 0, 3] (lv' := [(0, .ref (ad x0)), (1, .int x1), (2, .int y105), (3, .int x3)]) rfl ?_
      exact tX3_placesFitting_27 (fu := fu) C hx0 hk4 h
noncomputable def fX3_placesFitting_4 (fu : Nat) (x0 : Nat) (x1 : Int32) : Nat → Int32 → Int32 → St → Option (Int32 × St) := lp (fun k4 => fX3_placesFitting_4b fu k4 x0 x1) (fun _ _ _ => none)
set_option maxHeartbeats 4000000 in
theorem tX3_placesFitting_4 {l : Launch} {D : va_G} {cA : ClassId} {bs : Nat} {ad : Nat → Nat} {p : Program} {e : Env} {s : State} {m : MethodId} {args : Array Value} {below : List Frame} {meth : Method} {c : Code} {fu : Nat} (C : Cx D cA bs ad RX3 cX3_placesFitting 4 (some .int) p s m args meth c) {x0 : Nat} {x1 : Int32} {q : Int32 × St} (hx0 : xk x0 = 6)  : ∀ (n : Nat) (x2 : Int32) (x3 : Int32) (σ : St), fX3_placesFitting_4 fu  x0 x1 n x2 x3 σ = some q → Y D cA bs ad p l e (rmY 3 69) s m args below meth c 4 0 0 (QM D cA bs ad below args s (some (.int q.1)) q.2) σ 4 [(0, .ref (ad x0)), (1, .int x1), (2, .int x2), (3, .int x3)] [] := by
  intro n
  induction n with
  | zero => intro x2 x3 σ h; cases h
  | succ n ih => intro x2 x3 σ h; exact tX3_placesFitting_4b (fu := fu) C hx0 ih h
noncomputable def fX3_placesFitting_0 (fu : Nat) (x0 : Nat) (x1 : Int32) (σ : St) : Option (Int32 × St) :=
  fX3_placesFitting_4 fu x0 x1 fu (0 : Int32) (0 : Int32) σ
set_option maxHeartbeats 4000000 in
set_option maxRecDepth 100000 in
theorem tX3_placesFitting_0 {l : Launch} {D : va_G} {cA : ClassId} {bs : Nat} {ad : Nat → Nat} {p : Program} {e : Env} {s : State} {m : MethodId} {args : Array Value} {below : List Frame} {meth : Method} {c : Code} {fu : Nat} (C : Cx D cA bs ad RX3 cX3_placesFitting 4 (some .int) p s m args meth c) {x0 : Nat} {x1 : Int32} {q : Int32 × St} (hx0 : xk x0 = 6) {σ : St} (h : fX3_placesFitting_0 fu x0 x1 σ = some q) : Y D cA bs ad p l e (rmY 3 69) s m args below meth c 4 0 0 (QM D cA bs ad below args s (some (.int q.1)) q.2) σ 0 [(0, .ref (ad x0)), (1, .int x1)] [] := by
  unfold fX3_placesFitting_0 at h
  refine y_iconst (pc := 0) (v := (0 : Int32)) C dX3_placesFitting_0 (by decide) ?_
  refine y_istore_n (pc := 1) (lv' := [(2, .int (0 : Int32)), (0, .ref (ad x0)), (1, .int x1)]) C dX3_placesFitting_1 rfl (by decide) rfl ?_
  refine y_iconst (pc := 2) (v := (0 : Int32)) C dX3_placesFitting_2 (by decide) ?_
  refine y_istore_n (pc := 3) (lv' := [(3, .int (0 : Int32)), (2, .int (0 : Int32)), (0, .ref (ad x0)), (1, .int x1)]) C dX3_placesFitting_3 rfl (by decide) rfl ?_
  refine y_sub [2, 3, 1, 0] (lv' := [(0, .ref (ad x0)), (1, .int x1), (2, .int (0 : Int32)), (3, .int (0 : Int32))]) rfl ?_
  exact tX3_placesFitting_4 (fu := fu) C hx0 fu _ _ _ h
noncomputable def fX3_placesFitting (fu : Nat) (x0 : Nat) (x1 : Int32) (σ : St) : Option (Int32 × St) := if xk x0 = 6 then fX3_placesFitting_0 fu x0 x1 σ else none
theorem mX3_placesFitting {l : Launch} {D : va_G} {cA : ClassId} {bs fu : Nat} {ad : Nat → Nat} {x0 : Nat} {x1 : Int32} {σ : St} {q : Int32 × St} (h : fX3_placesFitting fu x0 x1 σ = some q) : Ct l D cA bs ad yX3_placesFitting cX3_placesFitting 4 (some .int) 3 69 [.ref (ad x0), .int x1] σ (some (.int q.1)) q.2 := by
  unfold fX3_placesFitting at h
  by_cases hx0 : xk x0 = 6
  case neg => rw [if_neg hx0] at h; cases h
  rw [if_pos hx0] at h
  exact Ct.of (by decide) (Nat.le_of_ble_eq_true rfl) (fun p e s m args below meth c C => tX3_placesFitting_0 (fu := fu) C hx0 h)
noncomputable def fX3_mayCome_27 (fu : Nat) (x0 : Nat) (x1 : Int32) (x2 : Int32) (x3 : Int32) (s0 : Int32) (σ : St) : Option (Int32 × St) :=
  if s0 = 0 ∨ s0 = 1 then some (s0, σ) else none
set_option maxHeartbeats 4000000 in
set_option maxRecDepth 100000 in
theorem tX3_mayCome_27 {l : Launch} {D : va_G} {cA : ClassId} {bs : Nat} {ad : Nat → Nat} {p : Program} {e : Env} {s : State} {m : MethodId} {args : Array Value} {below : List Frame} {meth : Method} {c : Code} {fu : Nat} (C : Cx D cA bs ad RX3 cX3_mayCome 4 (some .boolean) p s m args meth c) {x0 : Nat} {x1 : Int32} {x2 : Int32} {x3 : Int32} {s0 : Int32} {q : Int32 × St} (hx0 : xk x0 = 1) {σ : St} (h : fX3_mayCome_27 fu x0 x1 x2 x3 s0 σ = some q) : Y D cA bs ad p l e (rmY 0 0) s m args below meth c 4 0 0 (QM D cA bs ad below args s (some (.int q.1)) q.2) σ 27 [(0, .ref (ad x0)), (1, .int x1), (2, .int x2), (3, .int x3)] [.int s0] := by
  unfold fX3_mayCome_27 at h
  by_cases c101 : s0 = 0 ∨ s0 = 1
  case neg => rw [if_neg c101] at h; cases h
  rw [if_pos c101] at h
  cases h
  exact y_zret (pc := 27) C c101 dX3_mayCome_27
noncomputable def fX3_mayCome_26 (fu : Nat) (x0 : Nat) (x1 : Int32) (x2 : Int32) (x3 : Int32) (σ : St) : Option (Int32 × St) :=
  fX3_mayCome_27 fu x0 x1 x2 x3 (0 : Int32) σ
set_option maxHeartbeats 4000000 in
set_option maxRecDepth 100000 in
theorem tX3_mayCome_26 {l : Launch} {D : va_G} {cA : ClassId} {bs : Nat} {ad : Nat → Nat} {p : Program} {e : Env} {s : State} {m : MethodId} {args : Array Value} {below : List Frame} {meth : Method} {c : Code} {fu : Nat} (C : Cx D cA bs ad RX3 cX3_mayCome 4 (some .boolean) p s m args meth c) {x0 : Nat} {x1 : Int32} {x2 : Int32} {x3 : Int32} {q : Int32 × St} (hx0 : xk x0 = 1) {σ : St} (h : fX3_mayCome_26 fu x0 x1 x2 x3 σ = some q) : Y D cA bs ad p l e (rmY 0 0) s m args below meth c 4 0 0 (QM D cA bs ad below args s (some (.int q.1)) q.2) σ 26 [(0, .ref (ad x0)), (1, .int x1), (2, .int x2), (3, .int x3)] [] := by
  unfold fX3_mayCome_26 at h
  refine y_iconst (pc := 26) (v := (0 : Int32)) C dX3_mayCome_26 (by decide) ?_
  exact tX3_mayCome_27 (fu := fu) C hx0 h
noncomputable def fX3_mayCome_0 (fu : Nat) (x0 : Nat) (x1 : Int32) (x2 : Int32) (x3 : Int32) (σ : St) : Option (Int32 × St) :=
  if ((x1 >>> (x2 &&& 31)) &&& (1 : Int32)) = 0 then
    (ald σ (rf x0 1) 7 x2).bind fun (v102 : Int32) =>
    if ((v102 >>> (x3 &&& 31)) &&& (1 : Int32)) = (1 : Int32) then
      fX3_mayCome_27 fu x0 x1 x2 x3 (1 : Int32) σ
    else
      fX3_mayCome_26 fu x0 x1 x2 x3 σ
  else
    fX3_mayCome_26 fu x0 x1 x2 x3 σ
set_option maxHeartbeats 4000000 in
set_option maxRecDepth 100000 in
theorem tX3_mayCome_0 {l : Launch} {D : va_G} {cA : ClassId} {bs : Nat} {ad : Nat → Nat} {p : Program} {e : Env} {s : State} {m : MethodId} {args : Array Value} {below : List Frame} {meth : Method} {c : Code} {fu : Nat} (C : Cx D cA bs ad RX3 cX3_mayCome 4 (some .boolean) p s m args meth c) {x0 : Nat} {x1 : Int32} {x2 : Int32} {x3 : Int32} {q : Int32 × St} (hx0 : xk x0 = 1) {σ : St} (h : fX3_mayCome_0 fu x0 x1 x2 x3 σ = some q) : Y D cA bs ad p l e (rmY 0 0) s m args below meth c 4 0 0 (QM D cA bs ad below args s (some (.int q.1)) q.2) σ 0 [(0, .ref (ad x0)), (1, .int x1), (2, .int x2), (3, .int x3)] [] := by
  unfold fX3_mayCome_0 at h
  refine y_iload_n (pc := 0) (q := 1) C dX3_mayCome_0 rfl rfl ?_
  refine y_iload_n (pc := 1) (q := 2) C dX3_mayCome_1 rfl rfl ?_
  refine y_ishr (pc := 2) C dX3_mayCome_2 ?_
  refine y_iconst (pc := 3) (v := (1 : Int32)) C dX3_mayCome_3 (by decide) ?_
  refine y_iand (pc := 4) C dX3_mayCome_4 ?_
  refine y_if_ne (pc := 5) (tgt := 26) C dX3_mayCome_5 (by decide) (fun c101 => ?_) (fun c101 => ?_)
  · rw [if_neg c101] at h
    exact tX3_mayCome_26 (fu := fu) C hx0 h
  · rw [if_pos c101] at h
    refine y_aload_n (pc := 8) (q := 0) C dX3_mayCome_8 rfl rfl ?_
    refine y_getr (pc := 9) C faX3_15 rfl hx0 dX3_mayCome_9 ?_
    refine y_iload_n (pc := 12) (q := 2) C dX3_mayCome_12 rfl rfl ?_
    obtain ⟨v102, ev102, h⟩ := bdS h
    refine y_iald (pc := 13) (n := 7) C (rf_1_1 _ hx0) (by decide) ev102 dX3_mayCome_13 ?_
    refine y_iload_n (pc := 14) (q := 3) C dX3_mayCome_14 rfl rfl ?_
    refine y_ishr (pc := 15) C dX3_mayCome_15 ?_
    refine y_iconst (pc := 16) (v := (1 : Int32)) C dX3_mayCome_16 (by decide) ?_
    refine y_iand (pc := 17) C dX3_mayCome_17 ?_
    refine y_iconst (pc := 18) (v := (1 : Int32)) C dX3_mayCome_18 (by decide) ?_
    refine y_icmp_ne (pc := 19) (tgt := 26) C dX3_mayCome_19 (by decide) (fun c103 => ?_) (fun c103 => ?_)
    · rw [if_neg c103] at h
      exact tX3_mayCome_26 (fu := fu) C hx0 h
    · rw [if_pos c103] at h
      refine y_iconst (pc := 22) (v := (1 : Int32)) C dX3_mayCome_22 (by decide) ?_
      refine y_goto (pc := 23) (tgt := 27) C dX3_mayCome_23 (by decide) ?_
      exact tX3_mayCome_27 (fu := fu) C hx0 h
noncomputable def fX3_mayCome (fu : Nat) (x0 : Nat) (x1 : Int32) (x2 : Int32) (x3 : Int32) (σ : St) : Option (Int32 × St) := if xk x0 = 1 then fX3_mayCome_0 fu x0 x1 x2 x3 σ else none
theorem mX3_mayCome {l : Launch} {D : va_G} {cA : ClassId} {bs fu : Nat} {ad : Nat → Nat} {x0 : Nat} {x1 : Int32} {x2 : Int32} {x3 : Int32} {σ : St} {q : Int32 × St} (h : fX3_mayCome fu x0 x1 x2 x3 σ = some q) : Ct l D cA bs ad yX3_mayCome cX3_mayCome 4 (some .boolean) 0 0 [.ref (ad x0), .int x1, .int x2, .int x3] σ (some (.int q.1)) q.2 := by
  unfold fX3_mayCome at h
  by_cases hx0 : xk x0 = 1
  case neg => rw [if_neg hx0] at h; cases h
  rw [if_pos hx0] at h
  exact Ct.of (by decide) (Nat.le_of_ble_eq_true rfl) (fun p e s m args below meth c C => tX3_mayCome_0 (fu := fu) C hx0 h)
noncomputable def fX3_countWays_71 (fu : Nat) (k20 : Int32 → St → Option (St)) (k35 : Int32 → Int32 → Int32 → Int32 → St → Option (St)) (x0 : Nat) (x2 : Int32) (x3 : Int32) (x4 : Int32) (x5 : Int32) (σ : St) : Option (St) :=
  nm (x5 + (1 : Int32)) fun (y101 : Int32) =>
  k35 x2 x3 x4 y101 σ
set_option maxHeartbeats 4000000 in
set_option maxRecDepth 100000 in
theorem tX3_countWays_71 {l : Launch} {D : va_G} {cA : ClassId} {bs : Nat} {ad : Nat → Nat} {p : Program} {e : Env} {s : State} {m : MethodId} {args : Array Value} {below : List Frame} {meth : Method} {c : Code} {fu : Nat} (C : Cx D cA bs ad RX3 cX3_countWays 6 none p s m args meth c) {k20 : Int32 → St → Option (St)} {k35 : Int32 → Int32 → Int32 → Int32 → St → Option (St)} {x0 : Nat} {x2 : Int32} {x3 : Int32} {x4 : Int32} {x5 : Int32} {q : St} (hx0 : xk x0 = 1) (hk20 : ∀ (x2 : Int32) (σ : St), k20 x2 σ = some q → Y D cA bs ad p l e (rmY 1 23) s m args below meth c 6 0 0 (QM D cA bs ad below args s none q) σ 20 [(0, .ref (ad x0)), (2, .int x2)] []) (hk35 : ∀ (x2 : Int32) (x3 : Int32) (x4 : Int32) (x5 : Int32) (σ : St), k35 x2 x3 x4 x5 σ = some q → Y D cA bs ad p l e (rmY 1 23) s m args below meth c 6 0 0 (QM D cA bs ad below args s none q) σ 35 [(0, .ref (ad x0)), (2, .int x2), (3, .int x3), (4, .int x4), (5, .int x5)] []) {σ : St} (h : fX3_countWays_71 fu k20 k35 x0 x2 x3 x4 x5 σ = some q) : Y D cA bs ad p l e (rmY 1 23) s m args below meth c 6 0 0 (QM D cA bs ad below args s none q) σ 71 [(0, .ref (ad x0)), (2, .int x2), (3, .int x3), (4, .int x4), (5, .int x5)] [] := by
  unfold fX3_countWays_71 at h
  obtain ⟨y101, ey101, h⟩ := nmS h
  refine y_iinc (pc := 71) (v := y101) (k := 4) (lv' := [(5, .int y101), (0, .ref (ad x0)), (2, .int x2), (3, .int x3), (4, .int x4)]) C dX3_countWays_71 rfl (by rw [ey101]; rfl) (by decide) rfl ?_
  refine y_goto (pc := 74) (tgt := 35) C dX3_countWays_74 (by decide) ?_
  refine y_sub [1, 2, 3, 4, 0] (lv' := [(0, .ref (ad x0)), (2, .int x2), (3, .int x3), (4, .int x4), (5, .int y101)]) rfl ?_
  exact hk35 _ _ _ _ _ h
noncomputable def fX3_countWays_35b (fu : Nat) (k20 : Int32 → St → Option (St)) (k35 : Int32 → Int32 → Int32 → Int32 → St → Option (St)) (x0 : Nat) (x2 : Int32) (x3 : Int32) (x4 : Int32) (x5 : Int32) (σ : St) : Option (St) :=
  if (σ.1 x0 3) ≤ x5 then
    (ast σ (rf x0 0) 128 x2 x4).bind fun (σ102 : St) =>
    nm (x2 + (-1 : Int32)) fun (y103 : Int32) =>
    k20 y103 σ102
  else
    (fX3_mayCome fu x0 x2 x5 x3 σ).bind fun (q104 : Int32 × St) =>
    if q104.1 = 0 then
      fX3_countWays_71 fu k20 k35 x0 x2 x3 x4 x5 q104.2
    else
      (ald q104.2 (rf x0 0) 128 (x2 ||| ((1 : Int32) <<< (x5 &&& 31)))).bind fun (v106 : Int32) =>
      nm (x4 + v106) fun (y107 : Int32) =>
      fX3_countWays_71 fu k20 k35 x0 x2 x3 y107 x5 q104.2
set_option maxHeartbeats 4000000 in
set_option maxRecDepth 100000 in
theorem tX3_countWays_35b {l : Launch} {D : va_G} {cA : ClassId} {bs : Nat} {ad : Nat → Nat} {p : Program} {e : Env} {s : State} {m : MethodId} {args : Array Value} {below : List Frame} {meth : Method} {c : Code} {fu : Nat} (C : Cx D cA bs ad RX3 cX3_countWays 6 none p s m args meth c) {k20 : Int32 → St → Option (St)} {k35 : Int32 → Int32 → Int32 → Int32 → St → Option (St)} {x0 : Nat} {x2 : Int32} {x3 : Int32} {x4 : Int32} {x5 : Int32} {q : St} (hx0 : xk x0 = 1) (hk20 : ∀ (x2 : Int32) (σ : St), k20 x2 σ = some q → Y D cA bs ad p l e (rmY 1 23) s m args below meth c 6 0 0 (QM D cA bs ad below args s none q) σ 20 [(0, .ref (ad x0)), (2, .int x2)] []) (hk35 : ∀ (x2 : Int32) (x3 : Int32) (x4 : Int32) (x5 : Int32) (σ : St), k35 x2 x3 x4 x5 σ = some q → Y D cA bs ad p l e (rmY 1 23) s m args below meth c 6 0 0 (QM D cA bs ad below args s none q) σ 35 [(0, .ref (ad x0)), (2, .int x2), (3, .int x3), (4, .int x4), (5, .int x5)] []) {σ : St} (h : fX3_countWays_35b fu k20 k35 x0 x2 x3 x4 x5 σ = some q) : Y D cA bs ad p l e (rmY 1 23) s m args below meth c 6 0 0 (QM D cA bs ad below args s none q) σ 35 [(0, .ref (ad x0)), (2, .int x2), (3, .int x3), (4, .int x4), (5, .int x5)] [] := by
  unfold fX3_countWays_35b at h
  refine y_iload (pc := 35) (q := 4) C dX3_countWays_35 rfl ?_
  refine y_aload_n (pc := 37) (q := 0) C dX3_countWays_37 rfl rfl ?_
  refine y_geti (pc := 38) C faX3_31 rfl hx0 dX3_countWays_38 ?_
  refine y_icmp_ge (pc := 41) (tgt := 77) C dX3_countWays_41 (by decide) (fun c101 => ?_) (fun c101 => ?_)
  · rw [if_pos c101] at h
    refine y_aload_n (pc := 77) (q := 0) C dX3_countWays_77 rfl rfl ?_
    refine y_getr (pc := 78) C faX3_11 rfl hx0 dX3_countWays_78 ?_
    refine y_iload_n (pc := 81) (q := 1) C dX3_countWays_81 rfl rfl ?_
    refine y_iload (pc := 82) (q := 3) C dX3_countWays_82 rfl ?_
    obtain ⟨σ102, eσ102, h⟩ := bdS h
    refine y_iast (pc := 84) (n := 128) C (rf_1_0 _ hx0) (by decide) eσ102 dX3_countWays_84 ?_
    obtain ⟨y103, ey103, h⟩ := nmS h
    refine y_iinc (pc := 85) (v := y103) (k := 1) (lv' := [(2, .int y103), (0, .ref (ad x0)), (3, .int x3), (4, .int x4), (5, .int x5)]) C dX3_countWays_85 rfl (by rw [ey103]; rfl) (by decide) rfl ?_
    refine y_goto (pc := 88) (tgt := 20) C dX3_countWays_88 (by decide) ?_
    refine y_sub [1, 0] (lv' := [(0, .ref (ad x0)), (2, .int y103)]) rfl ?_
    exact hk20 _ _ h
  · rw [if_neg c101] at h
    refine y_aload_n (pc := 44) (q := 0) C dX3_countWays_44 rfl rfl ?_
    refine y_iload_n (pc := 45) (q := 1) C dX3_countWays_45 rfl rfl ?_
    refine y_iload (pc := 46) (q := 4) C dX3_countWays_46 rfl ?_
    refine y_iload_n (pc := 48) (q := 2) C dX3_countWays_48 rfl rfl ?_
    obtain ⟨q104, eq104, h⟩ := bdS h
    refine y_callV (pc := 49) (As := [.int x2, .int x5, .int x3]) (rest := []) C (mX3_mayCome (fu := fu) eq104) vwX3_87 rfl (by decide) hx0 rfl rfl (Nat.le_of_ble_eq_true rfl) ⟨Nat.le_of_ble_eq_true rfl, Nat.le_of_ble_eq_true rfl⟩ ⟨Nat.le_refl _, Nat.le_refl _⟩ dX3_countWays_49 ?_
    show Y _ _ _ _ _ _ _ _ _ _ _ _ _ _ _ _ _ _ q104.2 52 [(0, .ref (ad x0)), (2, .int x2), (3, .int x3), (4, .int x4), (5, .int x5)] [.int q104.1]
    refine y_if_eq (pc := 52) (tgt := 71) C dX3_countWays_52 (by decide) (fun c105 => ?_) (fun c105 => ?_)
    · rw [if_pos c105] at h
      exact tX3_countWays_71 (fu := fu) C hx0 hk20 hk35 h
    · rw [if_neg c105] at h
      refine y_iload (pc := 55) (q := 3) C dX3_countWays_55 rfl ?_
      refine y_aload_n (pc := 57) (q := 0) C dX3_countWays_57 rfl rfl ?_
      refine y_getr (pc := 58) C faX3_11 rfl hx0 dX3_countWays_58 ?_
      refine y_iload_n (pc := 61) (q := 1) C dX3_countWays_61 rfl rfl ?_
      refine y_iconst (pc := 62) (v := (1 : Int32)) C dX3_countWays_62 (by decide) ?_
      refine y_iload (pc := 63) (q := 4) C dX3_countWays_63 rfl ?_
      refine y_ishl (pc := 65) C dX3_countWays_65 ?_
      refine y_ior (pc := 66) C dX3_countWays_66 ?_
      obtain ⟨v106, ev106, h⟩ := bdS h
      refine y_iald (pc := 67) (n := 128) C (rf_1_0 _ hx0) (by decide) ev106 dX3_countWays_67 ?_
      refine y_iadd (pc := 68) C dX3_countWays_68 ?_
      obtain ⟨y107, ey107, h⟩ := nmS h
      refine y_nmI y107 ey107 ?_
      refine y_istore (pc := 69) (lv' := [(4, .int y107), (0, .ref (ad x0)), (2, .int x2), (3, .int x3), (5, .int x5)]) C dX3_countWays_69 (by decide) rfl ?_
      refine y_sub [1, 2, 3, 0, 4] (lv' := [(0, .ref (ad x0)), (2, .int x2), (3, .int x3), (4, .int y107), (5, .int x5)]) rfl ?_
      exact tX3_countWays_71 (fu := fu) C hx0 hk20 hk35 h
noncomputable def fX3_countWays_35 (fu : Nat) (k20 : Int32 → St → Option (St)) (x0 : Nat) : Nat → Int32 → Int32 → Int32 → Int32 → St → Option (St) := lp (fun k35 => fX3_countWays_35b fu k20 k35 x0) (fun _ _ _ _ _ => none)
set_option maxHeartbeats 4000000 in
theorem tX3_countWays_35 {l : Launch} {D : va_G} {cA : ClassId} {bs : Nat} {ad : Nat → Nat} {p : Program} {e : Env} {s : State} {m : MethodId} {args : Array Value} {below : List Frame} {meth : Method} {c : Code} {fu : Nat} (C : Cx D cA bs ad RX3 cX3_countWays 6 none p s m args meth c) {k20 : Int32 → St → Option (St)} {x0 : Nat} {q : St} (hx0 : xk x0 = 1) (hk20 : ∀ (x2 : Int32) (σ : St), k20 x2 σ = some q → Y D cA bs ad p l e (rmY 1 23) s m args below meth c 6 0 0 (QM D cA bs ad below args s none q) σ 20 [(0, .ref (ad x0)), (2, .int x2)] []) : ∀ (n : Nat) (x2 : Int32) (x3 : Int32) (x4 : Int32) (x5 : Int32) (σ : St), fX3_countWays_35 fu k20 x0 n x2 x3 x4 x5 σ = some q → Y D cA bs ad p l e (rmY 1 23) s m args below meth c 6 0 0 (QM D cA bs ad below args s none q) σ 35 [(0, .ref (ad x0)), (2, .int x2), (3, .int x3), (4, .int x4), (5, .int x5)] [] := by
  intro n
  induction n with
  | zero => intro x2 x3 x4 x5 σ h; cases h
  | succ n ih => intro x2 x3 x4 x5 σ h; exact tX3_countWays_35b (fu := fu) C hx0 hk20 ih h
noncomputable def fX3_countWays_20b (fu : Nat) (k20 : Int32 → St → Option (St)) (x0 : Nat) (x2 : Int32) (σ : St) : Option (St) :=
  if x2 < 0 then
    some σ
  else
    (fJ6_bitCount_0f7a4 fu x2 σ).bind fun (q102 : Int32 × St) =>
    fX3_countWays_35 fu k20 x0 fu x2 q102.1 (0 : Int32) (0 : Int32) q102.2
set_option maxHeartbeats 4000000 in
set_option maxRecDepth 100000 in
theorem tX3_countWays_20b {l : Launch} {D : va_G} {cA : ClassId} {bs : Nat} {ad : Nat → Nat} {p : Program} {e : Env} {s : State} {m : MethodId} {args : Array Value} {below : List Frame} {meth : Method} {c : Code} {fu : Nat} (C : Cx D cA bs ad RX3 cX3_countWays 6 none p s m args meth c) {k20 : Int32 → St → Option (St)} {x0 : Nat} {x2 : Int32} {q : St} (hx0 : xk x0 = 1) (hk20 : ∀ (x2 : Int32) (σ : St), k20 x2 σ = some q → Y D cA bs ad p l e (rmY 1 23) s m args below meth c 6 0 0 (QM D cA bs ad below args s none q) σ 20 [(0, .ref (ad x0)), (2, .int x2)] []) {σ : St} (h : fX3_countWays_20b fu k20 x0 x2 σ = some q) : Y D cA bs ad p l e (rmY 1 23) s m args below meth c 6 0 0 (QM D cA bs ad below args s none q) σ 20 [(0, .ref (ad x0)), (2, .int x2)] [] := by
  unfold fX3_countWays_20b at h
  refine y_iload_n (pc := 20) (q := 1) C dX3_countWays_20 rfl rfl ?_
  refine y_if_lt (pc := 21) (tgt := 91) C dX3_countWays_21 (by decide) (fun c101 => ?_) (fun c101 => ?_)
  · rw [if_pos c101] at h
    cases h
    exact y_vret (pc := 91) C dX3_countWays_91
  · rw [if_neg c101] at h
    refine y_iload_n (pc := 24) (q := 1) C dX3_countWays_24 rfl rfl ?_
    obtain ⟨q102, eq102, h⟩ := bdS h
    refine y_callS (pc := 25) (As := [.int x2]) (rest := []) C (mJ6_bitCount_0f7a4 (fu := fu) eq102) vwX3_82 rfl rfl (Nat.le_of_ble_eq_true rfl) ⟨Nat.le_of_ble_eq_true rfl, Nat.le_of_ble_eq_true rfl⟩ ⟨Nat.le_refl _, Nat.le_refl _⟩ dX3_countWays_25 ?_
    show Y _ _ _ _ _ _ _ _ _ _ _ _ _ _ _ _ _ _ q102.2 28 [(0, .ref (ad x0)), (2, .int x2)] [.int q102.1]
    refine y_istore_n (pc := 28) (lv' := [(3, .int q102.1), (0, .ref (ad x0)), (2, .int x2)]) C dX3_countWays_28 rfl (by decide) rfl ?_
    refine y_iconst (pc := 29) (v := (0 : Int32)) C dX3_countWays_29 (by decide) ?_
    refine y_istore (pc := 30) (lv' := [(4, .int (0 : Int32)), (3, .int q102.1), (0, .ref (ad x0)), (2, .int x2)]) C dX3_countWays_30 (by decide) rfl ?_
    refine y_iconst (pc := 32) (v := (0 : Int32)) C dX3_countWays_32 (by decide) ?_
    refine y_istore (pc := 33) (lv' := [(5, .int (0 : Int32)), (4, .int (0 : Int32)), (3, .int q102.1), (0, .ref (ad x0)), (2, .int x2)]) C dX3_countWays_33 (by decide) rfl ?_
    refine y_sub [3, 4, 2, 1, 0] (lv' := [(0, .ref (ad x0)), (2, .int x2), (3, .int q102.1), (4, .int (0 : Int32)), (5, .int (0 : Int32))]) rfl ?_
    exact tX3_countWays_35 (fu := fu) C hx0 hk20 fu _ _ _ _ _ h
noncomputable def fX3_countWays_20 (fu : Nat) (x0 : Nat) : Nat → Int32 → St → Option (St) := lp (fun k20 => fX3_countWays_20b fu k20 x0) (fun _ _ => none)
set_option maxHeartbeats 4000000 in
theorem tX3_countWays_20 {l : Launch} {D : va_G} {cA : ClassId} {bs : Nat} {ad : Nat → Nat} {p : Program} {e : Env} {s : State} {m : MethodId} {args : Array Value} {below : List Frame} {meth : Method} {c : Code} {fu : Nat} (C : Cx D cA bs ad RX3 cX3_countWays 6 none p s m args meth c) {x0 : Nat} {q : St} (hx0 : xk x0 = 1)  : ∀ (n : Nat) (x2 : Int32) (σ : St), fX3_countWays_20 fu  x0 n x2 σ = some q → Y D cA bs ad p l e (rmY 1 23) s m args below meth c 6 0 0 (QM D cA bs ad below args s none q) σ 20 [(0, .ref (ad x0)), (2, .int x2)] [] := by
  intro n
  induction n with
  | zero => intro x2 σ h; cases h
  | succ n ih => intro x2 σ h; exact tX3_countWays_20b (fu := fu) C hx0 ih h
noncomputable def fX3_countWays_0 (fu : Nat) (x0 : Nat) (σ : St) : Option (St) :=
  nm (((1 : Int32) <<< ((σ.1 x0 3) &&& 31)) - (1 : Int32)) fun (y101 : Int32) =>
  (ast σ (rf x0 0) 128 y101 (1 : Int32)).bind fun (σ102 : St) =>
  nm (y101 - (1 : Int32)) fun (y103 : Int32) =>
  fX3_countWays_20 fu x0 fu y103 σ102
set_option maxHeartbeats 4000000 in
set_option maxRecDepth 100000 in
theorem tX3_countWays_0 {l : Launch} {D : va_G} {cA : ClassId} {bs : Nat} {ad : Nat → Nat} {p : Program} {e : Env} {s : State} {m : MethodId} {args : Array Value} {below : List Frame} {meth : Method} {c : Code} {fu : Nat} (C : Cx D cA bs ad RX3 cX3_countWays 6 none p s m args meth c) {x0 : Nat} {q : St} (hx0 : xk x0 = 1) {σ : St} (h : fX3_countWays_0 fu x0 σ = some q) : Y D cA bs ad p l e (rmY 1 23) s m args below meth c 6 0 0 (QM D cA bs ad below args s none q) σ 0 [(0, .ref (ad x0))] [] := by
  unfold fX3_countWays_0 at h
  refine y_iconst (pc := 0) (v := (1 : Int32)) C dX3_countWays_0 (by decide) ?_
  refine y_aload_n (pc := 1) (q := 0) C dX3_countWays_1 rfl rfl ?_
  refine y_geti (pc := 2) C faX3_31 rfl hx0 dX3_countWays_2 ?_
  refine y_ishl (pc := 5) C dX3_countWays_5 ?_
  refine y_iconst (pc := 6) (v := (1 : Int32)) C dX3_countWays_6 (by decide) ?_
  refine y_isub (pc := 7) C dX3_countWays_7 ?_
  obtain ⟨y101, ey101, h⟩ := nmS h
  refine y_nmI y101 ey101 ?_
  refine y_istore_n (pc := 8) (lv' := [(1, .int y101), (0, .ref (ad x0))]) C dX3_countWays_8 rfl (by decide) rfl ?_
  refine y_aload_n (pc := 9) (q := 1) C dX3_countWays_9 rfl rfl ?_
  refine y_getr (pc := 10) C faX3_11 rfl hx0 dX3_countWays_10 ?_
  refine y_iload_n (pc := 13) (q := 0) C dX3_countWays_13 rfl rfl ?_
  refine y_iconst (pc := 14) (v := (1 : Int32)) C dX3_countWays_14 (by decide) ?_
  obtain ⟨σ102, eσ102, h⟩ := bdS h
  refine y_iast (pc := 15) (n := 128) C (rf_1_0 _ hx0) (by decide) eσ102 dX3_countWays_15 ?_
  refine y_iload_n (pc := 16) (q := 0) C dX3_countWays_16 rfl rfl ?_
  refine y_iconst (pc := 17) (v := (1 : Int32)) C dX3_countWays_17 (by decide) ?_
  refine y_isub (pc := 18) C dX3_countWays_18 ?_
  obtain ⟨y103, ey103, h⟩ := nmS h
  refine y_nmI y103 ey103 ?_
  refine y_istore_n (pc := 19) (lv' := [(2, .int y103), (1, .int y101), (0, .ref (ad x0))]) C dX3_countWays_19 rfl (by decide) rfl ?_
  refine y_sub [2, 0] (lv' := [(0, .ref (ad x0)), (2, .int y103)]) rfl ?_
  exact tX3_countWays_20 (fu := fu) C hx0 fu _ _ h
noncomputable def fX3_countWays (fu : Nat) (x0 : Nat) (σ : St) : Option (St) := if xk x0 = 1 then fX3_countWays_0 fu x0 σ else none
theorem mX3_countWays {l : Launch} {D : va_G} {cA : ClassId} {bs fu : Nat} {ad : Nat → Nat} {x0 : Nat} {σ : St} {q : St} (h : fX3_countWays fu x0 σ = some q) : Ct l D cA bs ad yX3_countWays cX3_countWays 6 none 1 23 [.ref (ad x0)] σ none q := by
  unfold fX3_countWays at h
  by_cases hx0 : xk x0 = 1
  case neg => rw [if_neg hx0] at h; cases h
  rw [if_pos hx0] at h
  exact Ct.of (by decide) (Nat.le_of_ble_eq_true rfl) (fun p e s m args below meth c C => tX3_countWays_0 (fu := fu) C hx0 h)
noncomputable def fX3_study_10b (fu : Nat) (k10 : Int32 → St → Option (St)) (x0 : Nat) (x1 : Nat) (x2 : Int32) (σ : St) : Option (St) :=
  if (σ.1 x0 3) ≤ x2 then
    (fX3_countWays fu x0 σ).bind fun (q102 : St) =>
    some q102
  else
    (fX3_placesFitting fu x1 x2 σ).bind fun (q103 : Int32 × St) =>
    (ast q103.2 (rf x0 1) 7 x2 q103.1).bind fun (σ104 : St) =>
    nm (x2 + (1 : Int32)) fun (y105 : Int32) =>
    k10 y105 σ104
set_option maxHeartbeats 4000000 in
set_option maxRecDepth 100000 in
theorem tX3_study_10b {l : Launch} {D : va_G} {cA : ClassId} {bs : Nat} {ad : Nat → Nat} {p : Program} {e : Env} {s : State} {m : MethodId} {args : Array Value} {below : List Frame} {meth : Method} {c : Code} {fu : Nat} (C : Cx D cA bs ad RX3 cX3_study 3 none p s m args meth c) {k10 : Int32 → St → Option (St)} {x0 : Nat} {x1 : Nat} {x2 : Int32} {q : St} (hx0 : xk x0 = 1) (hx1 : xk x1 = 6) (hk10 : ∀ (x2 : Int32) (σ : St), k10 x2 σ = some q → Y D cA bs ad p l e (rmY 4 92) s m args below meth c 3 0 0 (QM D cA bs ad below args s none q) σ 10 [(0, .ref (ad x0)), (1, .ref (ad x1)), (2, .int x2)] []) {σ : St} (h : fX3_study_10b fu k10 x0 x1 x2 σ = some q) : Y D cA bs ad p l e (rmY 4 92) s m args below meth c 3 0 0 (QM D cA bs ad below args s none q) σ 10 [(0, .ref (ad x0)), (1, .ref (ad x1)), (2, .int x2)] [] := by
  unfold fX3_study_10b at h
  refine y_iload_n (pc := 10) (q := 2) C dX3_study_10 rfl rfl ?_
  refine y_aload_n (pc := 11) (q := 0) C dX3_study_11 rfl rfl ?_
  refine y_geti (pc := 12) C faX3_31 rfl hx0 dX3_study_12 ?_
  refine y_icmp_ge (pc := 15) (tgt := 35) C dX3_study_15 (by decide) (fun c101 => ?_) (fun c101 => ?_)
  · rw [if_pos c101] at h
    refine y_aload_n (pc := 35) (q := 0) C dX3_study_35 rfl rfl ?_
    obtain ⟨q102, eq102, h⟩ := bdS h
    refine y_callV (pc := 36) (As := []) (rest := []) C (mX3_countWays (fu := fu) eq102) vwX3_38 rfl (by decide) hx0 rfl rfl (Nat.le_of_ble_eq_true rfl) ⟨Nat.le_of_ble_eq_true rfl, Nat.le_of_ble_eq_true rfl⟩ ⟨Nat.le_refl _, Nat.le_refl _⟩ dX3_study_36 ?_
    show Y _ _ _ _ _ _ _ _ _ _ _ _ _ _ _ _ _ _ q102 39 [(0, .ref (ad x0)), (1, .ref (ad x1)), (2, .int x2)] []
    cases h
    exact y_vret (pc := 39) C dX3_study_39
  · rw [if_neg c101] at h
    refine y_aload_n (pc := 18) (q := 0) C dX3_study_18 rfl rfl ?_
    refine y_getr (pc := 19) C faX3_15 rfl hx0 dX3_study_19 ?_
    refine y_iload_n (pc := 22) (q := 2) C dX3_study_22 rfl rfl ?_
    refine y_aload_n (pc := 23) (q := 1) C dX3_study_23 rfl rfl ?_
    refine y_iload_n (pc := 24) (q := 2) C dX3_study_24 rfl rfl ?_
    obtain ⟨q103, eq103, h⟩ := bdS h
    refine y_callS (pc := 25) (As := [.ref (ad x1), .int x2]) (rest := [.int x2, .ref (ad (rf x0 1))]) C (mX3_placesFitting (fu := fu) eq103) vwX3_34 rfl rfl (Nat.le_of_ble_eq_true rfl) ⟨Nat.le_of_ble_eq_true rfl, Nat.le_of_ble_eq_true rfl⟩ ⟨Nat.le_refl _, Nat.le_refl _⟩ dX3_study_25 ?_
    show Y _ _ _ _ _ _ _ _ _ _ _ _ _ _ _ _ _ _ q103.2 28 [(0, .ref (ad x0)), (1, .ref (ad x1)), (2, .int x2)] [.int q103.1, .int x2, .ref (ad (rf x0 1))]
    obtain ⟨σ104, eσ104, h⟩ := bdS h
    refine y_iast (pc := 28) (n := 7) C (rf_1_1 _ hx0) (by decide) eσ104 dX3_study_28 ?_
    obtain ⟨y105, ey105, h⟩ := nmS h
    refine y_iinc (pc := 29) (v := y105) (k := 2) (lv' := [(2, .int y105), (0, .ref (ad x0)), (1, .ref (ad x1))]) C dX3_study_29 rfl (by rw [ey105]; rfl) (by decide) rfl ?_
    refine y_goto (pc := 32) (tgt := 10) C dX3_study_32 (by decide) ?_
    refine y_sub [1, 2, 0] (lv' := [(0, .ref (ad x0)), (1, .ref (ad x1)), (2, .int y105)]) rfl ?_
    exact hk10 _ _ h
noncomputable def fX3_study_10 (fu : Nat) (x0 : Nat) (x1 : Nat) : Nat → Int32 → St → Option (St) := lp (fun k10 => fX3_study_10b fu k10 x0 x1) (fun _ _ => none)
set_option maxHeartbeats 4000000 in
theorem tX3_study_10 {l : Launch} {D : va_G} {cA : ClassId} {bs : Nat} {ad : Nat → Nat} {p : Program} {e : Env} {s : State} {m : MethodId} {args : Array Value} {below : List Frame} {meth : Method} {c : Code} {fu : Nat} (C : Cx D cA bs ad RX3 cX3_study 3 none p s m args meth c) {x0 : Nat} {x1 : Nat} {q : St} (hx0 : xk x0 = 1) (hx1 : xk x1 = 6)  : ∀ (n : Nat) (x2 : Int32) (σ : St), fX3_study_10 fu  x0 x1 n x2 σ = some q → Y D cA bs ad p l e (rmY 4 92) s m args below meth c 3 0 0 (QM D cA bs ad below args s none q) σ 10 [(0, .ref (ad x0)), (1, .ref (ad x1)), (2, .int x2)] [] := by
  intro n
  induction n with
  | zero => intro x2 σ h; cases h
  | succ n ih => intro x2 σ h; exact tX3_study_10b (fu := fu) C hx0 hx1 ih h
noncomputable def fX3_study_0 (fu : Nat) (x0 : Nat) (x1 : Nat) (σ : St) : Option (St) :=
  (fX8_size fu x1 σ).bind fun (q101 : Int32 × St) =>
  nm (si q101.2 x0 3 q101.1) fun (σ102 : St) =>
  fX3_study_10 fu x0 x1 fu (0 : Int32) σ102
set_option maxHeartbeats 4000000 in
set_option maxRecDepth 100000 in
theorem tX3_study_0 {l : Launch} {D : va_G} {cA : ClassId} {bs : Nat} {ad : Nat → Nat} {p : Program} {e : Env} {s : State} {m : MethodId} {args : Array Value} {below : List Frame} {meth : Method} {c : Code} {fu : Nat} (C : Cx D cA bs ad RX3 cX3_study 3 none p s m args meth c) {x0 : Nat} {x1 : Nat} {q : St} (hx0 : xk x0 = 1) (hx1 : xk x1 = 6) {σ : St} (h : fX3_study_0 fu x0 x1 σ = some q) : Y D cA bs ad p l e (rmY 4 92) s m args below meth c 3 0 0 (QM D cA bs ad below args s none q) σ 0 [(0, .ref (ad x0)), (1, .ref (ad x1))] [] := by
  unfold fX3_study_0 at h
  refine y_aload_n (pc := 0) (q := 0) C dX3_study_0 rfl rfl ?_
  refine y_aload_n (pc := 1) (q := 1) C dX3_study_1 rfl rfl ?_
  obtain ⟨q101, eq101, h⟩ := bdS h
  refine y_callV (pc := 2) (As := []) (rest := [.ref (ad x0)]) C (mX8_size (fu := fu) eq101) vwX3_25 rfl (by decide) hx1 rfl rfl (Nat.le_of_ble_eq_true rfl) ⟨Nat.le_of_ble_eq_true rfl, Nat.le_of_ble_eq_true rfl⟩ ⟨Nat.le_refl _, Nat.le_refl _⟩ dX3_study_2 ?_
  show Y _ _ _ _ _ _ _ _ _ _ _ _ _ _ _ _ _ _ q101.2 5 [(0, .ref (ad x0)), (1, .ref (ad x1))] [.int q101.1, .ref (ad x0)]
  obtain ⟨σ102, eσ102, h⟩ := nmS h
  refine y_puti (pc := 5) C fpX3_31 rfl hx0 rfl rfl dX3_study_5 ?_
  rw [← eσ102]
  refine y_iconst (pc := 8) (v := (0 : Int32)) C dX3_study_8 (by decide) ?_
  refine y_istore_n (pc := 9) (lv' := [(2, .int (0 : Int32)), (0, .ref (ad x0)), (1, .ref (ad x1))]) C dX3_study_9 rfl (by decide) rfl ?_
  refine y_sub [1, 2, 0] (lv' := [(0, .ref (ad x0)), (1, .ref (ad x1)), (2, .int (0 : Int32))]) rfl ?_
  exact tX3_study_10 (fu := fu) C hx0 hx1 fu _ _ h
noncomputable def fX3_study (fu : Nat) (x0 : Nat) (x1 : Nat) (σ : St) : Option (St) := if xk x0 = 1 then if xk x1 = 6 then fX3_study_0 fu x0 x1 σ else none else none
theorem mX3_study {l : Launch} {D : va_G} {cA : ClassId} {bs fu : Nat} {ad : Nat → Nat} {x0 : Nat} {x1 : Nat} {σ : St} {q : St} (h : fX3_study fu x0 x1 σ = some q) : Ct l D cA bs ad yX3_study cX3_study 3 none 4 92 [.ref (ad x0), .ref (ad x1)] σ none q := by
  unfold fX3_study at h
  by_cases hx0 : xk x0 = 1
  case neg => rw [if_neg hx0] at h; cases h
  rw [if_pos hx0] at h
  by_cases hx1 : xk x1 = 6
  case neg => rw [if_neg hx1] at h; cases h
  rw [if_pos hx1] at h
  exact Ct.of (by decide) (Nat.le_of_ble_eq_true rfl) (fun p e s m args below meth c C => tX3_study_0 (fu := fu) C hx0 hx1 h)
noncomputable def fX3_ordersFound_0 (fu : Nat) (x0 : Nat) (σ : St) : Option (Int32 × St) :=
  (ald σ (rf x0 0) 128 (0 : Int32)).bind fun (v101 : Int32) =>
  some (v101, σ)
set_option maxHeartbeats 4000000 in
set_option maxRecDepth 100000 in
theorem tX3_ordersFound_0 {l : Launch} {D : va_G} {cA : ClassId} {bs : Nat} {ad : Nat → Nat} {p : Program} {e : Env} {s : State} {m : MethodId} {args : Array Value} {below : List Frame} {meth : Method} {c : Code} {fu : Nat} (C : Cx D cA bs ad RX3 cX3_ordersFound 1 (some .int) p s m args meth c) {x0 : Nat} {q : Int32 × St} (hx0 : xk x0 = 1) {σ : St} (h : fX3_ordersFound_0 fu x0 σ = some q) : Y D cA bs ad p l e (rmY 0 0) s m args below meth c 1 0 0 (QM D cA bs ad below args s (some (.int q.1)) q.2) σ 0 [(0, .ref (ad x0))] [] := by
  unfold fX3_ordersFound_0 at h
  refine y_aload_n (pc := 0) (q := 0) C dX3_ordersFound_0 rfl rfl ?_
  refine y_getr (pc := 1) C faX3_11 rfl hx0 dX3_ordersFound_1 ?_
  refine y_iconst (pc := 4) (v := (0 : Int32)) C dX3_ordersFound_4 (by decide) ?_
  obtain ⟨v101, ev101, h⟩ := bdS h
  refine y_iald (pc := 5) (n := 128) C (rf_1_0 _ hx0) (by decide) ev101 dX3_ordersFound_5 ?_
  cases h
  exact y_iret (pc := 6) C dX3_ordersFound_6
noncomputable def fX3_ordersFound (fu : Nat) (x0 : Nat) (σ : St) : Option (Int32 × St) := if xk x0 = 1 then fX3_ordersFound_0 fu x0 σ else none
theorem mX3_ordersFound {l : Launch} {D : va_G} {cA : ClassId} {bs fu : Nat} {ad : Nat → Nat} {x0 : Nat} {σ : St} {q : Int32 × St} (h : fX3_ordersFound fu x0 σ = some q) : Ct l D cA bs ad yX3_ordersFound cX3_ordersFound 1 (some .int) 0 0 [.ref (ad x0)] σ (some (.int q.1)) q.2 := by
  unfold fX3_ordersFound at h
  by_cases hx0 : xk x0 = 1
  case neg => rw [if_neg hx0] at h; cases h
  rw [if_pos hx0] at h
  exact Ct.of (by decide) (Nat.le_of_ble_eq_true rfl) (fun p e s m args below meth c C => tX3_ordersFound_0 (fu := fu) C hx0 h)
noncomputable def fX3_firstFor_35 (fu : Nat) (k2 : Int32 → St → Option (Int32 × St)) (x0 : Nat) (x1 : Int32) (x2 : Int32) (x3 : Int32) (σ : St) : Option (Int32 × St) :=
  nm (x3 + (1 : Int32)) fun (y101 : Int32) =>
  k2 y101 σ
set_option maxHeartbeats 4000000 in
set_option maxRecDepth 100000 in
theorem tX3_firstFor_35 {l : Launch} {D : va_G} {cA : ClassId} {bs : Nat} {ad : Nat → Nat} {p : Program} {e : Env} {s : State} {m : MethodId} {args : Array Value} {below : List Frame} {meth : Method} {c : Code} {fu : Nat} (C : Cx D cA bs ad RX3 cX3_firstFor 4 (some .int) p s m args meth c) {k2 : Int32 → St → Option (Int32 × St)} {x0 : Nat} {x1 : Int32} {x2 : Int32} {x3 : Int32} {q : Int32 × St} (hx0 : xk x0 = 1) (hk2 : ∀ (x3 : Int32) (σ : St), k2 x3 σ = some q → Y D cA bs ad p l e (rmY 1 23) s m args below meth c 4 0 0 (QM D cA bs ad below args s (some (.int q.1)) q.2) σ 2 [(0, .ref (ad x0)), (1, .int x1), (2, .int x2), (3, .int x3)] []) {σ : St} (h : fX3_firstFor_35 fu k2 x0 x1 x2 x3 σ = some q) : Y D cA bs ad p l e (rmY 1 23) s m args below meth c 4 0 0 (QM D cA bs ad below args s (some (.int q.1)) q.2) σ 35 [(0, .ref (ad x0)), (1, .int x1), (2, .int x2), (3, .int x3)] [] := by
  unfold fX3_firstFor_35 at h
  obtain ⟨y101, ey101, h⟩ := nmS h
  refine y_iinc (pc := 35) (v := y101) (k := 3) (lv' := [(3, .int y101), (0, .ref (ad x0)), (1, .int x1), (2, .int x2)]) C dX3_firstFor_35 rfl (by rw [ey101]; rfl) (by decide) rfl ?_
  refine y_goto (pc := 38) (tgt := 2) C dX3_firstFor_38 (by decide) ?_
  refine y_sub [1, 2, 3, 0] (lv' := [(0, .ref (ad x0)), (1, .int x1), (2, .int x2), (3, .int y101)]) rfl ?_
  exact hk2 _ _ h
noncomputable def fX3_firstFor_2b (fu : Nat) (k2 : Int32 → St → Option (Int32 × St)) (x0 : Nat) (x1 : Int32) (x2 : Int32) (x3 : Int32) (σ : St) : Option (Int32 × St) :=
  if (σ.1 x0 3) ≤ x3 then
    some ((0 : Int32), σ)
  else
    (fX3_mayCome fu x0 x1 x3 x2 σ).bind fun (q102 : Int32 × St) =>
    if q102.1 = 0 then
      fX3_firstFor_35 fu k2 x0 x1 x2 x3 q102.2
    else
      (ald q102.2 (rf x0 0) 128 (x1 ||| ((1 : Int32) <<< (x3 &&& 31)))).bind fun (v104 : Int32) =>
      if v104 ≤ 0 then
        fX3_firstFor_35 fu k2 x0 x1 x2 x3 q102.2
      else
        some (x3, q102.2)
set_option maxHeartbeats 4000000 in
set_option maxRecDepth 100000 in
theorem tX3_firstFor_2b {l : Launch} {D : va_G} {cA : ClassId} {bs : Nat} {ad : Nat → Nat} {p : Program} {e : Env} {s : State} {m : MethodId} {args : Array Value} {below : List Frame} {meth : Method} {c : Code} {fu : Nat} (C : Cx D cA bs ad RX3 cX3_firstFor 4 (some .int) p s m args meth c) {k2 : Int32 → St → Option (Int32 × St)} {x0 : Nat} {x1 : Int32} {x2 : Int32} {x3 : Int32} {q : Int32 × St} (hx0 : xk x0 = 1) (hk2 : ∀ (x3 : Int32) (σ : St), k2 x3 σ = some q → Y D cA bs ad p l e (rmY 1 23) s m args below meth c 4 0 0 (QM D cA bs ad below args s (some (.int q.1)) q.2) σ 2 [(0, .ref (ad x0)), (1, .int x1), (2, .int x2), (3, .int x3)] []) {σ : St} (h : fX3_firstFor_2b fu k2 x0 x1 x2 x3 σ = some q) : Y D cA bs ad p l e (rmY 1 23) s m args below meth c 4 0 0 (QM D cA bs ad below args s (some (.int q.1)) q.2) σ 2 [(0, .ref (ad x0)), (1, .int x1), (2, .int x2), (3, .int x3)] [] := by
  unfold fX3_firstFor_2b at h
  refine y_iload_n (pc := 2) (q := 3) C dX3_firstFor_2 rfl rfl ?_
  refine y_aload_n (pc := 3) (q := 0) C dX3_firstFor_3 rfl rfl ?_
  refine y_geti (pc := 4) C faX3_31 rfl hx0 dX3_firstFor_4 ?_
  refine y_icmp_ge (pc := 7) (tgt := 41) C dX3_firstFor_7 (by decide) (fun c101 => ?_) (fun c101 => ?_)
  · rw [if_pos c101] at h
    refine y_iconst (pc := 41) (v := (0 : Int32)) C dX3_firstFor_41 (by decide) ?_
    cases h
    exact y_iret (pc := 42) C dX3_firstFor_42
  · rw [if_neg c101] at h
    refine y_aload_n (pc := 10) (q := 0) C dX3_firstFor_10 rfl rfl ?_
    refine y_iload_n (pc := 11) (q := 1) C dX3_firstFor_11 rfl rfl ?_
    refine y_iload_n (pc := 12) (q := 3) C dX3_firstFor_12 rfl rfl ?_
    refine y_iload_n (pc := 13) (q := 2) C dX3_firstFor_13 rfl rfl ?_
    obtain ⟨q102, eq102, h⟩ := bdS h
    refine y_callV (pc := 14) (As := [.int x1, .int x3, .int x2]) (rest := []) C (mX3_mayCome (fu := fu) eq102) vwX3_87 rfl (by decide) hx0 rfl rfl (Nat.le_of_ble_eq_true rfl) ⟨Nat.le_of_ble_eq_true rfl, Nat.le_of_ble_eq_true rfl⟩ ⟨Nat.le_refl _, Nat.le_refl _⟩ dX3_firstFor_14 ?_
    show Y _ _ _ _ _ _ _ _ _ _ _ _ _ _ _ _ _ _ q102.2 17 [(0, .ref (ad x0)), (1, .int x1), (2, .int x2), (3, .int x3)] [.int q102.1]
    refine y_if_eq (pc := 17) (tgt := 35) C dX3_firstFor_17 (by decide) (fun c103 => ?_) (fun c103 => ?_)
    · rw [if_pos c103] at h
      exact tX3_firstFor_35 (fu := fu) C hx0 hk2 h
    · rw [if_neg c103] at h
      refine y_aload_n (pc := 20) (q := 0) C dX3_firstFor_20 rfl rfl ?_
      refine y_getr (pc := 21) C faX3_11 rfl hx0 dX3_firstFor_21 ?_
      refine y_iload_n (pc := 24) (q := 1) C dX3_firstFor_24 rfl rfl ?_
      refine y_iconst (pc := 25) (v := (1 : Int32)) C dX3_firstFor_25 (by decide) ?_
      refine y_iload_n (pc := 26) (q := 3) C dX3_firstFor_26 rfl rfl ?_
      refine y_ishl (pc := 27) C dX3_firstFor_27 ?_
      refine y_ior (pc := 28) C dX3_firstFor_28 ?_
      obtain ⟨v104, ev104, h⟩ := bdS h
      refine y_iald (pc := 29) (n := 128) C (rf_1_0 _ hx0) (by decide) ev104 dX3_firstFor_29 ?_
      refine y_if_le (pc := 30) (tgt := 35) C dX3_firstFor_30 (by decide) (fun c105 => ?_) (fun c105 => ?_)
      · rw [if_pos c105] at h
        exact tX3_firstFor_35 (fu := fu) C hx0 hk2 h
      · rw [if_neg c105] at h
        refine y_iload_n (pc := 33) (q := 3) C dX3_firstFor_33 rfl rfl ?_
        cases h
        exact y_iret (pc := 34) C dX3_firstFor_34
noncomputable def fX3_firstFor_2 (fu : Nat) (x0 : Nat) (x1 : Int32) (x2 : Int32) : Nat → Int32 → St → Option (Int32 × St) := lp (fun k2 => fX3_firstFor_2b fu k2 x0 x1 x2) (fun _ _ => none)
set_option maxHeartbeats 4000000 in
theorem tX3_firstFor_2 {l : Launch} {D : va_G} {cA : ClassId} {bs : Nat} {ad : Nat → Nat} {p : Program} {e : Env} {s : State} {m : MethodId} {args : Array Value} {below : List Frame} {meth : Method} {c : Code} {fu : Nat} (C : Cx D cA bs ad RX3 cX3_firstFor 4 (some .int) p s m args meth c) {x0 : Nat} {x1 : Int32} {x2 : Int32} {q : Int32 × St} (hx0 : xk x0 = 1)  : ∀ (n : Nat) (x3 : Int32) (σ : St), fX3_firstFor_2 fu  x0 x1 x2 n x3 σ = some q → Y D cA bs ad p l e (rmY 1 23) s m args below meth c 4 0 0 (QM D cA bs ad below args s (some (.int q.1)) q.2) σ 2 [(0, .ref (ad x0)), (1, .int x1), (2, .int x2), (3, .int x3)] [] := by
  intro n
  induction n with
  | zero => intro x3 σ h; cases h
  | succ n ih => intro x3 σ h; exact tX3_firstFor_2b (fu := fu) C hx0 ih h
noncomputable def fX3_firstFor_0 (fu : Nat) (x0 : Nat) (x1 : Int32) (x2 : Int32) (σ : St) : Option (Int32 × St) :=
  fX3_firstFor_2 fu x0 x1 x2 fu (0 : Int32) σ
set_option maxHeartbeats 4000000 in
set_option maxRecDepth 100000 in
theorem tX3_firstFor_0 {l : Launch} {D : va_G} {cA : ClassId} {bs : Nat} {ad : Nat → Nat} {p : Program} {e : Env} {s : State} {m : MethodId} {args : Array Value} {below : List Frame} {meth : Method} {c : Code} {fu : Nat} (C : Cx D cA bs ad RX3 cX3_firstFor 4 (some .int) p s m args meth c) {x0 : Nat} {x1 : Int32} {x2 : Int32} {q : Int32 × St} (hx0 : xk x0 = 1) {σ : St} (h : fX3_firstFor_0 fu x0 x1 x2 σ = some q) : Y D cA bs ad p l e (rmY 1 23) s m args below meth c 4 0 0 (QM D cA bs ad below args s (some (.int q.1)) q.2) σ 0 [(0, .ref (ad x0)), (1, .int x1), (2, .int x2)] [] := by
  unfold fX3_firstFor_0 at h
  refine y_iconst (pc := 0) (v := (0 : Int32)) C dX3_firstFor_0 (by decide) ?_
  refine y_istore_n (pc := 1) (lv' := [(3, .int (0 : Int32)), (0, .ref (ad x0)), (1, .int x1), (2, .int x2)]) C dX3_firstFor_1 rfl (by decide) rfl ?_
  refine y_sub [1, 2, 3, 0] (lv' := [(0, .ref (ad x0)), (1, .int x1), (2, .int x2), (3, .int (0 : Int32))]) rfl ?_
  exact tX3_firstFor_2 (fu := fu) C hx0 fu _ _ h
noncomputable def fX3_firstFor (fu : Nat) (x0 : Nat) (x1 : Int32) (x2 : Int32) (σ : St) : Option (Int32 × St) := if xk x0 = 1 then fX3_firstFor_0 fu x0 x1 x2 σ else none
theorem mX3_firstFor {l : Launch} {D : va_G} {cA : ClassId} {bs fu : Nat} {ad : Nat → Nat} {x0 : Nat} {x1 : Int32} {x2 : Int32} {σ : St} {q : Int32 × St} (h : fX3_firstFor fu x0 x1 x2 σ = some q) : Ct l D cA bs ad yX3_firstFor cX3_firstFor 4 (some .int) 1 23 [.ref (ad x0), .int x1, .int x2] σ (some (.int q.1)) q.2 := by
  unfold fX3_firstFor at h
  by_cases hx0 : xk x0 = 1
  case neg => rw [if_neg hx0] at h; cases h
  rw [if_pos hx0] at h
  exact Ct.of (by decide) (Nat.le_of_ble_eq_true rfl) (fun p e s m args below meth c C => tX3_firstFor_0 (fu := fu) C hx0 h)
noncomputable def fX3_firstOrder_11b (fu : Nat) (k11 : Int32 → Int32 → St → Option (Nat × St)) (x0 : Nat) (x1 : Int32) (x2 : Int32) (σ : St) : Option (Nat × St) :=
  if (σ.1 x0 3) ≤ x2 then
    some ((rf x0 2), σ)
  else
    (fX3_firstFor fu x0 x1 x2 σ).bind fun (q102 : Int32 × St) =>
    nm (x1 ||| ((1 : Int32) <<< (q102.1 &&& 31))) fun (y103 : Int32) =>
    (fX6_append fu (rf x0 2) q102.1 q102.2).bind fun (q104 : St) =>
    nm (x2 + (1 : Int32)) fun (y105 : Int32) =>
    k11 y103 y105 q104
set_option maxHeartbeats 4000000 in
set_option maxRecDepth 100000 in
theorem tX3_firstOrder_11b {l : Launch} {D : va_G} {cA : ClassId} {bs : Nat} {ad : Nat → Nat} {p : Program} {e : Env} {s : State} {m : MethodId} {args : Array Value} {below : List Frame} {meth : Method} {c : Code} {fu : Nat} (C : Cx D cA bs ad RX3 cX3_firstOrder 4 (some (.object "PavedAnew$Order")) p s m args meth c) {k11 : Int32 → Int32 → St → Option (Nat × St)} {x0 : Nat} {x1 : Int32} {x2 : Int32} {q : Nat × St} (hx0 : xk x0 = 1) (hk11 : ∀ (x1 : Int32) (x2 : Int32) (σ : St), k11 x1 x2 σ = some q → Y D cA bs ad p l e (rmY 2 46) s m args below meth c 4 0 0 (QM D cA bs ad below args s (some (.ref (ad q.1))) q.2) σ 11 [(0, .ref (ad x0)), (1, .int x1), (2, .int x2)] []) {σ : St} (h : fX3_firstOrder_11b fu k11 x0 x1 x2 σ = some q) : Y D cA bs ad p l e (rmY 2 46) s m args below meth c 4 0 0 (QM D cA bs ad below args s (some (.ref (ad q.1))) q.2) σ 11 [(0, .ref (ad x0)), (1, .int x1), (2, .int x2)] [] := by
  unfold fX3_firstOrder_11b at h
  refine y_iload_n (pc := 11) (q := 2) C dX3_firstOrder_11 rfl rfl ?_
  refine y_aload_n (pc := 12) (q := 0) C dX3_firstOrder_12 rfl rfl ?_
  refine y_geti (pc := 13) C faX3_31 rfl hx0 dX3_firstOrder_13 ?_
  refine y_icmp_ge (pc := 16) (tgt := 46) C dX3_firstOrder_16 (by decide) (fun c101 => ?_) (fun c101 => ?_)
  · rw [if_pos c101] at h
    refine y_aload_n (pc := 46) (q := 0) C dX3_firstOrder_46 rfl rfl ?_
    refine y_getr (pc := 47) C faX3_21 rfl hx0 dX3_firstOrder_47 ?_
    cases h
    exact y_aret (pc := 50) C dX3_firstOrder_50
  · rw [if_neg c101] at h
    refine y_aload_n (pc := 19) (q := 0) C dX3_firstOrder_19 rfl rfl ?_
    refine y_iload_n (pc := 20) (q := 1) C dX3_firstOrder_20 rfl rfl ?_
    refine y_iload_n (pc := 21) (q := 2) C dX3_firstOrder_21 rfl rfl ?_
    obtain ⟨q102, eq102, h⟩ := bdS h
    refine y_callV (pc := 22) (As := [.int x1, .int x2]) (rest := []) C (mX3_firstFor (fu := fu) eq102) vwX3_44 rfl (by decide) hx0 rfl rfl (Nat.le_of_ble_eq_true rfl) ⟨Nat.le_of_ble_eq_true rfl, Nat.le_of_ble_eq_true rfl⟩ ⟨Nat.le_refl _, Nat.le_refl _⟩ dX3_firstOrder_22 ?_
    show Y _ _ _ _ _ _ _ _ _ _ _ _ _ _ _ _ _ _ q102.2 25 [(0, .ref (ad x0)), (1, .int x1), (2, .int x2)] [.int q102.1]
    refine y_istore_n (pc := 25) (lv' := [(3, .int q102.1), (0, .ref (ad x0)), (1, .int x1), (2, .int x2)]) C dX3_firstOrder_25 rfl (by decide) rfl ?_
    refine y_iload_n (pc := 26) (q := 2) C dX3_firstOrder_26 rfl rfl ?_
    refine y_iconst (pc := 27) (v := (1 : Int32)) C dX3_firstOrder_27 (by decide) ?_
    refine y_iload_n (pc := 28) (q := 0) C dX3_firstOrder_28 rfl rfl ?_
    refine y_ishl (pc := 29) C dX3_firstOrder_29 ?_
    refine y_ior (pc := 30) C dX3_firstOrder_30 ?_
    obtain ⟨y103, ey103, h⟩ := nmS h
    refine y_nmI y103 ey103 ?_
    refine y_istore_n (pc := 31) (lv' := [(1, .int y103), (3, .int q102.1), (0, .ref (ad x0)), (2, .int x2)]) C dX3_firstOrder_31 rfl (by decide) rfl ?_
    refine y_aload_n (pc := 32) (q := 2) C dX3_firstOrder_32 rfl rfl ?_
    refine y_getr (pc := 33) C faX3_21 rfl hx0 dX3_firstOrder_33 ?_
    refine y_iload_n (pc := 36) (q := 1) C dX3_firstOrder_36 rfl rfl ?_
    obtain ⟨q104, eq104, h⟩ := bdS h
    refine y_callV (pc := 37) (As := [.int q102.1]) (rest := []) C (mX6_append (fu := fu) eq104) vwX3_48 rfl (by decide) (rf_1_2 _ hx0) rfl rfl (Nat.le_of_ble_eq_true rfl) ⟨Nat.le_of_ble_eq_true rfl, Nat.le_of_ble_eq_true rfl⟩ ⟨Nat.le_refl _, Nat.le_refl _⟩ dX3_firstOrder_37 ?_
    show Y _ _ _ _ _ _ _ _ _ _ _ _ _ _ _ _ _ _ q104 40 [(1, .int y103), (3, .int q102.1), (0, .ref (ad x0)), (2, .int x2)] []
    obtain ⟨y105, ey105, h⟩ := nmS h
    refine y_iinc (pc := 40) (v := y105) (k := 3) (lv' := [(2, .int y105), (1, .int y103), (3, .int q102.1), (0, .ref (ad x0))]) C dX3_firstOrder_40 rfl (by rw [ey105]; rfl) (by decide) rfl ?_
    refine y_goto (pc := 43) (tgt := 11) C dX3_firstOrder_43 (by decide) ?_
    refine y_sub [3, 1, 0] (lv' := [(0, .ref (ad x0)), (1, .int y103), (2, .int y105)]) rfl ?_
    exact hk11 _ _ _ h
noncomputable def fX3_firstOrder_11 (fu : Nat) (x0 : Nat) : Nat → Int32 → Int32 → St → Option (Nat × St) := lp (fun k11 => fX3_firstOrder_11b fu k11 x0) (fun _ _ _ => none)
set_option maxHeartbeats 4000000 in
theorem tX3_firstOrder_11 {l : Launch} {D : va_G} {cA : ClassId} {bs : Nat} {ad : Nat → Nat} {p : Program} {e : Env} {s : State} {m : MethodId} {args : Array Value} {below : List Frame} {meth : Method} {c : Code} {fu : Nat} (C : Cx D cA bs ad RX3 cX3_firstOrder 4 (some (.object "PavedAnew$Order")) p s m args meth c) {x0 : Nat} {q : Nat × St} (hx0 : xk x0 = 1)  : ∀ (n : Nat) (x1 : Int32) (x2 : Int32) (σ : St), fX3_firstOrder_11 fu  x0 n x1 x2 σ = some q → Y D cA bs ad p l e (rmY 2 46) s m args below meth c 4 0 0 (QM D cA bs ad below args s (some (.ref (ad q.1))) q.2) σ 11 [(0, .ref (ad x0)), (1, .int x1), (2, .int x2)] [] := by
  intro n
  induction n with
  | zero => intro x1 x2 σ h; cases h
  | succ n ih => intro x1 x2 σ h; exact tX3_firstOrder_11b (fu := fu) C hx0 ih h
noncomputable def fX3_firstOrder_0 (fu : Nat) (x0 : Nat) (σ : St) : Option (Nat × St) :=
  (fX6_clear fu (rf x0 2) σ).bind fun (q101 : St) =>
  fX3_firstOrder_11 fu x0 fu (0 : Int32) (0 : Int32) q101
set_option maxHeartbeats 4000000 in
set_option maxRecDepth 100000 in
theorem tX3_firstOrder_0 {l : Launch} {D : va_G} {cA : ClassId} {bs : Nat} {ad : Nat → Nat} {p : Program} {e : Env} {s : State} {m : MethodId} {args : Array Value} {below : List Frame} {meth : Method} {c : Code} {fu : Nat} (C : Cx D cA bs ad RX3 cX3_firstOrder 4 (some (.object "PavedAnew$Order")) p s m args meth c) {x0 : Nat} {q : Nat × St} (hx0 : xk x0 = 1) {σ : St} (h : fX3_firstOrder_0 fu x0 σ = some q) : Y D cA bs ad p l e (rmY 2 46) s m args below meth c 4 0 0 (QM D cA bs ad below args s (some (.ref (ad q.1))) q.2) σ 0 [(0, .ref (ad x0))] [] := by
  unfold fX3_firstOrder_0 at h
  refine y_aload_n (pc := 0) (q := 0) C dX3_firstOrder_0 rfl rfl ?_
  refine y_getr (pc := 1) C faX3_21 rfl hx0 dX3_firstOrder_1 ?_
  obtain ⟨q101, eq101, h⟩ := bdS h
  refine y_callV (pc := 4) (As := []) (rest := []) C (mX6_clear (fu := fu) eq101) vwX3_41 rfl (by decide) (rf_1_2 _ hx0) rfl rfl (Nat.le_of_ble_eq_true rfl) ⟨Nat.le_of_ble_eq_true rfl, Nat.le_of_ble_eq_true rfl⟩ ⟨Nat.le_refl _, Nat.le_refl _⟩ dX3_firstOrder_4 ?_
  show Y _ _ _ _ _ _ _ _ _ _ _ _ _ _ _ _ _ _ q101 7 [(0, .ref (ad x0))] []
  refine y_iconst (pc := 7) (v := (0 : Int32)) C dX3_firstOrder_7 (by decide) ?_
  refine y_istore_n (pc := 8) (lv' := [(1, .int (0 : Int32)), (0, .ref (ad x0))]) C dX3_firstOrder_8 rfl (by decide) rfl ?_
  refine y_iconst (pc := 9) (v := (0 : Int32)) C dX3_firstOrder_9 (by decide) ?_
  refine y_istore_n (pc := 10) (lv' := [(2, .int (0 : Int32)), (1, .int (0 : Int32)), (0, .ref (ad x0))]) C dX3_firstOrder_10 rfl (by decide) rfl ?_
  refine y_sub [2, 1, 0] (lv' := [(0, .ref (ad x0)), (1, .int (0 : Int32)), (2, .int (0 : Int32))]) rfl ?_
  exact tX3_firstOrder_11 (fu := fu) C hx0 fu _ _ _ h
noncomputable def fX3_firstOrder (fu : Nat) (x0 : Nat) (σ : St) : Option (Nat × St) := if xk x0 = 1 then fX3_firstOrder_0 fu x0 σ else none
theorem mX3_firstOrder {l : Launch} {D : va_G} {cA : ClassId} {bs fu : Nat} {ad : Nat → Nat} {x0 : Nat} {σ : St} {q : Nat × St} (h : fX3_firstOrder fu x0 σ = some q) : Ct l D cA bs ad yX3_firstOrder cX3_firstOrder 4 (some (.object "PavedAnew$Order")) 2 46 [.ref (ad x0)] σ (some (.ref (ad q.1))) q.2 := by
  unfold fX3_firstOrder at h
  by_cases hx0 : xk x0 = 1
  case neg => rw [if_neg hx0] at h; cases h
  rw [if_pos hx0] at h
  exact Ct.of (by decide) (Nat.le_of_ble_eq_true rfl) (fun p e s m args below meth c C => tX3_firstOrder_0 (fu := fu) C hx0 h)
noncomputable def fX3_placeIn_27 (fu : Nat) (x0 : Nat) (x1 : Int32) (x2 : Int32) (σ : St) : Option (Int32 × St) :=
  some (x2, σ)
set_option maxHeartbeats 4000000 in
set_option maxRecDepth 100000 in
theorem tX3_placeIn_27 {l : Launch} {D : va_G} {cA : ClassId} {bs : Nat} {ad : Nat → Nat} {p : Program} {e : Env} {s : State} {m : MethodId} {args : Array Value} {below : List Frame} {meth : Method} {c : Code} {fu : Nat} (C : Cx D cA bs ad RX3 cX3_placeIn 3 (some .int) p s m args meth c) {x0 : Nat} {x1 : Int32} {x2 : Int32} {q : Int32 × St} (hx0 : xk x0 = 4) {σ : St} (h : fX3_placeIn_27 fu x0 x1 x2 σ = some q) : Y D cA bs ad p l e (rmY 1 21) s m args below meth c 3 0 0 (QM D cA bs ad below args s (some (.int q.1)) q.2) σ 27 [(0, .ref (ad x0)), (1, .int x1), (2, .int x2)] [] := by
  unfold fX3_placeIn_27 at h
  refine y_iload_n (pc := 27) (q := 2) C dX3_placeIn_27 rfl rfl ?_
  cases h
  exact y_iret (pc := 28) C dX3_placeIn_28
noncomputable def fX3_placeIn_2b (fu : Nat) (k2 : Int32 → St → Option (Int32 × St)) (x0 : Nat) (x1 : Int32) (x2 : Int32) (σ : St) : Option (Int32 × St) :=
  (fX6_size fu x0 σ).bind fun (q101 : Int32 × St) =>
  if q101.1 ≤ (x2 + (1 : Int32)) then
    fX3_placeIn_27 fu x0 x1 x2 q101.2
  else
    (fX6_blockIn fu x0 x2 q101.2).bind fun (q103 : Int32 × St) =>
    if q103.1 = x1 then
      fX3_placeIn_27 fu x0 x1 x2 q103.2
    else
      nm (x2 + (1 : Int32)) fun (y105 : Int32) =>
      k2 y105 q103.2
set_option maxHeartbeats 4000000 in
set_option maxRecDepth 100000 in
theorem tX3_placeIn_2b {l : Launch} {D : va_G} {cA : ClassId} {bs : Nat} {ad : Nat → Nat} {p : Program} {e : Env} {s : State} {m : MethodId} {args : Array Value} {below : List Frame} {meth : Method} {c : Code} {fu : Nat} (C : Cx D cA bs ad RX3 cX3_placeIn 3 (some .int) p s m args meth c) {k2 : Int32 → St → Option (Int32 × St)} {x0 : Nat} {x1 : Int32} {x2 : Int32} {q : Int32 × St} (hx0 : xk x0 = 4) (hk2 : ∀ (x2 : Int32) (σ : St), k2 x2 σ = some q → Y D cA bs ad p l e (rmY 1 21) s m args below meth c 3 0 0 (QM D cA bs ad below args s (some (.int q.1)) q.2) σ 2 [(0, .ref (ad x0)), (1, .int x1), (2, .int x2)] []) {σ : St} (h : fX3_placeIn_2b fu k2 x0 x1 x2 σ = some q) : Y D cA bs ad p l e (rmY 1 21) s m args below meth c 3 0 0 (QM D cA bs ad below args s (some (.int q.1)) q.2) σ 2 [(0, .ref (ad x0)), (1, .int x1), (2, .int x2)] [] := by
  unfold fX3_placeIn_2b at h
  refine y_iload_n (pc := 2) (q := 2) C dX3_placeIn_2 rfl rfl ?_
  refine y_iconst (pc := 3) (v := (1 : Int32)) C dX3_placeIn_3 (by decide) ?_
  refine y_iadd (pc := 4) C dX3_placeIn_4 ?_
  refine y_aload_n (pc := 5) (q := 0) C dX3_placeIn_5 rfl rfl ?_
  obtain ⟨q101, eq101, h⟩ := bdS h
  refine y_callV (pc := 6) (As := []) (rest := [.int (x2 + (1 : Int32))]) C (mX6_size (fu := fu) eq101) vwX3_63 rfl (by decide) hx0 rfl rfl (Nat.le_of_ble_eq_true rfl) ⟨Nat.le_of_ble_eq_true rfl, Nat.le_of_ble_eq_true rfl⟩ ⟨Nat.le_refl _, Nat.le_refl _⟩ dX3_placeIn_6 ?_
  show Y _ _ _ _ _ _ _ _ _ _ _ _ _ _ _ _ _ _ q101.2 9 [(0, .ref (ad x0)), (1, .int x1), (2, .int x2)] [.int q101.1, .int (x2 + (1 : Int32))]
  refine y_icmp_ge (pc := 9) (tgt := 27) C dX3_placeIn_9 (by decide) (fun c102 => ?_) (fun c102 => ?_)
  · rw [if_pos c102] at h
    exact tX3_placeIn_27 (fu := fu) C hx0 h
  · rw [if_neg c102] at h
    refine y_aload_n (pc := 12) (q := 0) C dX3_placeIn_12 rfl rfl ?_
    refine y_iload_n (pc := 13) (q := 2) C dX3_placeIn_13 rfl rfl ?_
    obtain ⟨q103, eq103, h⟩ := bdS h
    refine y_callV (pc := 14) (As := [.int x2]) (rest := []) C (mX6_blockIn (fu := fu) eq103) vwX3_64 rfl (by decide) hx0 rfl rfl (Nat.le_of_ble_eq_true rfl) ⟨Nat.le_of_ble_eq_true rfl, Nat.le_of_ble_eq_true rfl⟩ ⟨Nat.le_refl _, Nat.le_refl _⟩ dX3_placeIn_14 ?_
    show Y _ _ _ _ _ _ _ _ _ _ _ _ _ _ _ _ _ _ q103.2 17 [(0, .ref (ad x0)), (1, .int x1), (2, .int x2)] [.int q103.1]
    refine y_iload_n (pc := 17) (q := 1) C dX3_placeIn_17 rfl rfl ?_
    refine y_icmp_eq (pc := 18) (tgt := 27) C dX3_placeIn_18 (by decide) (fun c104 => ?_) (fun c104 => ?_)
    · rw [if_pos c104] at h
      exact tX3_placeIn_27 (fu := fu) C hx0 h
    · rw [if_neg c104] at h
      obtain ⟨y105, ey105, h⟩ := nmS h
      refine y_iinc (pc := 21) (v := y105) (k := 2) (lv' := [(2, .int y105), (0, .ref (ad x0)), (1, .int x1)]) C dX3_placeIn_21 rfl (by rw [ey105]; rfl) (by decide) rfl ?_
      refine y_goto (pc := 24) (tgt := 2) C dX3_placeIn_24 (by decide) ?_
      refine y_sub [1, 2, 0] (lv' := [(0, .ref (ad x0)), (1, .int x1), (2, .int y105)]) rfl ?_
      exact hk2 _ _ h
noncomputable def fX3_placeIn_2 (fu : Nat) (x0 : Nat) (x1 : Int32) : Nat → Int32 → St → Option (Int32 × St) := lp (fun k2 => fX3_placeIn_2b fu k2 x0 x1) (fun _ _ => none)
set_option maxHeartbeats 4000000 in
theorem tX3_placeIn_2 {l : Launch} {D : va_G} {cA : ClassId} {bs : Nat} {ad : Nat → Nat} {p : Program} {e : Env} {s : State} {m : MethodId} {args : Array Value} {below : List Frame} {meth : Method} {c : Code} {fu : Nat} (C : Cx D cA bs ad RX3 cX3_placeIn 3 (some .int) p s m args meth c) {x0 : Nat} {x1 : Int32} {q : Int32 × St} (hx0 : xk x0 = 4)  : ∀ (n : Nat) (x2 : Int32) (σ : St), fX3_placeIn_2 fu  x0 x1 n x2 σ = some q → Y D cA bs ad p l e (rmY 1 21) s m args below meth c 3 0 0 (QM D cA bs ad below args s (some (.int q.1)) q.2) σ 2 [(0, .ref (ad x0)), (1, .int x1), (2, .int x2)] [] := by
  intro n
  induction n with
  | zero => intro x2 σ h; cases h
  | succ n ih => intro x2 σ h; exact tX3_placeIn_2b (fu := fu) C hx0 ih h
noncomputable def fX3_placeIn_0 (fu : Nat) (x0 : Nat) (x1 : Int32) (σ : St) : Option (Int32 × St) :=
  fX3_placeIn_2 fu x0 x1 fu (0 : Int32) σ
set_option maxHeartbeats 4000000 in
set_option maxRecDepth 100000 in
theorem tX3_placeIn_0 {l : Launch} {D : va_G} {cA : ClassId} {bs : Nat} {ad : Nat → Nat} {p : Program} {e : Env} {s : State} {m : MethodId} {args : Array Value} {below : List Frame} {meth : Method} {c : Code} {fu : Nat} (C : Cx D cA bs ad RX3 cX3_placeIn 3 (some .int) p s m args meth c) {x0 : Nat} {x1 : Int32} {q : Int32 × St} (hx0 : xk x0 = 4) {σ : St} (h : fX3_placeIn_0 fu x0 x1 σ = some q) : Y D cA bs ad p l e (rmY 1 21) s m args below meth c 3 0 0 (QM D cA bs ad below args s (some (.int q.1)) q.2) σ 0 [(0, .ref (ad x0)), (1, .int x1)] [] := by
  unfold fX3_placeIn_0 at h
  refine y_iconst (pc := 0) (v := (0 : Int32)) C dX3_placeIn_0 (by decide) ?_
  refine y_istore_n (pc := 1) (lv' := [(2, .int (0 : Int32)), (0, .ref (ad x0)), (1, .int x1)]) C dX3_placeIn_1 rfl (by decide) rfl ?_
  refine y_sub [1, 2, 0] (lv' := [(0, .ref (ad x0)), (1, .int x1), (2, .int (0 : Int32))]) rfl ?_
  exact tX3_placeIn_2 (fu := fu) C hx0 fu _ _ h
noncomputable def fX3_placeIn (fu : Nat) (x0 : Nat) (x1 : Int32) (σ : St) : Option (Int32 × St) := if xk x0 = 4 then fX3_placeIn_0 fu x0 x1 σ else none
theorem mX3_placeIn {l : Launch} {D : va_G} {cA : ClassId} {bs fu : Nat} {ad : Nat → Nat} {x0 : Nat} {x1 : Int32} {σ : St} {q : Int32 × St} (h : fX3_placeIn fu x0 x1 σ = some q) : Ct l D cA bs ad yX3_placeIn cX3_placeIn 3 (some .int) 1 21 [.ref (ad x0), .int x1] σ (some (.int q.1)) q.2 := by
  unfold fX3_placeIn at h
  by_cases hx0 : xk x0 = 4
  case neg => rw [if_neg hx0] at h; cases h
  rw [if_pos hx0] at h
  exact Ct.of (by decide) (Nat.le_of_ble_eq_true rfl) (fun p e s m args below meth c C => tX3_placeIn_0 (fu := fu) C hx0 h)
noncomputable def fX3_surePlaceOf_48 (fu : Nat) (x0 : Nat) (x1 : Int32) (s0 : Int32) (σ : St) : Option (Int32 × St) :=
  some (s0, σ)
set_option maxHeartbeats 4000000 in
set_option maxRecDepth 100000 in
theorem tX3_surePlaceOf_48 {l : Launch} {D : va_G} {cA : ClassId} {bs : Nat} {ad : Nat → Nat} {p : Program} {e : Env} {s : State} {m : MethodId} {args : Array Value} {below : List Frame} {meth : Method} {c : Code} {fu : Nat} (C : Cx D cA bs ad RX3 cX3_surePlaceOf 3 (some .int) p s m args meth c) {x0 : Nat} {x1 : Int32} {s0 : Int32} {q : Int32 × St} (hx0 : xk x0 = 1) {σ : St} (h : fX3_surePlaceOf_48 fu x0 x1 s0 σ = some q) : Y D cA bs ad p l e (rmY 3 69) s m args below meth c 3 0 0 (QM D cA bs ad below args s (some (.int q.1)) q.2) σ 48 [(0, .ref (ad x0)), (1, .int x1)] [.int s0] := by
  unfold fX3_surePlaceOf_48 at h
  cases h
  exact y_iret (pc := 48) C dX3_surePlaceOf_48
noncomputable def fX3_surePlaceOf_0 (fu : Nat) (x0 : Nat) (x1 : Int32) (σ : St) : Option (Int32 × St) :=
  (fX3_ordersFound fu x0 σ).bind fun (q101 : Int32 × St) =>
  if q101.1 = 0 then
    some ((-1 : Int32), q101.2)
  else
    (fX3_firstOrder fu x0 q101.2).bind fun (q103 : Nat × St) =>
    if xk q103.1 = 4 then
    (fX3_placeIn fu q103.1 x1 q103.2).bind fun (q105 : Int32 × St) =>
    (ald q105.2 (rf x0 1) 7 x1).bind fun (v106 : Int32) =>
    (ast q105.2 (rf x0 1) 7 x1 (v106 &&& (((1 : Int32) <<< (q105.1 &&& 31)) ^^^ (-1 : Int32)))).bind fun (σ107 : St) =>
    (fX3_countWays fu x0 σ107).bind fun (q108 : St) =>
    (fX3_ordersFound fu x0 q108).bind fun (q109 : Int32 × St) =>
    if q109.1 = 0 then
      fX3_surePlaceOf_48 fu x0 x1 q105.1 q109.2
    else
      fX3_surePlaceOf_48 fu x0 x1 (-1 : Int32) q109.2
    else none
set_option maxHeartbeats 4000000 in
set_option maxRecDepth 100000 in
theorem tX3_surePlaceOf_0 {l : Launch} {D : va_G} {cA : ClassId} {bs : Nat} {ad : Nat → Nat} {p : Program} {e : Env} {s : State} {m : MethodId} {args : Array Value} {below : List Frame} {meth : Method} {c : Code} {fu : Nat} (C : Cx D cA bs ad RX3 cX3_surePlaceOf 3 (some .int) p s m args meth c) {x0 : Nat} {x1 : Int32} {q : Int32 × St} (hx0 : xk x0 = 1) {σ : St} (h : fX3_surePlaceOf_0 fu x0 x1 σ = some q) : Y D cA bs ad p l e (rmY 3 69) s m args below meth c 3 0 0 (QM D cA bs ad below args s (some (.int q.1)) q.2) σ 0 [(0, .ref (ad x0)), (1, .int x1)] [] := by
  unfold fX3_surePlaceOf_0 at h
  refine y_aload_n (pc := 0) (q := 0) C dX3_surePlaceOf_0 rfl rfl ?_
  obtain ⟨q101, eq101, h⟩ := bdS h
  refine y_callV (pc := 1) (As := []) (rest := []) C (mX3_ordersFound (fu := fu) eq101) vwX3_52 rfl (by decide) hx0 rfl rfl (Nat.le_of_ble_eq_true rfl) ⟨Nat.le_of_ble_eq_true rfl, Nat.le_of_ble_eq_true rfl⟩ ⟨Nat.le_refl _, Nat.le_refl _⟩ dX3_surePlaceOf_1 ?_
  show Y _ _ _ _ _ _ _ _ _ _ _ _ _ _ _ _ _ _ q101.2 4 [(0, .ref (ad x0)), (1, .int x1)] [.int q101.1]
  refine y_if_ne (pc := 4) (tgt := 9) C dX3_surePlaceOf_4 (by decide) (fun c102 => ?_) (fun c102 => ?_)
  · rw [if_neg c102] at h
    refine y_aload_n (pc := 9) (q := 0) C dX3_surePlaceOf_9 rfl rfl ?_
    obtain ⟨q103, eq103, h⟩ := bdS h
    refine y_callV (pc := 10) (As := []) (rest := []) C (mX3_firstOrder (fu := fu) eq103) vwX3_55 rfl (by decide) hx0 rfl rfl (Nat.le_of_ble_eq_true rfl) ⟨Nat.le_of_ble_eq_true rfl, Nat.le_of_ble_eq_true rfl⟩ ⟨Nat.le_refl _, Nat.le_refl _⟩ dX3_surePlaceOf_10 ?_
    by_cases hr104 : xk q103.1 = 4
    case neg => rw [if_neg hr104] at h; cases h
    rw [if_pos hr104] at h
    show Y _ _ _ _ _ _ _ _ _ _ _ _ _ _ _ _ _ _ q103.2 13 [(0, .ref (ad x0)), (1, .int x1)] [.ref (ad q103.1)]
    refine y_iload_n (pc := 13) (q := 1) C dX3_surePlaceOf_13 rfl rfl ?_
    obtain ⟨q105, eq105, h⟩ := bdS h
    refine y_callS (pc := 14) (As := [.ref (ad q103.1), .int x1]) (rest := []) C (mX3_placeIn (fu := fu) eq105) vwX3_59 rfl rfl (Nat.le_of_ble_eq_true rfl) ⟨Nat.le_of_ble_eq_true rfl, Nat.le_of_ble_eq_true rfl⟩ ⟨Nat.le_refl _, Nat.le_refl _⟩ dX3_surePlaceOf_14 ?_
    show Y _ _ _ _ _ _ _ _ _ _ _ _ _ _ _ _ _ _ q105.2 17 [(0, .ref (ad x0)), (1, .int x1)] [.int q105.1]
    refine y_istore_n (pc := 17) (lv' := [(2, .int q105.1), (0, .ref (ad x0)), (1, .int x1)]) C dX3_surePlaceOf_17 rfl (by decide) rfl ?_
    refine y_aload_n (pc := 18) (q := 1) C dX3_surePlaceOf_18 rfl rfl ?_
    refine y_getr (pc := 19) C faX3_15 rfl hx0 dX3_surePlaceOf_19 ?_
    refine y_iload_n (pc := 22) (q := 2) C dX3_surePlaceOf_22 rfl rfl ?_
    refine y_dup2 (pc := 23) C dX3_surePlaceOf_23 rfl rfl ?_
    obtain ⟨v106, ev106, h⟩ := bdS h
    refine y_iald (pc := 24) (n := 7) C (rf_1_1 _ hx0) (by decide) ev106 dX3_surePlaceOf_24 ?_
    refine y_iconst (pc := 25) (v := (1 : Int32)) C dX3_surePlaceOf_25 (by decide) ?_
    refine y_iload_n (pc := 26) (q := 0) C dX3_surePlaceOf_26 rfl rfl ?_
    refine y_ishl (pc := 27) C dX3_surePlaceOf_27 ?_
    refine y_iconst (pc := 28) (v := (-1 : Int32)) C dX3_surePlaceOf_28 (by decide) ?_
    refine y_ixor (pc := 29) C dX3_surePlaceOf_29 ?_
    refine y_iand (pc := 30) C dX3_surePlaceOf_30 ?_
    obtain ⟨σ107, eσ107, h⟩ := bdS h
    refine y_iast (pc := 31) (n := 7) C (rf_1_1 _ hx0) (by decide) eσ107 dX3_surePlaceOf_31 ?_
    refine y_aload_n (pc := 32) (q := 1) C dX3_surePlaceOf_32 rfl rfl ?_
    obtain ⟨q108, eq108, h⟩ := bdS h
    refine y_callV (pc := 33) (As := []) (rest := []) C (mX3_countWays (fu := fu) eq108) vwX3_38 rfl (by decide) hx0 rfl rfl (Nat.le_of_ble_eq_true rfl) ⟨Nat.le_of_ble_eq_true rfl, Nat.le_of_ble_eq_true rfl⟩ ⟨Nat.le_refl _, Nat.le_refl _⟩ dX3_surePlaceOf_33 ?_
    show Y _ _ _ _ _ _ _ _ _ _ _ _ _ _ _ _ _ _ q108 36 [(2, .int q105.1), (0, .ref (ad x0)), (1, .int x1)] []
    refine y_aload_n (pc := 36) (q := 1) C dX3_surePlaceOf_36 rfl rfl ?_
    obtain ⟨q109, eq109, h⟩ := bdS h
    refine y_callV (pc := 37) (As := []) (rest := []) C (mX3_ordersFound (fu := fu) eq109) vwX3_52 rfl (by decide) hx0 rfl rfl (Nat.le_of_ble_eq_true rfl) ⟨Nat.le_of_ble_eq_true rfl, Nat.le_of_ble_eq_true rfl⟩ ⟨Nat.le_refl _, Nat.le_refl _⟩ dX3_surePlaceOf_37 ?_
    show Y _ _ _ _ _ _ _ _ _ _ _ _ _ _ _ _ _ _ q109.2 40 [(2, .int q105.1), (0, .ref (ad x0)), (1, .int x1)] [.int q109.1]
    refine y_if_ne (pc := 40) (tgt := 47) C dX3_surePlaceOf_40 (by decide) (fun c110 => ?_) (fun c110 => ?_)
    · rw [if_neg c110] at h
      refine y_iconst (pc := 47) (v := (-1 : Int32)) C dX3_surePlaceOf_47 (by decide) ?_
      refine y_sub [1, 2] (lv' := [(0, .ref (ad x0)), (1, .int x1)]) rfl ?_
      exact tX3_surePlaceOf_48 (fu := fu) C hx0 h
    · rw [if_pos c110] at h
      refine y_iload_n (pc := 43) (q := 0) C dX3_surePlaceOf_43 rfl rfl ?_
      refine y_goto (pc := 44) (tgt := 48) C dX3_surePlaceOf_44 (by decide) ?_
      refine y_sub [1, 2] (lv' := [(0, .ref (ad x0)), (1, .int x1)]) rfl ?_
      exact tX3_surePlaceOf_48 (fu := fu) C hx0 h
  · rw [if_pos c102] at h
    refine y_iconst (pc := 7) (v := (-1 : Int32)) C dX3_surePlaceOf_7 (by decide) ?_
    cases h
    exact y_iret (pc := 8) C dX3_surePlaceOf_8
noncomputable def fX3_surePlaceOf (fu : Nat) (x0 : Nat) (x1 : Int32) (σ : St) : Option (Int32 × St) := if xk x0 = 1 then fX3_surePlaceOf_0 fu x0 x1 σ else none
theorem mX3_surePlaceOf {l : Launch} {D : va_G} {cA : ClassId} {bs fu : Nat} {ad : Nat → Nat} {x0 : Nat} {x1 : Int32} {σ : St} {q : Int32 × St} (h : fX3_surePlaceOf fu x0 x1 σ = some q) : Ct l D cA bs ad yX3_surePlaceOf cX3_surePlaceOf 3 (some .int) 3 69 [.ref (ad x0), .int x1] σ (some (.int q.1)) q.2 := by
  unfold fX3_surePlaceOf at h
  by_cases hx0 : xk x0 = 1
  case neg => rw [if_neg hx0] at h; cases h
  rw [if_pos hx0] at h
  exact Ct.of (by decide) (Nat.le_of_ble_eq_true rfl) (fun p e s m args below meth c C => tX3_surePlaceOf_0 (fu := fu) C hx0 h)
noncomputable def fX7_length_0 (fu : Nat) (x0 : Nat) (σ : St) : Option (Int32 × St) :=
  some ((σ.1 x0 1), σ)
set_option maxHeartbeats 4000000 in
set_option maxRecDepth 100000 in
theorem tX7_length_0 {l : Launch} {D : va_G} {cA : ClassId} {bs : Nat} {ad : Nat → Nat} {p : Program} {e : Env} {s : State} {m : MethodId} {args : Array Value} {below : List Frame} {meth : Method} {c : Code} {fu : Nat} (C : Cx D cA bs ad RX7 cX7_length 1 (some .int) p s m args meth c) {x0 : Nat} {q : Int32 × St} (hx0 : xk x0 = 5) {σ : St} (h : fX7_length_0 fu x0 σ = some q) : Y D cA bs ad p l e (rmY 0 0) s m args below meth c 1 0 0 (QM D cA bs ad below args s (some (.int q.1)) q.2) σ 0 [(0, .ref (ad x0))] [] := by
  unfold fX7_length_0 at h
  refine y_aload_n (pc := 0) (q := 0) C dX7_length_0 rfl rfl ?_
  refine y_geti (pc := 1) C faX7_15 rfl hx0 dX7_length_1 ?_
  cases h
  exact y_iret (pc := 4) C dX7_length_4
noncomputable def fX7_length (fu : Nat) (x0 : Nat) (σ : St) : Option (Int32 × St) := if xk x0 = 5 then fX7_length_0 fu x0 σ else none
theorem mX7_length {l : Launch} {D : va_G} {cA : ClassId} {bs fu : Nat} {ad : Nat → Nat} {x0 : Nat} {σ : St} {q : Int32 × St} (h : fX7_length fu x0 σ = some q) : Ct l D cA bs ad yX7_length cX7_length 1 (some .int) 0 0 [.ref (ad x0)] σ (some (.int q.1)) q.2 := by
  unfold fX7_length at h
  by_cases hx0 : xk x0 = 5
  case neg => rw [if_neg hx0] at h; cases h
  rw [if_pos hx0] at h
  exact Ct.of (by decide) (Nat.le_of_ble_eq_true rfl) (fun p e s m args below meth c C => tX7_length_0 (fu := fu) C hx0 h)
noncomputable def fX7_letterAt_22 (fu : Nat) (x0 : Nat) (x1 : Int32) (s0 : Int32) (σ : St) : Option (Int32 × St) :=
  some (s0, σ)
set_option maxHeartbeats 4000000 in
set_option maxRecDepth 100000 in
theorem tX7_letterAt_22 {l : Launch} {D : va_G} {cA : ClassId} {bs : Nat} {ad : Nat → Nat} {p : Program} {e : Env} {s : State} {m : MethodId} {args : Array Value} {below : List Frame} {meth : Method} {c : Code} {fu : Nat} (C : Cx D cA bs ad RX7 cX7_letterAt 2 (some .int) p s m args meth c) {x0 : Nat} {x1 : Int32} {s0 : Int32} {q : Int32 × St} (hx0 : xk x0 = 5) {σ : St} (h : fX7_letterAt_22 fu x0 x1 s0 σ = some q) : Y D cA bs ad p l e (rmY 0 0) s m args below meth c 2 0 0 (QM D cA bs ad below args s (some (.int q.1)) q.2) σ 22 [(0, .ref (ad x0)), (1, .int x1)] [.int s0] := by
  unfold fX7_letterAt_22 at h
  cases h
  exact y_iret (pc := 22) C dX7_letterAt_22
noncomputable def fX7_letterAt_21 (fu : Nat) (x0 : Nat) (x1 : Int32) (σ : St) : Option (Int32 × St) :=
  fX7_letterAt_22 fu x0 x1 (0 : Int32) σ
set_option maxHeartbeats 4000000 in
set_option maxRecDepth 100000 in
theorem tX7_letterAt_21 {l : Launch} {D : va_G} {cA : ClassId} {bs : Nat} {ad : Nat → Nat} {p : Program} {e : Env} {s : State} {m : MethodId} {args : Array Value} {below : List Frame} {meth : Method} {c : Code} {fu : Nat} (C : Cx D cA bs ad RX7 cX7_letterAt 2 (some .int) p s m args meth c) {x0 : Nat} {x1 : Int32} {q : Int32 × St} (hx0 : xk x0 = 5) {σ : St} (h : fX7_letterAt_21 fu x0 x1 σ = some q) : Y D cA bs ad p l e (rmY 0 0) s m args below meth c 2 0 0 (QM D cA bs ad below args s (some (.int q.1)) q.2) σ 21 [(0, .ref (ad x0)), (1, .int x1)] [] := by
  unfold fX7_letterAt_21 at h
  refine y_iconst (pc := 21) (v := (0 : Int32)) C dX7_letterAt_21 (by decide) ?_
  exact tX7_letterAt_22 (fu := fu) C hx0 h
noncomputable def fX7_letterAt_0 (fu : Nat) (x0 : Nat) (x1 : Int32) (σ : St) : Option (Int32 × St) :=
  if x1 < 0 then
    fX7_letterAt_21 fu x0 x1 σ
  else
    if (σ.1 x0 1) ≤ x1 then
      fX7_letterAt_21 fu x0 x1 σ
    else
      (ald σ (rf x0 0) 16 x1).bind fun (v103 : Int32) =>
      fX7_letterAt_22 fu x0 x1 v103 σ
set_option maxHeartbeats 4000000 in
set_option maxRecDepth 100000 in
theorem tX7_letterAt_0 {l : Launch} {D : va_G} {cA : ClassId} {bs : Nat} {ad : Nat → Nat} {p : Program} {e : Env} {s : State} {m : MethodId} {args : Array Value} {below : List Frame} {meth : Method} {c : Code} {fu : Nat} (C : Cx D cA bs ad RX7 cX7_letterAt 2 (some .int) p s m args meth c) {x0 : Nat} {x1 : Int32} {q : Int32 × St} (hx0 : xk x0 = 5) {σ : St} (h : fX7_letterAt_0 fu x0 x1 σ = some q) : Y D cA bs ad p l e (rmY 0 0) s m args below meth c 2 0 0 (QM D cA bs ad below args s (some (.int q.1)) q.2) σ 0 [(0, .ref (ad x0)), (1, .int x1)] [] := by
  unfold fX7_letterAt_0 at h
  refine y_iload_n (pc := 0) (q := 1) C dX7_letterAt_0 rfl rfl ?_
  refine y_if_lt (pc := 1) (tgt := 21) C dX7_letterAt_1 (by decide) (fun c101 => ?_) (fun c101 => ?_)
  · rw [if_pos c101] at h
    exact tX7_letterAt_21 (fu := fu) C hx0 h
  · rw [if_neg c101] at h
    refine y_iload_n (pc := 4) (q := 1) C dX7_letterAt_4 rfl rfl ?_
    refine y_aload_n (pc := 5) (q := 0) C dX7_letterAt_5 rfl rfl ?_
    refine y_geti (pc := 6) C faX7_15 rfl hx0 dX7_letterAt_6 ?_
    refine y_icmp_ge (pc := 9) (tgt := 21) C dX7_letterAt_9 (by decide) (fun c102 => ?_) (fun c102 => ?_)
    · rw [if_pos c102] at h
      exact tX7_letterAt_21 (fu := fu) C hx0 h
    · rw [if_neg c102] at h
      refine y_aload_n (pc := 12) (q := 0) C dX7_letterAt_12 rfl rfl ?_
      refine y_getr (pc := 13) C faX7_9 rfl hx0 dX7_letterAt_13 ?_
      refine y_iload_n (pc := 16) (q := 1) C dX7_letterAt_16 rfl rfl ?_
      obtain ⟨v103, ev103, h⟩ := bdS h
      refine y_iald (pc := 17) (n := 16) C (rf_5_0 _ hx0) (by decide) ev103 dX7_letterAt_17 ?_
      refine y_goto (pc := 18) (tgt := 22) C dX7_letterAt_18 (by decide) ?_
      exact tX7_letterAt_22 (fu := fu) C hx0 h
noncomputable def fX7_letterAt (fu : Nat) (x0 : Nat) (x1 : Int32) (σ : St) : Option (Int32 × St) := if xk x0 = 5 then fX7_letterAt_0 fu x0 x1 σ else none
theorem mX7_letterAt {l : Launch} {D : va_G} {cA : ClassId} {bs fu : Nat} {ad : Nat → Nat} {x0 : Nat} {x1 : Int32} {σ : St} {q : Int32 × St} (h : fX7_letterAt fu x0 x1 σ = some q) : Ct l D cA bs ad yX7_letterAt cX7_letterAt 2 (some .int) 0 0 [.ref (ad x0), .int x1] σ (some (.int q.1)) q.2 := by
  unfold fX7_letterAt at h
  by_cases hx0 : xk x0 = 5
  case neg => rw [if_neg hx0] at h; cases h
  rw [if_pos hx0] at h
  exact Ct.of (by decide) (Nat.le_of_ble_eq_true rfl) (fun p e s m args below meth c C => tX7_letterAt_0 (fu := fu) C hx0 h)
noncomputable def fX9_isWithin_15 (fu : Nat) (x0 : Int32) (x1 : Int32) (x2 : Int32) (s0 : Int32) (σ : St) : Option (Int32 × St) :=
  if s0 = 0 ∨ s0 = 1 then some (s0, σ) else none
set_option maxHeartbeats 4000000 in
set_option maxRecDepth 100000 in
theorem tX9_isWithin_15 {l : Launch} {D : va_G} {cA : ClassId} {bs : Nat} {ad : Nat → Nat} {p : Program} {e : Env} {s : State} {m : MethodId} {args : Array Value} {below : List Frame} {meth : Method} {c : Code} {fu : Nat} (C : Cx D cA bs ad RX9 cX9_isWithin 3 (some .boolean) p s m args meth c) {x0 : Int32} {x1 : Int32} {x2 : Int32} {s0 : Int32} {q : Int32 × St} {σ : St} (h : fX9_isWithin_15 fu x0 x1 x2 s0 σ = some q) : Y D cA bs ad p l e (rmY 0 0) s m args below meth c 3 0 0 (QM D cA bs ad below args s (some (.int q.1)) q.2) σ 15 [(0, .int x0), (1, .int x1), (2, .int x2)] [.int s0] := by
  unfold fX9_isWithin_15 at h
  by_cases c101 : s0 = 0 ∨ s0 = 1
  case neg => rw [if_neg c101] at h; cases h
  rw [if_pos c101] at h
  cases h
  exact y_zret (pc := 15) C c101 dX9_isWithin_15
noncomputable def fX9_isWithin_14 (fu : Nat) (x0 : Int32) (x1 : Int32) (x2 : Int32) (σ : St) : Option (Int32 × St) :=
  fX9_isWithin_15 fu x0 x1 x2 (0 : Int32) σ
set_option maxHeartbeats 4000000 in
set_option maxRecDepth 100000 in
theorem tX9_isWithin_14 {l : Launch} {D : va_G} {cA : ClassId} {bs : Nat} {ad : Nat → Nat} {p : Program} {e : Env} {s : State} {m : MethodId} {args : Array Value} {below : List Frame} {meth : Method} {c : Code} {fu : Nat} (C : Cx D cA bs ad RX9 cX9_isWithin 3 (some .boolean) p s m args meth c) {x0 : Int32} {x1 : Int32} {x2 : Int32} {q : Int32 × St} {σ : St} (h : fX9_isWithin_14 fu x0 x1 x2 σ = some q) : Y D cA bs ad p l e (rmY 0 0) s m args below meth c 3 0 0 (QM D cA bs ad below args s (some (.int q.1)) q.2) σ 14 [(0, .int x0), (1, .int x1), (2, .int x2)] [] := by
  unfold fX9_isWithin_14 at h
  refine y_iconst (pc := 14) (v := (0 : Int32)) C dX9_isWithin_14 (by decide) ?_
  exact tX9_isWithin_15 (fu := fu) C h
noncomputable def fX9_isWithin_0 (fu : Nat) (x0 : Int32) (x1 : Int32) (x2 : Int32) (σ : St) : Option (Int32 × St) :=
  if x0 < x1 then
    fX9_isWithin_14 fu x0 x1 x2 σ
  else
    if x2 < x0 then
      fX9_isWithin_14 fu x0 x1 x2 σ
    else
      fX9_isWithin_15 fu x0 x1 x2 (1 : Int32) σ
set_option maxHeartbeats 4000000 in
set_option maxRecDepth 100000 in
theorem tX9_isWithin_0 {l : Launch} {D : va_G} {cA : ClassId} {bs : Nat} {ad : Nat → Nat} {p : Program} {e : Env} {s : State} {m : MethodId} {args : Array Value} {below : List Frame} {meth : Method} {c : Code} {fu : Nat} (C : Cx D cA bs ad RX9 cX9_isWithin 3 (some .boolean) p s m args meth c) {x0 : Int32} {x1 : Int32} {x2 : Int32} {q : Int32 × St} {σ : St} (h : fX9_isWithin_0 fu x0 x1 x2 σ = some q) : Y D cA bs ad p l e (rmY 0 0) s m args below meth c 3 0 0 (QM D cA bs ad below args s (some (.int q.1)) q.2) σ 0 [(0, .int x0), (1, .int x1), (2, .int x2)] [] := by
  unfold fX9_isWithin_0 at h
  refine y_iload_n (pc := 0) (q := 0) C dX9_isWithin_0 rfl rfl ?_
  refine y_iload_n (pc := 1) (q := 1) C dX9_isWithin_1 rfl rfl ?_
  refine y_icmp_lt (pc := 2) (tgt := 14) C dX9_isWithin_2 (by decide) (fun c101 => ?_) (fun c101 => ?_)
  · rw [if_pos c101] at h
    exact tX9_isWithin_14 (fu := fu) C h
  · rw [if_neg c101] at h
    refine y_iload_n (pc := 5) (q := 0) C dX9_isWithin_5 rfl rfl ?_
    refine y_iload_n (pc := 6) (q := 2) C dX9_isWithin_6 rfl rfl ?_
    refine y_icmp_gt (pc := 7) (tgt := 14) C dX9_isWithin_7 (by decide) (fun c102 => ?_) (fun c102 => ?_)
    · rw [if_pos c102] at h
      exact tX9_isWithin_14 (fu := fu) C h
    · rw [if_neg c102] at h
      refine y_iconst (pc := 10) (v := (1 : Int32)) C dX9_isWithin_10 (by decide) ?_
      refine y_goto (pc := 11) (tgt := 15) C dX9_isWithin_11 (by decide) ?_
      exact tX9_isWithin_15 (fu := fu) C h
noncomputable def fX9_isWithin (fu : Nat) (x0 : Int32) (x1 : Int32) (x2 : Int32) (σ : St) : Option (Int32 × St) := fX9_isWithin_0 fu x0 x1 x2 σ
theorem mX9_isWithin {l : Launch} {D : va_G} {cA : ClassId} {bs fu : Nat} {ad : Nat → Nat} {x0 : Int32} {x1 : Int32} {x2 : Int32} {σ : St} {q : Int32 × St} (h : fX9_isWithin fu x0 x1 x2 σ = some q) : Ct l D cA bs ad yX9_isWithin cX9_isWithin 3 (some .boolean) 0 0 [.int x0, .int x1, .int x2] σ (some (.int q.1)) q.2 := by
  unfold fX9_isWithin at h
  exact Ct.of (by decide) (Nat.le_of_ble_eq_true rfl) (fun p e s m args below meth c C => tX9_isWithin_0 (fu := fu) C h)
noncomputable def fX7_partOf_0 (fu : Nat) (x0 : Int32) (σ : St) : Option (Int32 × St) :=
  if x0 = (109 : Int32) then
    some ((4 : Int32), σ)
  else
  if x0 = (110 : Int32) then
    some ((1 : Int32), σ)
  else
  if x0 = (116 : Int32) then
    some ((2 : Int32), σ)
  else
  if x0 = (119 : Int32) then
    some ((3 : Int32), σ)
  else
  some ((0 : Int32), σ)
set_option maxHeartbeats 4000000 in
set_option maxRecDepth 100000 in
theorem tX7_partOf_0 {l : Launch} {D : va_G} {cA : ClassId} {bs : Nat} {ad : Nat → Nat} {p : Program} {e : Env} {s : State} {m : MethodId} {args : Array Value} {below : List Frame} {meth : Method} {c : Code} {fu : Nat} (C : Cx D cA bs ad RX7 cX7_partOf 1 (some .int) p s m args meth c) {x0 : Int32} {q : Int32 × St} {σ : St} (h : fX7_partOf_0 fu x0 σ = some q) : Y D cA bs ad p l e (rmY 0 0) s m args below meth c 1 0 0 (QM D cA bs ad below args s (some (.int q.1)) q.2) σ 0 [(0, .int x0)] [] := by
  unfold fX7_partOf_0 at h
  refine y_iload_n (pc := 0) (q := 0) C dX7_partOf_0 rfl rfl ?_
  by_cases c101 : x0 = (109 : Int32)
  · rw [if_pos c101] at h
    refine y_look (pc := 1) (tgt := 50) (off := 49) C dX7_partOf_1 (by decide) (by rw [c101]; decide +kernel) (by decide) ?_
    refine y_iconst (pc := 50) (v := (4 : Int32)) C dX7_partOf_50 (by decide) ?_
    cases h
    exact y_iret (pc := 51) C dX7_partOf_51
  rw [if_neg c101] at h
  by_cases c102 : x0 = (110 : Int32)
  · rw [if_pos c102] at h
    refine y_look (pc := 1) (tgt := 44) (off := 43) C dX7_partOf_1 (by decide) (by rw [c102]; decide +kernel) (by decide) ?_
    refine y_iconst (pc := 44) (v := (1 : Int32)) C dX7_partOf_44 (by decide) ?_
    cases h
    exact y_iret (pc := 45) C dX7_partOf_45
  rw [if_neg c102] at h
  by_cases c103 : x0 = (116 : Int32)
  · rw [if_pos c103] at h
    refine y_look (pc := 1) (tgt := 46) (off := 45) C dX7_partOf_1 (by decide) (by rw [c103]; decide +kernel) (by decide) ?_
    refine y_iconst (pc := 46) (v := (2 : Int32)) C dX7_partOf_46 (by decide) ?_
    cases h
    exact y_iret (pc := 47) C dX7_partOf_47
  rw [if_neg c103] at h
  by_cases c104 : x0 = (119 : Int32)
  · rw [if_pos c104] at h
    refine y_look (pc := 1) (tgt := 48) (off := 47) C dX7_partOf_1 (by decide) (by rw [c104]; decide +kernel) (by decide) ?_
    refine y_iconst (pc := 48) (v := (3 : Int32)) C dX7_partOf_48 (by decide) ?_
    cases h
    exact y_iret (pc := 49) C dX7_partOf_49
  rw [if_neg c104] at h
  refine y_look (pc := 1) (tgt := 52) (off := 51) C dX7_partOf_1 (by decide) (by show Op.lookupswitch.offset _ _ _ = _; rw [lv_osw c101 (by decide), lv_osw c102 (by decide), lv_osw c103 (by decide), lv_osw c104 (by decide)]; rfl) (by decide) ?_
  refine y_iconst (pc := 52) (v := (0 : Int32)) C dX7_partOf_52 (by decide) ?_
  cases h
  exact y_iret (pc := 53) C dX7_partOf_53
noncomputable def fX7_partOf (fu : Nat) (x0 : Int32) (σ : St) : Option (Int32 × St) := fX7_partOf_0 fu x0 σ
theorem mX7_partOf {l : Launch} {D : va_G} {cA : ClassId} {bs fu : Nat} {ad : Nat → Nat} {x0 : Int32} {σ : St} {q : Int32 × St} (h : fX7_partOf fu x0 σ = some q) : Ct l D cA bs ad yX7_partOf cX7_partOf 1 (some .int) 0 0 [.int x0] σ (some (.int q.1)) q.2 := by
  unfold fX7_partOf at h
  exact Ct.of (by decide) (Nat.le_of_ble_eq_true rfl) (fun p e s m args below meth c C => tX7_partOf_0 (fu := fu) C h)
noncomputable def fX7_reachedBy_21 (fu : Nat) (x0 : Int32) (x1 : Int32) (s0 : Int32) (σ : St) : Option (Int32 × St) :=
  some (s0, σ)
set_option maxHeartbeats 4000000 in
set_option maxRecDepth 100000 in
theorem tX7_reachedBy_21 {l : Launch} {D : va_G} {cA : ClassId} {bs : Nat} {ad : Nat → Nat} {p : Program} {e : Env} {s : State} {m : MethodId} {args : Array Value} {below : List Frame} {meth : Method} {c : Code} {fu : Nat} (C : Cx D cA bs ad RX7 cX7_reachedBy 3 (some .int) p s m args meth c) {x0 : Int32} {x1 : Int32} {s0 : Int32} {q : Int32 × St} {σ : St} (h : fX7_reachedBy_21 fu x0 x1 s0 σ = some q) : Y D cA bs ad p l e (rmY 1 22) s m args below meth c 3 0 0 (QM D cA bs ad below args s (some (.int q.1)) q.2) σ 21 [(0, .int x0), (1, .int x1)] [.int s0] := by
  unfold fX7_reachedBy_21 at h
  cases h
  exact y_iret (pc := 21) C dX7_reachedBy_21
noncomputable def fX7_reachedBy_37 (fu : Nat) (x0 : Int32) (x1 : Int32) (s0 : Int32) (σ : St) : Option (Int32 × St) :=
  some (s0, σ)
set_option maxHeartbeats 4000000 in
set_option maxRecDepth 100000 in
theorem tX7_reachedBy_37 {l : Launch} {D : va_G} {cA : ClassId} {bs : Nat} {ad : Nat → Nat} {p : Program} {e : Env} {s : State} {m : MethodId} {args : Array Value} {below : List Frame} {meth : Method} {c : Code} {fu : Nat} (C : Cx D cA bs ad RX7 cX7_reachedBy 3 (some .int) p s m args meth c) {x0 : Int32} {x1 : Int32} {s0 : Int32} {q : Int32 × St} {σ : St} (h : fX7_reachedBy_37 fu x0 x1 s0 σ = some q) : Y D cA bs ad p l e (rmY 1 22) s m args below meth c 3 0 0 (QM D cA bs ad below args s (some (.int q.1)) q.2) σ 37 [(0, .int x0), (1, .int x1)] [.int s0] := by
  unfold fX7_reachedBy_37 at h
  cases h
  exact y_iret (pc := 37) C dX7_reachedBy_37
noncomputable def fX7_reachedBy_0 (fu : Nat) (x0 : Int32) (x1 : Int32) (σ : St) : Option (Int32 × St) :=
  if x0 = (4 : Int32) then
    (fX9_isWithin fu x1 (49 : Int32) (57 : Int32) σ).bind fun (q104 : Int32 × St) =>
    if q104.1 = 0 then
      fX7_reachedBy_21 fu x0 x1 (-1 : Int32) q104.2
    else
      fX7_reachedBy_21 fu x0 x1 (5 : Int32) q104.2
  else
    (fX7_partOf fu x1 σ).bind fun (q102 : Int32 × St) =>
    if q102.1 ≤ x0 then
      fX7_reachedBy_37 fu x0 x1 (-1 : Int32) q102.2
    else
      fX7_reachedBy_37 fu x0 x1 q102.1 q102.2
set_option maxHeartbeats 4000000 in
set_option maxRecDepth 100000 in
theorem tX7_reachedBy_0 {l : Launch} {D : va_G} {cA : ClassId} {bs : Nat} {ad : Nat → Nat} {p : Program} {e : Env} {s : State} {m : MethodId} {args : Array Value} {below : List Frame} {meth : Method} {c : Code} {fu : Nat} (C : Cx D cA bs ad RX7 cX7_reachedBy 3 (some .int) p s m args meth c) {x0 : Int32} {x1 : Int32} {q : Int32 × St} {σ : St} (h : fX7_reachedBy_0 fu x0 x1 σ = some q) : Y D cA bs ad p l e (rmY 1 22) s m args below meth c 3 0 0 (QM D cA bs ad below args s (some (.int q.1)) q.2) σ 0 [(0, .int x0), (1, .int x1)] [] := by
  unfold fX7_reachedBy_0 at h
  refine y_iload_n (pc := 0) (q := 0) C dX7_reachedBy_0 rfl rfl ?_
  refine y_iconst (pc := 1) (v := (4 : Int32)) C dX7_reachedBy_1 (by decide) ?_
  refine y_icmp_ne (pc := 2) (tgt := 22) C dX7_reachedBy_2 (by decide) (fun c101 => ?_) (fun c101 => ?_)
  · rw [if_neg c101] at h
    refine y_iload_n (pc := 22) (q := 1) C dX7_reachedBy_22 rfl rfl ?_
    obtain ⟨q102, eq102, h⟩ := bdS h
    refine y_callS (pc := 23) (As := [.int x1]) (rest := []) C (mX7_partOf (fu := fu) eq102) vwX7_31 rfl rfl (Nat.le_of_ble_eq_true rfl) ⟨Nat.le_of_ble_eq_true rfl, Nat.le_of_ble_eq_true rfl⟩ ⟨Nat.le_refl _, Nat.le_refl _⟩ dX7_reachedBy_23 ?_
    show Y _ _ _ _ _ _ _ _ _ _ _ _ _ _ _ _ _ _ q102.2 26 [(0, .int x0), (1, .int x1)] [.int q102.1]
    refine y_istore_n (pc := 26) (lv' := [(2, .int q102.1), (0, .int x0), (1, .int x1)]) C dX7_reachedBy_26 rfl (by decide) rfl ?_
    refine y_iload_n (pc := 27) (q := 0) C dX7_reachedBy_27 rfl rfl ?_
    refine y_iload_n (pc := 28) (q := 1) C dX7_reachedBy_28 rfl rfl ?_
    refine y_icmp_le (pc := 29) (tgt := 36) C dX7_reachedBy_29 (by decide) (fun c103 => ?_) (fun c103 => ?_)
    · rw [if_pos c103] at h
      refine y_iconst (pc := 36) (v := (-1 : Int32)) C dX7_reachedBy_36 (by decide) ?_
      refine y_sub [1, 2] (lv' := [(0, .int x0), (1, .int x1)]) rfl ?_
      exact tX7_reachedBy_37 (fu := fu) C h
    · rw [if_neg c103] at h
      refine y_iload_n (pc := 32) (q := 0) C dX7_reachedBy_32 rfl rfl ?_
      refine y_goto (pc := 33) (tgt := 37) C dX7_reachedBy_33 (by decide) ?_
      refine y_sub [1, 2] (lv' := [(0, .int x0), (1, .int x1)]) rfl ?_
      exact tX7_reachedBy_37 (fu := fu) C h
  · rw [if_pos c101] at h
    refine y_iload_n (pc := 5) (q := 1) C dX7_reachedBy_5 rfl rfl ?_
    refine y_bipush (pc := 6) (v := (49 : Int32)) C dX7_reachedBy_6 (by decide) ?_
    refine y_bipush (pc := 8) (v := (57 : Int32)) C dX7_reachedBy_8 (by decide) ?_
    obtain ⟨q104, eq104, h⟩ := bdS h
    refine y_callSN (pc := 10) (As := [.int x1, .int (49 : Int32), .int (57 : Int32)]) (rest := []) C (mX9_isWithin (fu := fu) eq104) vwX7_27 rfl rfl (Nat.le_of_ble_eq_true rfl) ⟨Nat.le_of_ble_eq_true rfl, Nat.le_of_ble_eq_true rfl⟩ ⟨Nat.le_refl _, Nat.le_refl _⟩ dX7_reachedBy_10 ?_
    show Y _ _ _ _ _ _ _ _ _ _ _ _ _ _ _ _ _ _ q104.2 13 [(0, .int x0), (1, .int x1)] [.int q104.1]
    refine y_if_eq (pc := 13) (tgt := 20) C dX7_reachedBy_13 (by decide) (fun c105 => ?_) (fun c105 => ?_)
    · rw [if_pos c105] at h
      refine y_iconst (pc := 20) (v := (-1 : Int32)) C dX7_reachedBy_20 (by decide) ?_
      exact tX7_reachedBy_21 (fu := fu) C h
    · rw [if_neg c105] at h
      refine y_iconst (pc := 16) (v := (5 : Int32)) C dX7_reachedBy_16 (by decide) ?_
      refine y_goto (pc := 17) (tgt := 21) C dX7_reachedBy_17 (by decide) ?_
      exact tX7_reachedBy_21 (fu := fu) C h
noncomputable def fX7_reachedBy (fu : Nat) (x0 : Int32) (x1 : Int32) (σ : St) : Option (Int32 × St) := fX7_reachedBy_0 fu x0 x1 σ
theorem mX7_reachedBy {l : Launch} {D : va_G} {cA : ClassId} {bs fu : Nat} {ad : Nat → Nat} {x0 : Int32} {x1 : Int32} {σ : St} {q : Int32 × St} (h : fX7_reachedBy fu x0 x1 σ = some q) : Ct l D cA bs ad yX7_reachedBy cX7_reachedBy 3 (some .int) 1 22 [.int x0, .int x1] σ (some (.int q.1)) q.2 := by
  unfold fX7_reachedBy at h
  exact Ct.of (by decide) (Nat.le_of_ble_eq_true rfl) (fun p e s m args below meth c C => tX7_reachedBy_0 (fu := fu) C h)
noncomputable def fX4_take_71 (fu : Nat) (x0 : Nat) (x1 : Int32) (x2 : Int32) (σ : St) : Option (St) :=
  some σ
set_option maxHeartbeats 4000000 in
set_option maxRecDepth 100000 in
theorem tX4_take_71 {l : Launch} {D : va_G} {cA : ClassId} {bs : Nat} {ad : Nat → Nat} {p : Program} {e : Env} {s : State} {m : MethodId} {args : Array Value} {below : List Frame} {meth : Method} {c : Code} {fu : Nat} (C : Cx D cA bs ad RX4 cX4_take 3 none p s m args meth c) {x0 : Nat} {x1 : Int32} {x2 : Int32} {q : St} (hx0 : xk x0 = 2) {σ : St} (h : fX4_take_71 fu x0 x1 x2 σ = some q) : Y D cA bs ad p l e (rmY 0 0) s m args below meth c 3 0 0 (QM D cA bs ad below args s none q) σ 71 [(0, .ref (ad x0)), (1, .int x1), (2, .int x2)] [] := by
  unfold fX4_take_71 at h
  cases h
  exact y_vret (pc := 71) C dX4_take_71
noncomputable def fX4_take_0 (fu : Nat) (x0 : Nat) (x1 : Int32) (x2 : Int32) (σ : St) : Option (St) :=
  if x1 = (1 : Int32) then
    nm (si σ x0 0 (1 : Int32)) fun (σ102 : St) =>
    fX4_take_71 fu x0 x1 x2 σ102
  else
  if x1 = (2 : Int32) then
    nm (si σ x0 1 (1 : Int32)) fun (σ104 : St) =>
    fX4_take_71 fu x0 x1 x2 σ104
  else
  if x1 = (3 : Int32) then
    nm (si σ x0 2 (1 : Int32)) fun (σ106 : St) =>
    fX4_take_71 fu x0 x1 x2 σ106
  else
  if x1 = (4 : Int32) then
    fX4_take_71 fu x0 x1 x2 σ
  else
  if x1 = (5 : Int32) then
    nm (si σ x0 3 (x2 - (48 : Int32))) fun (σ109 : St) =>
    fX4_take_71 fu x0 x1 x2 σ109
  else
  fX4_take_71 fu x0 x1 x2 σ
set_option maxHeartbeats 4000000 in
set_option maxRecDepth 100000 in
theorem tX4_take_0 {l : Launch} {D : va_G} {cA : ClassId} {bs : Nat} {ad : Nat → Nat} {p : Program} {e : Env} {s : State} {m : MethodId} {args : Array Value} {below : List Frame} {meth : Method} {c : Code} {fu : Nat} (C : Cx D cA bs ad RX4 cX4_take 3 none p s m args meth c) {x0 : Nat} {x1 : Int32} {x2 : Int32} {q : St} (hx0 : xk x0 = 2) {σ : St} (h : fX4_take_0 fu x0 x1 x2 σ = some q) : Y D cA bs ad p l e (rmY 0 0) s m args below meth c 3 0 0 (QM D cA bs ad below args s none q) σ 0 [(0, .ref (ad x0)), (1, .int x1), (2, .int x2)] [] := by
  unfold fX4_take_0 at h
  refine y_iload_n (pc := 0) (q := 1) C dX4_take_0 rfl rfl ?_
  by_cases c101 : x1 = (1 : Int32)
  · rw [if_pos c101] at h
    refine y_tabI (pc := 1) (tgt := 36) (off := 35) C dX4_take_1 (by rw [c101]; decide) (by rw [c101]; decide) (by rw [c101]; decide +kernel) (by decide) ?_
    refine y_aload_n (pc := 36) (q := 0) C dX4_take_36 rfl rfl ?_
    refine y_iconst (pc := 37) (v := (1 : Int32)) C dX4_take_37 (by decide) ?_
    obtain ⟨σ102, eσ102, h⟩ := nmS h
    refine y_puti (pc := 38) C fpX4_13 rfl hx0 rfl rfl dX4_take_38 ?_
    rw [← eσ102]
    refine y_goto (pc := 41) (tgt := 71) C dX4_take_41 (by decide) ?_
    exact tX4_take_71 (fu := fu) C hx0 h
  rw [if_neg c101] at h
  by_cases c103 : x1 = (2 : Int32)
  · rw [if_pos c103] at h
    refine y_tabI (pc := 1) (tgt := 44) (off := 43) C dX4_take_1 (by rw [c103]; decide) (by rw [c103]; decide) (by rw [c103]; decide +kernel) (by decide) ?_
    refine y_aload_n (pc := 44) (q := 0) C dX4_take_44 rfl rfl ?_
    refine y_iconst (pc := 45) (v := (1 : Int32)) C dX4_take_45 (by decide) ?_
    obtain ⟨σ104, eσ104, h⟩ := nmS h
    refine y_puti (pc := 46) C fpX4_17 rfl hx0 rfl rfl dX4_take_46 ?_
    rw [← eσ104]
    refine y_goto (pc := 49) (tgt := 71) C dX4_take_49 (by decide) ?_
    exact tX4_take_71 (fu := fu) C hx0 h
  rw [if_neg c103] at h
  by_cases c105 : x1 = (3 : Int32)
  · rw [if_pos c105] at h
    refine y_tabI (pc := 1) (tgt := 52) (off := 51) C dX4_take_1 (by rw [c105]; decide) (by rw [c105]; decide) (by rw [c105]; decide +kernel) (by decide) ?_
    refine y_aload_n (pc := 52) (q := 0) C dX4_take_52 rfl rfl ?_
    refine y_iconst (pc := 53) (v := (1 : Int32)) C dX4_take_53 (by decide) ?_
    obtain ⟨σ106, eσ106, h⟩ := nmS h
    refine y_puti (pc := 54) C fpX4_20 rfl hx0 rfl rfl dX4_take_54 ?_
    rw [← eσ106]
    refine y_goto (pc := 57) (tgt := 71) C dX4_take_57 (by decide) ?_
    exact tX4_take_71 (fu := fu) C hx0 h
  rw [if_neg c105] at h
  by_cases c107 : x1 = (4 : Int32)
  · rw [if_pos c107] at h
    refine y_tabI (pc := 1) (tgt := 71) (off := 70) C dX4_take_1 (by rw [c107]; decide) (by rw [c107]; decide) (by rw [c107]; decide +kernel) (by decide) ?_
    exact tX4_take_71 (fu := fu) C hx0 h
  rw [if_neg c107] at h
  by_cases c108 : x1 = (5 : Int32)
  · rw [if_pos c108] at h
    refine y_tabI (pc := 1) (tgt := 60) (off := 59) C dX4_take_1 (by rw [c108]; decide) (by rw [c108]; decide) (by rw [c108]; decide +kernel) (by decide) ?_
    refine y_aload_n (pc := 60) (q := 0) C dX4_take_60 rfl rfl ?_
    refine y_iload_n (pc := 61) (q := 2) C dX4_take_61 rfl rfl ?_
    refine y_bipush (pc := 62) (v := (48 : Int32)) C dX4_take_62 (by decide) ?_
    refine y_isub (pc := 64) C dX4_take_64 ?_
    obtain ⟨σ109, eσ109, h⟩ := nmS h
    refine y_puti (pc := 65) C fpX4_9 rfl hx0 rfl rfl dX4_take_65 ?_
    rw [← eσ109]
    refine y_goto (pc := 68) (tgt := 71) C dX4_take_68 (by decide) ?_
    exact tX4_take_71 (fu := fu) C hx0 h
  rw [if_neg c108] at h
  refine y_tabO (pc := 1) (tgt := 71) C dX4_take_1 (by have := lv_neT (a := 1) c101 (by decide); have := lv_neT (a := 2) c103 (by decide); have := lv_neT (a := 3) c105 (by decide); have := lv_neT (a := 4) c107 (by decide); have := lv_neT (a := 5) c108 (by decide); omega) (by decide) ?_
  exact tX4_take_71 (fu := fu) C hx0 h
noncomputable def fX4_take (fu : Nat) (x0 : Nat) (x1 : Int32) (x2 : Int32) (σ : St) : Option (St) := if xk x0 = 2 then fX4_take_0 fu x0 x1 x2 σ else none
theorem mX4_take {l : Launch} {D : va_G} {cA : ClassId} {bs fu : Nat} {ad : Nat → Nat} {x0 : Nat} {x1 : Int32} {x2 : Int32} {σ : St} {q : St} (h : fX4_take fu x0 x1 x2 σ = some q) : Ct l D cA bs ad yX4_take cX4_take 3 none 0 0 [.ref (ad x0), .int x1, .int x2] σ none q := by
  unfold fX4_take at h
  by_cases hx0 : xk x0 = 2
  case neg => rw [if_neg hx0] at h; cases h
  rw [if_pos hx0] at h
  exact Ct.of (by decide) (Nat.le_of_ble_eq_true rfl) (fun p e s m args below meth c C => tX4_take_0 (fu := fu) C hx0 h)
noncomputable def fX4_readFrom_25b (fu : Nat) (k25 : Int32 → Int32 → St → Option (St)) (x0 : Nat) (x1 : Nat) (x2 : Int32) (x3 : Int32) (σ : St) : Option (St) :=
  (fX7_length fu x1 σ).bind fun (q101 : Int32 × St) =>
  if q101.1 ≤ x3 then
    some q101.2
  else
    (fX7_letterAt fu x1 x3 q101.2).bind fun (q103 : Int32 × St) =>
    (fX7_reachedBy fu x2 q103.1 q103.2).bind fun (q104 : Int32 × St) =>
    (fX7_letterAt fu x1 x3 q104.2).bind fun (q105 : Int32 × St) =>
    (fX4_take fu x0 q104.1 q105.1 q105.2).bind fun (q106 : St) =>
    nm (x3 + (1 : Int32)) fun (y107 : Int32) =>
    k25 q104.1 y107 q106
set_option maxHeartbeats 4000000 in
set_option maxRecDepth 100000 in
theorem tX4_readFrom_25b {l : Launch} {D : va_G} {cA : ClassId} {bs : Nat} {ad : Nat → Nat} {p : Program} {e : Env} {s : State} {m : MethodId} {args : Array Value} {below : List Frame} {meth : Method} {c : Code} {fu : Nat} (C : Cx D cA bs ad RX4 cX4_readFrom 4 none p s m args meth c) {k25 : Int32 → Int32 → St → Option (St)} {x0 : Nat} {x1 : Nat} {x2 : Int32} {x3 : Int32} {q : St} (hx0 : xk x0 = 2) (hx1 : xk x1 = 5) (hk25 : ∀ (x2 : Int32) (x3 : Int32) (σ : St), k25 x2 x3 σ = some q → Y D cA bs ad p l e (rmY 2 44) s m args below meth c 4 0 0 (QM D cA bs ad below args s none q) σ 25 [(0, .ref (ad x0)), (1, .ref (ad x1)), (2, .int x2), (3, .int x3)] []) {σ : St} (h : fX4_readFrom_25b fu k25 x0 x1 x2 x3 σ = some q) : Y D cA bs ad p l e (rmY 2 44) s m args below meth c 4 0 0 (QM D cA bs ad below args s none q) σ 25 [(0, .ref (ad x0)), (1, .ref (ad x1)), (2, .int x2), (3, .int x3)] [] := by
  unfold fX4_readFrom_25b at h
  refine y_iload_n (pc := 25) (q := 3) C dX4_readFrom_25 rfl rfl ?_
  refine y_aload_n (pc := 26) (q := 1) C dX4_readFrom_26 rfl rfl ?_
  obtain ⟨q101, eq101, h⟩ := bdS h
  refine y_callV (pc := 27) (As := []) (rest := [.int x3]) C (mX7_length (fu := fu) eq101) vwX4_25 rfl (by decide) hx1 rfl rfl (Nat.le_of_ble_eq_true rfl) ⟨Nat.le_of_ble_eq_true rfl, Nat.le_of_ble_eq_true rfl⟩ ⟨Nat.le_refl _, Nat.le_refl _⟩ dX4_readFrom_27 ?_
  show Y _ _ _ _ _ _ _ _ _ _ _ _ _ _ _ _ _ _ q101.2 30 [(0, .ref (ad x0)), (1, .ref (ad x1)), (2, .int x2), (3, .int x3)] [.int q101.1, .int x3]
  refine y_icmp_ge (pc := 30) (tgt := 59) C dX4_readFrom_30 (by decide) (fun c102 => ?_) (fun c102 => ?_)
  · rw [if_pos c102] at h
    cases h
    exact y_vret (pc := 59) C dX4_readFrom_59
  · rw [if_neg c102] at h
    refine y_iload_n (pc := 33) (q := 2) C dX4_readFrom_33 rfl rfl ?_
    refine y_aload_n (pc := 34) (q := 1) C dX4_readFrom_34 rfl rfl ?_
    refine y_iload_n (pc := 35) (q := 3) C dX4_readFrom_35 rfl rfl ?_
    obtain ⟨q103, eq103, h⟩ := bdS h
    refine y_callV (pc := 36) (As := [.int x3]) (rest := [.int x2]) C (mX7_letterAt (fu := fu) eq103) vwX4_29 rfl (by decide) hx1 rfl rfl (Nat.le_of_ble_eq_true rfl) ⟨Nat.le_of_ble_eq_true rfl, Nat.le_of_ble_eq_true rfl⟩ ⟨Nat.le_refl _, Nat.le_refl _⟩ dX4_readFrom_36 ?_
    show Y _ _ _ _ _ _ _ _ _ _ _ _ _ _ _ _ _ _ q103.2 39 [(0, .ref (ad x0)), (1, .ref (ad x1)), (2, .int x2), (3, .int x3)] [.int q103.1, .int x2]
    obtain ⟨q104, eq104, h⟩ := bdS h
    refine y_callS (pc := 39) (As := [.int x2, .int q103.1]) (rest := []) C (mX7_reachedBy (fu := fu) eq104) vwX4_33 rfl rfl (Nat.le_of_ble_eq_true rfl) ⟨Nat.le_of_ble_eq_true rfl, Nat.le_of_ble_eq_true rfl⟩ ⟨Nat.le_refl _, Nat.le_refl _⟩ dX4_readFrom_39 ?_
    show Y _ _ _ _ _ _ _ _ _ _ _ _ _ _ _ _ _ _ q104.2 42 [(0, .ref (ad x0)), (1, .ref (ad x1)), (2, .int x2), (3, .int x3)] [.int q104.1]
    refine y_istore_n (pc := 42) (lv' := [(2, .int q104.1), (0, .ref (ad x0)), (1, .ref (ad x1)), (3, .int x3)]) C dX4_readFrom_42 rfl (by decide) rfl ?_
    refine y_aload_n (pc := 43) (q := 1) C dX4_readFrom_43 rfl rfl ?_
    refine y_iload_n (pc := 44) (q := 0) C dX4_readFrom_44 rfl rfl ?_
    refine y_aload_n (pc := 45) (q := 2) C dX4_readFrom_45 rfl rfl ?_
    refine y_iload_n (pc := 46) (q := 3) C dX4_readFrom_46 rfl rfl ?_
    obtain ⟨q105, eq105, h⟩ := bdS h
    refine y_callV (pc := 47) (As := [.int x3]) (rest := [.int q104.1, .ref (ad x0)]) C (mX7_letterAt (fu := fu) eq105) vwX4_29 rfl (by decide) hx1 rfl rfl (Nat.le_of_ble_eq_true rfl) ⟨Nat.le_of_ble_eq_true rfl, Nat.le_of_ble_eq_true rfl⟩ ⟨Nat.le_refl _, Nat.le_refl _⟩ dX4_readFrom_47 ?_
    show Y _ _ _ _ _ _ _ _ _ _ _ _ _ _ _ _ _ _ q105.2 50 [(2, .int q104.1), (0, .ref (ad x0)), (1, .ref (ad x1)), (3, .int x3)] [.int q105.1, .int q104.1, .ref (ad x0)]
    obtain ⟨q106, eq106, h⟩ := bdS h
    refine y_callV (pc := 50) (As := [.int q104.1, .int q105.1]) (rest := []) C (mX4_take (fu := fu) eq106) vwX4_37 rfl (by decide) hx0 rfl rfl (Nat.le_of_ble_eq_true rfl) ⟨Nat.le_of_ble_eq_true rfl, Nat.le_of_ble_eq_true rfl⟩ ⟨Nat.le_refl _, Nat.le_refl _⟩ dX4_readFrom_50 ?_
    show Y _ _ _ _ _ _ _ _ _ _ _ _ _ _ _ _ _ _ q106 53 [(2, .int q104.1), (0, .ref (ad x0)), (1, .ref (ad x1)), (3, .int x3)] []
    obtain ⟨y107, ey107, h⟩ := nmS h
    refine y_iinc (pc := 53) (v := y107) (k := 3) (lv' := [(3, .int y107), (2, .int q104.1), (0, .ref (ad x0)), (1, .ref (ad x1))]) C dX4_readFrom_53 rfl (by rw [ey107]; rfl) (by decide) rfl ?_
    refine y_goto (pc := 56) (tgt := 25) C dX4_readFrom_56 (by decide) ?_
    refine y_sub [2, 3, 1, 0] (lv' := [(0, .ref (ad x0)), (1, .ref (ad x1)), (2, .int q104.1), (3, .int y107)]) rfl ?_
    exact hk25 _ _ _ h
noncomputable def fX4_readFrom_25 (fu : Nat) (x0 : Nat) (x1 : Nat) : Nat → Int32 → Int32 → St → Option (St) := lp (fun k25 => fX4_readFrom_25b fu k25 x0 x1) (fun _ _ _ => none)
set_option maxHeartbeats 4000000 in
theorem tX4_readFrom_25 {l : Launch} {D : va_G} {cA : ClassId} {bs : Nat} {ad : Nat → Nat} {p : Program} {e : Env} {s : State} {m : MethodId} {args : Array Value} {below : List Frame} {meth : Method} {c : Code} {fu : Nat} (C : Cx D cA bs ad RX4 cX4_readFrom 4 none p s m args meth c) {x0 : Nat} {x1 : Nat} {q : St} (hx0 : xk x0 = 2) (hx1 : xk x1 = 5)  : ∀ (n : Nat) (x2 : Int32) (x3 : Int32) (σ : St), fX4_readFrom_25 fu  x0 x1 n x2 x3 σ = some q → Y D cA bs ad p l e (rmY 2 44) s m args below meth c 4 0 0 (QM D cA bs ad below args s none q) σ 25 [(0, .ref (ad x0)), (1, .ref (ad x1)), (2, .int x2), (3, .int x3)] [] := by
  intro n
  induction n with
  | zero => intro x2 x3 σ h; cases h
  | succ n ih => intro x2 x3 σ h; exact tX4_readFrom_25b (fu := fu) C hx0 hx1 ih h
noncomputable def fX4_readFrom_0 (fu : Nat) (x0 : Nat) (x1 : Nat) (σ : St) : Option (St) :=
  nm (si σ x0 0 (0 : Int32)) fun (σ101 : St) =>
  nm (si σ101 x0 1 (0 : Int32)) fun (σ102 : St) =>
  nm (si σ102 x0 2 (0 : Int32)) fun (σ103 : St) =>
  nm (si σ103 x0 3 (10 : Int32)) fun (σ104 : St) =>
  fX4_readFrom_25 fu x0 x1 fu (0 : Int32) (0 : Int32) σ104
set_option maxHeartbeats 4000000 in
set_option maxRecDepth 100000 in
theorem tX4_readFrom_0 {l : Launch} {D : va_G} {cA : ClassId} {bs : Nat} {ad : Nat → Nat} {p : Program} {e : Env} {s : State} {m : MethodId} {args : Array Value} {below : List Frame} {meth : Method} {c : Code} {fu : Nat} (C : Cx D cA bs ad RX4 cX4_readFrom 4 none p s m args meth c) {x0 : Nat} {x1 : Nat} {q : St} (hx0 : xk x0 = 2) (hx1 : xk x1 = 5) {σ : St} (h : fX4_readFrom_0 fu x0 x1 σ = some q) : Y D cA bs ad p l e (rmY 2 44) s m args below meth c 4 0 0 (QM D cA bs ad below args s none q) σ 0 [(0, .ref (ad x0)), (1, .ref (ad x1))] [] := by
  unfold fX4_readFrom_0 at h
  refine y_aload_n (pc := 0) (q := 0) C dX4_readFrom_0 rfl rfl ?_
  refine y_iconst (pc := 1) (v := (0 : Int32)) C dX4_readFrom_1 (by decide) ?_
  obtain ⟨σ101, eσ101, h⟩ := nmS h
  refine y_puti (pc := 2) C fpX4_13 rfl hx0 rfl rfl dX4_readFrom_2 ?_
  rw [← eσ101]
  refine y_aload_n (pc := 5) (q := 0) C dX4_readFrom_5 rfl rfl ?_
  refine y_iconst (pc := 6) (v := (0 : Int32)) C dX4_readFrom_6 (by decide) ?_
  obtain ⟨σ102, eσ102, h⟩ := nmS h
  refine y_puti (pc := 7) C fpX4_17 rfl hx0 rfl rfl dX4_readFrom_7 ?_
  rw [← eσ102]
  refine y_aload_n (pc := 10) (q := 0) C dX4_readFrom_10 rfl rfl ?_
  refine y_iconst (pc := 11) (v := (0 : Int32)) C dX4_readFrom_11 (by decide) ?_
  obtain ⟨σ103, eσ103, h⟩ := nmS h
  refine y_puti (pc := 12) C fpX4_20 rfl hx0 rfl rfl dX4_readFrom_12 ?_
  rw [← eσ103]
  refine y_aload_n (pc := 15) (q := 0) C dX4_readFrom_15 rfl rfl ?_
  refine y_bipush (pc := 16) (v := (10 : Int32)) C dX4_readFrom_16 (by decide) ?_
  obtain ⟨σ104, eσ104, h⟩ := nmS h
  refine y_puti (pc := 18) C fpX4_9 rfl hx0 rfl rfl dX4_readFrom_18 ?_
  rw [← eσ104]
  refine y_iconst (pc := 21) (v := (0 : Int32)) C dX4_readFrom_21 (by decide) ?_
  refine y_istore_n (pc := 22) (lv' := [(2, .int (0 : Int32)), (0, .ref (ad x0)), (1, .ref (ad x1))]) C dX4_readFrom_22 rfl (by decide) rfl ?_
  refine y_iconst (pc := 23) (v := (0 : Int32)) C dX4_readFrom_23 (by decide) ?_
  refine y_istore_n (pc := 24) (lv' := [(3, .int (0 : Int32)), (2, .int (0 : Int32)), (0, .ref (ad x0)), (1, .ref (ad x1))]) C dX4_readFrom_24 rfl (by decide) rfl ?_
  refine y_sub [2, 3, 1, 0] (lv' := [(0, .ref (ad x0)), (1, .ref (ad x1)), (2, .int (0 : Int32)), (3, .int (0 : Int32))]) rfl ?_
  exact tX4_readFrom_25 (fu := fu) C hx0 hx1 fu _ _ _ h
noncomputable def fX4_readFrom (fu : Nat) (x0 : Nat) (x1 : Nat) (σ : St) : Option (St) := if xk x0 = 2 then if xk x1 = 5 then fX4_readFrom_0 fu x0 x1 σ else none else none
theorem mX4_readFrom {l : Launch} {D : va_G} {cA : ClassId} {bs fu : Nat} {ad : Nat → Nat} {x0 : Nat} {x1 : Nat} {σ : St} {q : St} (h : fX4_readFrom fu x0 x1 σ = some q) : Ct l D cA bs ad yX4_readFrom cX4_readFrom 4 none 2 44 [.ref (ad x0), .ref (ad x1)] σ none q := by
  unfold fX4_readFrom at h
  by_cases hx0 : xk x0 = 2
  case neg => rw [if_neg hx0] at h; cases h
  rw [if_pos hx0] at h
  by_cases hx1 : xk x1 = 5
  case neg => rw [if_neg hx1] at h; cases h
  rw [if_pos hx1] at h
  exact Ct.of (by decide) (Nat.le_of_ble_eq_true rfl) (fun p e s m args below meth c C => tX4_readFrom_0 (fu := fu) C hx0 hx1 h)
