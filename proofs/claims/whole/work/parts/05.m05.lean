noncomputable def fX9_howMany_16 (fu : Nat) (x0 : Nat) (σ : St) : Option (Int32 × St) :=
  some ((-103 : Int32), σ)
set_option maxHeartbeats 4000000 in
set_option maxRecDepth 100000 in
theorem tX9_howMany_16 {l : Launch} {D : va_G} {cA : ClassId} {bs : Nat} {ad : Nat → Nat} {p : Program} {e : Env} {s : State} {m : MethodId} {args : Array Value} {below : List Frame} {meth : Method} {c : Code} {fu : Nat} (C : Cx D cA bs ad RX9 cX9_howMany 1 (some .int) p s m args meth c) {x0 : Nat} {q : Int32 × St} (hx0 : xk x0 = 7) {σ : St} (h : fX9_howMany_16 fu x0 σ = some q) : Y D cA bs ad p l e (rmY 5 121) s m args below meth c 1 0 0 (QM D cA bs ad below args s (some (.int q.1)) q.2) σ 16 [(0, .ref (ad x0))] [] := by
  unfold fX9_howMany_16 at h
  refine y_bipush (pc := 16) (v := (-103 : Int32)) C dX9_howMany_16 (by decide) ?_
  cases h
  exact y_iret (pc := 18) C dX9_howMany_18
noncomputable def fX9_howMany_0 (fu : Nat) (x0 : Nat) (σ : St) : Option (Int32 × St) :=
  (fX9_isTooShort fu x0 σ).bind fun (q101 : Int32 × St) =>
  if q101.1 = 0 then
    if (q101.2.1 x0 10) < (40 : Int32) then
      nm (si q101.2 x0 10 ((q101.2.1 x0 10) + (1 : Int32))) fun (σ104 : St) =>
      (fX5_study fu (rf x0 5) (rf x0 2) (rf x0 1) σ104).bind fun (q105 : St) =>
      (fX5_ordersFound fu (rf x0 5) q105).bind fun (q106 : Int32 × St) =>
      some (q106.1, q106.2)
    else
      fX9_howMany_16 fu x0 q101.2
  else
    fX9_howMany_16 fu x0 q101.2
set_option maxHeartbeats 4000000 in
set_option maxRecDepth 100000 in
theorem tX9_howMany_0 {l : Launch} {D : va_G} {cA : ClassId} {bs : Nat} {ad : Nat → Nat} {p : Program} {e : Env} {s : State} {m : MethodId} {args : Array Value} {below : List Frame} {meth : Method} {c : Code} {fu : Nat} (C : Cx D cA bs ad RX9 cX9_howMany 1 (some .int) p s m args meth c) {x0 : Nat} {q : Int32 × St} (hx0 : xk x0 = 7) {σ : St} (h : fX9_howMany_0 fu x0 σ = some q) : Y D cA bs ad p l e (rmY 5 121) s m args below meth c 1 0 0 (QM D cA bs ad below args s (some (.int q.1)) q.2) σ 0 [(0, .ref (ad x0))] [] := by
  unfold fX9_howMany_0 at h
  refine y_aload_n (pc := 0) (q := 0) C dX9_howMany_0 rfl rfl ?_
  obtain ⟨q101, eq101, h⟩ := bdS h
  refine y_callV (pc := 1) (As := []) (rest := []) C (mX9_isTooShort (fu := fu) eq101) vwX9_139 rfl (by decide) hx0 rfl rfl (Nat.le_of_ble_eq_true rfl) ⟨Nat.le_of_ble_eq_true rfl, Nat.le_of_ble_eq_true rfl⟩ ⟨Nat.le_refl _, Nat.le_refl _⟩ dX9_howMany_1 ?_
  show Y _ _ _ _ _ _ _ _ _ _ _ _ _ _ _ _ _ _ q101.2 4 [(0, .ref (ad x0))] [.int q101.1]
  refine y_if_ne (pc := 4) (tgt := 16) C dX9_howMany_4 (by decide) (fun c102 => ?_) (fun c102 => ?_)
  · rw [if_neg c102] at h
    exact tX9_howMany_16 (fu := fu) C hx0 h
  · rw [if_pos c102] at h
    refine y_aload_n (pc := 7) (q := 0) C dX9_howMany_7 rfl rfl ?_
    refine y_geti (pc := 8) C faX9_162 rfl hx0 dX9_howMany_8 ?_
    refine y_bipush (pc := 11) (v := (40 : Int32)) C dX9_howMany_11 (by decide) ?_
    refine y_icmp_lt (pc := 13) (tgt := 19) C dX9_howMany_13 (by decide) (fun c103 => ?_) (fun c103 => ?_)
    · rw [if_pos c103] at h
      refine y_aload_n (pc := 19) (q := 0) C dX9_howMany_19 rfl rfl ?_
      refine y_dup (pc := 20) C dX9_howMany_20 rfl ?_
      refine y_geti (pc := 21) C faX9_162 rfl hx0 dX9_howMany_21 ?_
      refine y_iconst (pc := 24) (v := (1 : Int32)) C dX9_howMany_24 (by decide) ?_
      refine y_iadd (pc := 25) C dX9_howMany_25 ?_
      obtain ⟨σ104, eσ104, h⟩ := nmS h
      refine y_puti (pc := 26) C fpX9_162 rfl hx0 rfl rfl dX9_howMany_26 ?_
      rw [← eσ104]
      refine y_aload_n (pc := 29) (q := 0) C dX9_howMany_29 rfl rfl ?_
      refine y_getr (pc := 30) C faX9_43 rfl hx0 dX9_howMany_30 ?_
      refine y_aload_n (pc := 33) (q := 0) C dX9_howMany_33 rfl rfl ?_
      refine y_getr (pc := 34) C faX9_26 rfl hx0 dX9_howMany_34 ?_
      refine y_aload_n (pc := 37) (q := 0) C dX9_howMany_37 rfl rfl ?_
      refine y_getr (pc := 38) C faX9_19 rfl hx0 dX9_howMany_38 ?_
      obtain ⟨q105, eq105, h⟩ := bdS h
      refine y_callV (pc := 41) (As := [.ref (ad (rf x0 2)), .ref (ad (rf x0 1))]) (rest := []) C (mX5_study (fu := fu) eq105) vwX9_165 rfl (by decide) (rf_7_5 _ hx0) rfl rfl (Nat.le_of_ble_eq_true rfl) ⟨Nat.le_of_ble_eq_true rfl, Nat.le_of_ble_eq_true rfl⟩ ⟨Nat.le_refl _, Nat.le_refl _⟩ dX9_howMany_41 ?_
      show Y _ _ _ _ _ _ _ _ _ _ _ _ _ _ _ _ _ _ q105 44 [(0, .ref (ad x0))] []
      refine y_aload_n (pc := 44) (q := 0) C dX9_howMany_44 rfl rfl ?_
      refine y_getr (pc := 45) C faX9_43 rfl hx0 dX9_howMany_45 ?_
      obtain ⟨q106, eq106, h⟩ := bdS h
      refine y_callV (pc := 48) (As := []) (rest := []) C (mX5_ordersFound (fu := fu) eq106) vwX9_169 rfl (by decide) (rf_7_5 _ hx0) rfl rfl (Nat.le_of_ble_eq_true rfl) ⟨Nat.le_of_ble_eq_true rfl, Nat.le_of_ble_eq_true rfl⟩ ⟨Nat.le_refl _, Nat.le_refl _⟩ dX9_howMany_48 ?_
      show Y _ _ _ _ _ _ _ _ _ _ _ _ _ _ _ _ _ _ q106.2 51 [(0, .ref (ad x0))] [.int q106.1]
      cases h
      exact y_iret (pc := 51) C dX9_howMany_51
    · rw [if_neg c103] at h
      exact tX9_howMany_16 (fu := fu) C hx0 h
noncomputable def fX9_howMany (fu : Nat) (x0 : Nat) (σ : St) : Option (Int32 × St) := if xk x0 = 7 then fX9_howMany_0 fu x0 σ else none
theorem mX9_howMany {l : Launch} {D : va_G} {cA : ClassId} {bs fu : Nat} {ad : Nat → Nat} {x0 : Nat} {σ : St} {q : Int32 × St} (h : fX9_howMany fu x0 σ = some q) : Ct l D cA bs ad yX9_howMany cX9_howMany 1 (some .int) 5 121 [.ref (ad x0)] σ (some (.int q.1)) q.2 := by
  unfold fX9_howMany at h
  by_cases hx0 : xk x0 = 7
  case neg => rw [if_neg hx0] at h; cases h
  rw [if_pos hx0] at h
  exact Ct.of (by decide) (Nat.le_of_ble_eq_true rfl) (fun p e s m args below meth c C => tX9_howMany_0 (fu := fu) C hx0 h)
noncomputable def fX9_carried_37 (fu : Nat) (x0 : Nat) (x1 : Int32) (x2 : Int32) (σ : St) : Option (Int32 × St) :=
  some ((-102 : Int32), σ)
set_option maxHeartbeats 4000000 in
set_option maxRecDepth 100000 in
theorem tX9_carried_37 {l : Launch} {D : va_G} {cA : ClassId} {bs : Nat} {ad : Nat → Nat} {p : Program} {e : Env} {s : State} {m : MethodId} {args : Array Value} {below : List Frame} {meth : Method} {c : Code} {fu : Nat} (C : Cx D cA bs ad RX9 cX9_carried 3 (some .int) p s m args meth c) {x0 : Nat} {x1 : Int32} {x2 : Int32} {q : Int32 × St} (hx0 : xk x0 = 7) {σ : St} (h : fX9_carried_37 fu x0 x1 x2 σ = some q) : Y D cA bs ad p l e (rmY 4 93) s m args below meth c 3 0 0 (QM D cA bs ad below args s (some (.int q.1)) q.2) σ 37 [(0, .ref (ad x0)), (1, .int x1), (2, .int x2)] [] := by
  unfold fX9_carried_37 at h
  refine y_bipush (pc := 37) (v := (-102 : Int32)) C dX9_carried_37 (by decide) ?_
  cases h
  exact y_iret (pc := 39) C dX9_carried_39
noncomputable def fX9_carried_0 (fu : Nat) (x0 : Nat) (x1 : Int32) (x2 : Int32) (σ : St) : Option (Int32 × St) :=
  (fX9_isTooShort fu x0 σ).bind fun (q101 : Int32 × St) =>
  if q101.1 = 0 then
    (fX8_size fu (rf x0 2) q101.2).bind fun (q103 : Int32 × St) =>
    (fX6_read fu (rf x0 4) x1 q103.1 q103.2).bind fun (q104 : Int32 × St) =>
    if q104.1 = 0 then
      fX9_carried_37 fu x0 x1 x2 q104.2
    else
      (fX9_isWithin fu x2 (0 : Int32) (2 : Int32) q104.2).bind fun (q106 : Int32 × St) =>
      if q106.1 = 0 then
        fX9_carried_37 fu x0 x1 x2 q106.2
      else
        (fX0_told fu (rf x0 2) (rf x0 4) x2 q106.2).bind fun (q108 : Int32 × St) =>
        some (q108.1, q108.2)
  else
    some ((-103 : Int32), q101.2)
set_option maxHeartbeats 4000000 in
set_option maxRecDepth 100000 in
theorem tX9_carried_0 {l : Launch} {D : va_G} {cA : ClassId} {bs : Nat} {ad : Nat → Nat} {p : Program} {e : Env} {s : State} {m : MethodId} {args : Array Value} {below : List Frame} {meth : Method} {c : Code} {fu : Nat} (C : Cx D cA bs ad RX9 cX9_carried 3 (some .int) p s m args meth c) {x0 : Nat} {x1 : Int32} {x2 : Int32} {q : Int32 × St} (hx0 : xk x0 = 7) {σ : St} (h : fX9_carried_0 fu x0 x1 x2 σ = some q) : Y D cA bs ad p l e (rmY 4 93) s m args below meth c 3 0 0 (QM D cA bs ad below args s (some (.int q.1)) q.2) σ 0 [(0, .ref (ad x0)), (1, .int x1), (2, .int x2)] [] := by
  unfold fX9_carried_0 at h
  refine y_aload_n (pc := 0) (q := 0) C dX9_carried_0 rfl rfl ?_
  obtain ⟨q101, eq101, h⟩ := bdS h
  refine y_callV (pc := 1) (As := []) (rest := []) C (mX9_isTooShort (fu := fu) eq101) vwX9_139 rfl (by decide) hx0 rfl rfl (Nat.le_of_ble_eq_true rfl) ⟨Nat.le_of_ble_eq_true rfl, Nat.le_of_ble_eq_true rfl⟩ ⟨Nat.le_refl _, Nat.le_refl _⟩ dX9_carried_1 ?_
  show Y _ _ _ _ _ _ _ _ _ _ _ _ _ _ _ _ _ _ q101.2 4 [(0, .ref (ad x0)), (1, .int x1), (2, .int x2)] [.int q101.1]
  refine y_if_eq (pc := 4) (tgt := 10) C dX9_carried_4 (by decide) (fun c102 => ?_) (fun c102 => ?_)
  · rw [if_pos c102] at h
    refine y_aload_n (pc := 10) (q := 0) C dX9_carried_10 rfl rfl ?_
    refine y_getr (pc := 11) C faX9_36 rfl hx0 dX9_carried_11 ?_
    refine y_iload_n (pc := 14) (q := 1) C dX9_carried_14 rfl rfl ?_
    refine y_aload_n (pc := 15) (q := 0) C dX9_carried_15 rfl rfl ?_
    refine y_getr (pc := 16) C faX9_26 rfl hx0 dX9_carried_16 ?_
    obtain ⟨q103, eq103, h⟩ := bdS h
    refine y_callV (pc := 19) (As := []) (rest := [.int x1, .ref (ad (rf x0 4))]) C (mX8_size (fu := fu) eq103) vwX9_133 rfl (by decide) (rf_7_2 _ hx0) rfl rfl (Nat.le_of_ble_eq_true rfl) ⟨Nat.le_of_ble_eq_true rfl, Nat.le_of_ble_eq_true rfl⟩ ⟨Nat.le_refl _, Nat.le_refl _⟩ dX9_carried_19 ?_
    show Y _ _ _ _ _ _ _ _ _ _ _ _ _ _ _ _ _ _ q103.2 22 [(0, .ref (ad x0)), (1, .int x1), (2, .int x2)] [.int q103.1, .int x1, .ref (ad (rf x0 4))]
    obtain ⟨q104, eq104, h⟩ := bdS h
    refine y_callV (pc := 22) (As := [.int x1, .int q103.1]) (rest := []) C (mX6_read (fu := fu) eq104) vwX9_142 rfl (by decide) (rf_7_4 _ hx0) rfl rfl (Nat.le_of_ble_eq_true rfl) ⟨Nat.le_of_ble_eq_true rfl, Nat.le_of_ble_eq_true rfl⟩ ⟨Nat.le_refl _, Nat.le_refl _⟩ dX9_carried_22 ?_
    show Y _ _ _ _ _ _ _ _ _ _ _ _ _ _ _ _ _ _ q104.2 25 [(0, .ref (ad x0)), (1, .int x1), (2, .int x2)] [.int q104.1]
    refine y_if_eq (pc := 25) (tgt := 37) C dX9_carried_25 (by decide) (fun c105 => ?_) (fun c105 => ?_)
    · rw [if_pos c105] at h
      exact tX9_carried_37 (fu := fu) C hx0 h
    · rw [if_neg c105] at h
      refine y_iload_n (pc := 28) (q := 2) C dX9_carried_28 rfl rfl ?_
      refine y_iconst (pc := 29) (v := (0 : Int32)) C dX9_carried_29 (by decide) ?_
      refine y_iconst (pc := 30) (v := (2 : Int32)) C dX9_carried_30 (by decide) ?_
      obtain ⟨q106, eq106, h⟩ := bdS h
      refine y_callS (pc := 31) (As := [.int x2, .int (0 : Int32), .int (2 : Int32)]) (rest := []) C (mX9_isWithin (fu := fu) eq106) vwX9_91 rfl rfl (Nat.le_of_ble_eq_true rfl) ⟨Nat.le_of_ble_eq_true rfl, Nat.le_of_ble_eq_true rfl⟩ ⟨Nat.le_refl _, Nat.le_refl _⟩ dX9_carried_31 ?_
      show Y _ _ _ _ _ _ _ _ _ _ _ _ _ _ _ _ _ _ q106.2 34 [(0, .ref (ad x0)), (1, .int x1), (2, .int x2)] [.int q106.1]
      refine y_if_ne (pc := 34) (tgt := 40) C dX9_carried_34 (by decide) (fun c107 => ?_) (fun c107 => ?_)
      · rw [if_neg c107] at h
        refine y_aload_n (pc := 40) (q := 0) C dX9_carried_40 rfl rfl ?_
        refine y_getr (pc := 41) C faX9_26 rfl hx0 dX9_carried_41 ?_
        refine y_aload_n (pc := 44) (q := 0) C dX9_carried_44 rfl rfl ?_
        refine y_getr (pc := 45) C faX9_36 rfl hx0 dX9_carried_45 ?_
        refine y_iload_n (pc := 48) (q := 2) C dX9_carried_48 rfl rfl ?_
        obtain ⟨q108, eq108, h⟩ := bdS h
        refine y_callS (pc := 49) (As := [.ref (ad (rf x0 2)), .ref (ad (rf x0 4)), .int x2]) (rest := []) C (mX0_told (fu := fu) eq108) vwX9_181 rfl rfl (Nat.le_of_ble_eq_true rfl) ⟨Nat.le_of_ble_eq_true rfl, Nat.le_of_ble_eq_true rfl⟩ ⟨Nat.le_refl _, Nat.le_refl _⟩ dX9_carried_49 ?_
        show Y _ _ _ _ _ _ _ _ _ _ _ _ _ _ _ _ _ _ q108.2 52 [(0, .ref (ad x0)), (1, .int x1), (2, .int x2)] [.int q108.1]
        cases h
        exact y_iret (pc := 52) C dX9_carried_52
      · rw [if_pos c107] at h
        exact tX9_carried_37 (fu := fu) C hx0 h
  · rw [if_neg c102] at h
    refine y_bipush (pc := 7) (v := (-103 : Int32)) C dX9_carried_7 (by decide) ?_
    cases h
    exact y_iret (pc := 9) C dX9_carried_9
noncomputable def fX9_carried (fu : Nat) (x0 : Nat) (x1 : Int32) (x2 : Int32) (σ : St) : Option (Int32 × St) := if xk x0 = 7 then fX9_carried_0 fu x0 x1 x2 σ else none
theorem mX9_carried {l : Launch} {D : va_G} {cA : ClassId} {bs fu : Nat} {ad : Nat → Nat} {x0 : Nat} {x1 : Int32} {x2 : Int32} {σ : St} {q : Int32 × St} (h : fX9_carried fu x0 x1 x2 σ = some q) : Ct l D cA bs ad yX9_carried cX9_carried 3 (some .int) 4 93 [.ref (ad x0), .int x1, .int x2] σ (some (.int q.1)) q.2 := by
  unfold fX9_carried at h
  by_cases hx0 : xk x0 = 7
  case neg => rw [if_neg hx0] at h; cases h
  rw [if_pos hx0] at h
  exact Ct.of (by decide) (Nat.le_of_ble_eq_true rfl) (fun p e s m args below meth c C => tX9_carried_0 (fu := fu) C hx0 h)
noncomputable def fX9_flood_27 (fu : Nat) (x0 : Nat) (x1 : Int32) (s0 : Int32) (σ : St) : Option (Int32 × St) :=
  some (s0, σ)
set_option maxHeartbeats 4000000 in
set_option maxRecDepth 100000 in
theorem tX9_flood_27 {l : Launch} {D : va_G} {cA : ClassId} {bs : Nat} {ad : Nat → Nat} {p : Program} {e : Env} {s : State} {m : MethodId} {args : Array Value} {below : List Frame} {meth : Method} {c : Code} {fu : Nat} (C : Cx D cA bs ad RX9 cX9_flood 2 (some .int) p s m args meth c) {x0 : Nat} {x1 : Int32} {s0 : Int32} {q : Int32 × St} (hx0 : xk x0 = 7) {σ : St} (h : fX9_flood_27 fu x0 x1 s0 σ = some q) : Y D cA bs ad p l e (rmY 3 68) s m args below meth c 2 0 0 (QM D cA bs ad below args s (some (.int q.1)) q.2) σ 27 [(0, .ref (ad x0)), (1, .int x1)] [.int s0] := by
  unfold fX9_flood_27 at h
  cases h
  exact y_iret (pc := 27) C dX9_flood_27
noncomputable def fX9_flood_0 (fu : Nat) (x0 : Nat) (x1 : Int32) (σ : St) : Option (Int32 × St) :=
  (fX9_isTooShort fu x0 σ).bind fun (q101 : Int32 × St) =>
  if q101.1 = 0 then
    if 0 ≤ x1 then
      (fX1_swim fu (rf x0 2) x1 q101.2).bind fun (q104 : Int32 × St) =>
      fX9_flood_27 fu x0 x1 q104.1 q104.2
    else
      fX9_flood_27 fu x0 x1 (-102 : Int32) q101.2
  else
    some ((-103 : Int32), q101.2)
set_option maxHeartbeats 4000000 in
set_option maxRecDepth 100000 in
theorem tX9_flood_0 {l : Launch} {D : va_G} {cA : ClassId} {bs : Nat} {ad : Nat → Nat} {p : Program} {e : Env} {s : State} {m : MethodId} {args : Array Value} {below : List Frame} {meth : Method} {c : Code} {fu : Nat} (C : Cx D cA bs ad RX9 cX9_flood 2 (some .int) p s m args meth c) {x0 : Nat} {x1 : Int32} {q : Int32 × St} (hx0 : xk x0 = 7) {σ : St} (h : fX9_flood_0 fu x0 x1 σ = some q) : Y D cA bs ad p l e (rmY 3 68) s m args below meth c 2 0 0 (QM D cA bs ad below args s (some (.int q.1)) q.2) σ 0 [(0, .ref (ad x0)), (1, .int x1)] [] := by
  unfold fX9_flood_0 at h
  refine y_aload_n (pc := 0) (q := 0) C dX9_flood_0 rfl rfl ?_
  obtain ⟨q101, eq101, h⟩ := bdS h
  refine y_callV (pc := 1) (As := []) (rest := []) C (mX9_isTooShort (fu := fu) eq101) vwX9_139 rfl (by decide) hx0 rfl rfl (Nat.le_of_ble_eq_true rfl) ⟨Nat.le_of_ble_eq_true rfl, Nat.le_of_ble_eq_true rfl⟩ ⟨Nat.le_refl _, Nat.le_refl _⟩ dX9_flood_1 ?_
  show Y _ _ _ _ _ _ _ _ _ _ _ _ _ _ _ _ _ _ q101.2 4 [(0, .ref (ad x0)), (1, .int x1)] [.int q101.1]
  refine y_if_eq (pc := 4) (tgt := 10) C dX9_flood_4 (by decide) (fun c102 => ?_) (fun c102 => ?_)
  · rw [if_pos c102] at h
    refine y_iload_n (pc := 10) (q := 1) C dX9_flood_10 rfl rfl ?_
    refine y_if_ge (pc := 11) (tgt := 19) C dX9_flood_11 (by decide) (fun c103 => ?_) (fun c103 => ?_)
    · rw [if_pos c103] at h
      refine y_aload_n (pc := 19) (q := 0) C dX9_flood_19 rfl rfl ?_
      refine y_getr (pc := 20) C faX9_26 rfl hx0 dX9_flood_20 ?_
      refine y_iload_n (pc := 23) (q := 1) C dX9_flood_23 rfl rfl ?_
      obtain ⟨q104, eq104, h⟩ := bdS h
      refine y_callS (pc := 24) (As := [.ref (ad (rf x0 2)), .int x1]) (rest := []) C (mX1_swim (fu := fu) eq104) vwX9_186 rfl rfl (Nat.le_of_ble_eq_true rfl) ⟨Nat.le_of_ble_eq_true rfl, Nat.le_of_ble_eq_true rfl⟩ ⟨Nat.le_refl _, Nat.le_refl _⟩ dX9_flood_24 ?_
      show Y _ _ _ _ _ _ _ _ _ _ _ _ _ _ _ _ _ _ q104.2 27 [(0, .ref (ad x0)), (1, .int x1)] [.int q104.1]
      exact tX9_flood_27 (fu := fu) C hx0 h
    · rw [if_neg c103] at h
      refine y_bipush (pc := 14) (v := (-102 : Int32)) C dX9_flood_14 (by decide) ?_
      refine y_goto (pc := 16) (tgt := 27) C dX9_flood_16 (by decide) ?_
      exact tX9_flood_27 (fu := fu) C hx0 h
  · rw [if_neg c102] at h
    refine y_bipush (pc := 7) (v := (-103 : Int32)) C dX9_flood_7 (by decide) ?_
    cases h
    exact y_iret (pc := 9) C dX9_flood_9
noncomputable def fX9_flood (fu : Nat) (x0 : Nat) (x1 : Int32) (σ : St) : Option (Int32 × St) := if xk x0 = 7 then fX9_flood_0 fu x0 x1 σ else none
theorem mX9_flood {l : Launch} {D : va_G} {cA : ClassId} {bs fu : Nat} {ad : Nat → Nat} {x0 : Nat} {x1 : Int32} {σ : St} {q : Int32 × St} (h : fX9_flood fu x0 x1 σ = some q) : Ct l D cA bs ad yX9_flood cX9_flood 2 (some .int) 3 68 [.ref (ad x0), .int x1] σ (some (.int q.1)) q.2 := by
  unfold fX9_flood at h
  by_cases hx0 : xk x0 = 7
  case neg => rw [if_neg hx0] at h; cases h
  rw [if_pos hx0] at h
  exact Ct.of (by decide) (Nat.le_of_ble_eq_true rfl) (fun p e s m args below meth c C => tX9_flood_0 (fu := fu) C hx0 h)
noncomputable def fX9_looks_19 (fu : Nat) (x0 : Nat) (s0 : Int32) (σ : St) : Option (Int32 × St) :=
  some (s0, σ)
set_option maxHeartbeats 4000000 in
set_option maxRecDepth 100000 in
theorem tX9_looks_19 {l : Launch} {D : va_G} {cA : ClassId} {bs : Nat} {ad : Nat → Nat} {p : Program} {e : Env} {s : State} {m : MethodId} {args : Array Value} {below : List Frame} {meth : Method} {c : Code} {fu : Nat} (C : Cx D cA bs ad RX9 cX9_looks 1 (some .int) p s m args meth c) {x0 : Nat} {s0 : Int32} {q : Int32 × St} (hx0 : xk x0 = 7) {σ : St} (h : fX9_looks_19 fu x0 s0 σ = some q) : Y D cA bs ad p l e (rmY 2 42) s m args below meth c 1 0 0 (QM D cA bs ad below args s (some (.int q.1)) q.2) σ 19 [(0, .ref (ad x0))] [.int s0] := by
  unfold fX9_looks_19 at h
  cases h
  exact y_iret (pc := 19) C dX9_looks_19
noncomputable def fX9_looks_0 (fu : Nat) (x0 : Nat) (σ : St) : Option (Int32 × St) :=
  (fX9_isTooShort fu x0 σ).bind fun (q101 : Int32 × St) =>
  if q101.1 = 0 then
    (fX8_looksNeeded fu (rf x0 2) q101.2).bind fun (q103 : Int32 × St) =>
    fX9_looks_19 fu x0 q103.1 q103.2
  else
    fX9_looks_19 fu x0 (-103 : Int32) q101.2
set_option maxHeartbeats 4000000 in
set_option maxRecDepth 100000 in
theorem tX9_looks_0 {l : Launch} {D : va_G} {cA : ClassId} {bs : Nat} {ad : Nat → Nat} {p : Program} {e : Env} {s : State} {m : MethodId} {args : Array Value} {below : List Frame} {meth : Method} {c : Code} {fu : Nat} (C : Cx D cA bs ad RX9 cX9_looks 1 (some .int) p s m args meth c) {x0 : Nat} {q : Int32 × St} (hx0 : xk x0 = 7) {σ : St} (h : fX9_looks_0 fu x0 σ = some q) : Y D cA bs ad p l e (rmY 2 42) s m args below meth c 1 0 0 (QM D cA bs ad below args s (some (.int q.1)) q.2) σ 0 [(0, .ref (ad x0))] [] := by
  unfold fX9_looks_0 at h
  refine y_aload_n (pc := 0) (q := 0) C dX9_looks_0 rfl rfl ?_
  obtain ⟨q101, eq101, h⟩ := bdS h
  refine y_callV (pc := 1) (As := []) (rest := []) C (mX9_isTooShort (fu := fu) eq101) vwX9_139 rfl (by decide) hx0 rfl rfl (Nat.le_of_ble_eq_true rfl) ⟨Nat.le_of_ble_eq_true rfl, Nat.le_of_ble_eq_true rfl⟩ ⟨Nat.le_refl _, Nat.le_refl _⟩ dX9_looks_1 ?_
  show Y _ _ _ _ _ _ _ _ _ _ _ _ _ _ _ _ _ _ q101.2 4 [(0, .ref (ad x0))] [.int q101.1]
  refine y_if_eq (pc := 4) (tgt := 12) C dX9_looks_4 (by decide) (fun c102 => ?_) (fun c102 => ?_)
  · rw [if_pos c102] at h
    refine y_aload_n (pc := 12) (q := 0) C dX9_looks_12 rfl rfl ?_
    refine y_getr (pc := 13) C faX9_26 rfl hx0 dX9_looks_13 ?_
    obtain ⟨q103, eq103, h⟩ := bdS h
    refine y_callV (pc := 16) (As := []) (rest := []) C (mX8_looksNeeded (fu := fu) eq103) vwX9_192 rfl (by decide) (rf_7_2 _ hx0) rfl rfl (Nat.le_of_ble_eq_true rfl) ⟨Nat.le_of_ble_eq_true rfl, Nat.le_of_ble_eq_true rfl⟩ ⟨Nat.le_refl _, Nat.le_refl _⟩ dX9_looks_16 ?_
    show Y _ _ _ _ _ _ _ _ _ _ _ _ _ _ _ _ _ _ q103.2 19 [(0, .ref (ad x0))] [.int q103.1]
    exact tX9_looks_19 (fu := fu) C hx0 h
  · rw [if_neg c102] at h
    refine y_bipush (pc := 7) (v := (-103 : Int32)) C dX9_looks_7 (by decide) ?_
    refine y_goto (pc := 9) (tgt := 19) C dX9_looks_9 (by decide) ?_
    exact tX9_looks_19 (fu := fu) C hx0 h
noncomputable def fX9_looks (fu : Nat) (x0 : Nat) (σ : St) : Option (Int32 × St) := if xk x0 = 7 then fX9_looks_0 fu x0 σ else none
theorem mX9_looks {l : Launch} {D : va_G} {cA : ClassId} {bs fu : Nat} {ad : Nat → Nat} {x0 : Nat} {σ : St} {q : Int32 × St} (h : fX9_looks fu x0 σ = some q) : Ct l D cA bs ad yX9_looks cX9_looks 1 (some .int) 2 42 [.ref (ad x0)] σ (some (.int q.1)) q.2 := by
  unfold fX9_looks at h
  by_cases hx0 : xk x0 = 7
  case neg => rw [if_neg hx0] at h; cases h
  rw [if_pos hx0] at h
  exact Ct.of (by decide) (Nat.le_of_ble_eq_true rfl) (fun p e s m args below meth c C => tX9_looks_0 (fu := fu) C hx0 h)
noncomputable def fX9_was_39 (fu : Nat) (x0 : Nat) (x1 : Int32) (x2 : Int32) (s0 : Int32) (σ : St) : Option (Int32 × St) :=
  some (s0, σ)
set_option maxHeartbeats 4000000 in
set_option maxRecDepth 100000 in
theorem tX9_was_39 {l : Launch} {D : va_G} {cA : ClassId} {bs : Nat} {ad : Nat → Nat} {p : Program} {e : Env} {s : State} {m : MethodId} {args : Array Value} {below : List Frame} {meth : Method} {c : Code} {fu : Nat} (C : Cx D cA bs ad RX9 cX9_was 3 (some .int) p s m args meth c) {x0 : Nat} {x1 : Int32} {x2 : Int32} {s0 : Int32} {q : Int32 × St} (hx0 : xk x0 = 7) {σ : St} (h : fX9_was_39 fu x0 x1 x2 s0 σ = some q) : Y D cA bs ad p l e (rmY 1 23) s m args below meth c 3 0 0 (QM D cA bs ad below args s (some (.int q.1)) q.2) σ 39 [(0, .ref (ad x0)), (1, .int x1), (2, .int x2)] [.int s0] := by
  unfold fX9_was_39 at h
  cases h
  exact y_iret (pc := 39) C dX9_was_39
noncomputable def fX9_was_0 (fu : Nat) (x0 : Nat) (x1 : Int32) (x2 : Int32) (σ : St) : Option (Int32 × St) :=
  (fX8_hasBlock fu (rf x0 2) x1 σ).bind fun (q101 : Int32 × St) =>
  if q101.1 = 0 then
    some ((-101 : Int32), q101.2)
  else
    (fX9_isWithin fu x2 (-1 : Int32) (999 : Int32) q101.2).bind fun (q103 : Int32 × St) =>
    if q103.1 = 0 then
      fX9_was_39 fu x0 x1 x2 (-102 : Int32) q103.2
    else
      (fX8_changeWas fu (rf x0 2) x1 x2 q103.2).bind fun (q105 : Int32 × St) =>
      fX9_was_39 fu x0 x1 x2 q105.1 q105.2
set_option maxHeartbeats 4000000 in
set_option maxRecDepth 100000 in
theorem tX9_was_0 {l : Launch} {D : va_G} {cA : ClassId} {bs : Nat} {ad : Nat → Nat} {p : Program} {e : Env} {s : State} {m : MethodId} {args : Array Value} {below : List Frame} {meth : Method} {c : Code} {fu : Nat} (C : Cx D cA bs ad RX9 cX9_was 3 (some .int) p s m args meth c) {x0 : Nat} {x1 : Int32} {x2 : Int32} {q : Int32 × St} (hx0 : xk x0 = 7) {σ : St} (h : fX9_was_0 fu x0 x1 x2 σ = some q) : Y D cA bs ad p l e (rmY 1 23) s m args below meth c 3 0 0 (QM D cA bs ad below args s (some (.int q.1)) q.2) σ 0 [(0, .ref (ad x0)), (1, .int x1), (2, .int x2)] [] := by
  unfold fX9_was_0 at h
  refine y_aload_n (pc := 0) (q := 0) C dX9_was_0 rfl rfl ?_
  refine y_getr (pc := 1) C faX9_26 rfl hx0 dX9_was_1 ?_
  refine y_iload_n (pc := 4) (q := 1) C dX9_was_4 rfl rfl ?_
  obtain ⟨q101, eq101, h⟩ := bdS h
  refine y_callV (pc := 5) (As := [.int x1]) (rest := []) C (mX8_hasBlock (fu := fu) eq101) vwX9_107 rfl (by decide) (rf_7_2 _ hx0) rfl rfl (Nat.le_of_ble_eq_true rfl) ⟨Nat.le_of_ble_eq_true rfl, Nat.le_of_ble_eq_true rfl⟩ ⟨Nat.le_refl _, Nat.le_refl _⟩ dX9_was_5 ?_
  show Y _ _ _ _ _ _ _ _ _ _ _ _ _ _ _ _ _ _ q101.2 8 [(0, .ref (ad x0)), (1, .int x1), (2, .int x2)] [.int q101.1]
  refine y_if_ne (pc := 8) (tgt := 14) C dX9_was_8 (by decide) (fun c102 => ?_) (fun c102 => ?_)
  · rw [if_neg c102] at h
    refine y_iload_n (pc := 14) (q := 2) C dX9_was_14 rfl rfl ?_
    refine y_iconst (pc := 15) (v := (-1 : Int32)) C dX9_was_15 (by decide) ?_
    refine y_sipush (pc := 16) (v := (999 : Int32)) C dX9_was_16 (by decide) ?_
    obtain ⟨q103, eq103, h⟩ := bdS h
    refine y_callS (pc := 19) (As := [.int x2, .int (-1 : Int32), .int (999 : Int32)]) (rest := []) C (mX9_isWithin (fu := fu) eq103) vwX9_91 rfl rfl (Nat.le_of_ble_eq_true rfl) ⟨Nat.le_of_ble_eq_true rfl, Nat.le_of_ble_eq_true rfl⟩ ⟨Nat.le_refl _, Nat.le_refl _⟩ dX9_was_19 ?_
    show Y _ _ _ _ _ _ _ _ _ _ _ _ _ _ _ _ _ _ q103.2 22 [(0, .ref (ad x0)), (1, .int x1), (2, .int x2)] [.int q103.1]
    refine y_if_eq (pc := 22) (tgt := 37) C dX9_was_22 (by decide) (fun c104 => ?_) (fun c104 => ?_)
    · rw [if_pos c104] at h
      refine y_bipush (pc := 37) (v := (-102 : Int32)) C dX9_was_37 (by decide) ?_
      exact tX9_was_39 (fu := fu) C hx0 h
    · rw [if_neg c104] at h
      refine y_aload_n (pc := 25) (q := 0) C dX9_was_25 rfl rfl ?_
      refine y_getr (pc := 26) C faX9_26 rfl hx0 dX9_was_26 ?_
      refine y_iload_n (pc := 29) (q := 1) C dX9_was_29 rfl rfl ?_
      refine y_iload_n (pc := 30) (q := 2) C dX9_was_30 rfl rfl ?_
      obtain ⟨q105, eq105, h⟩ := bdS h
      refine y_callV (pc := 31) (As := [.int x1, .int x2]) (rest := []) C (mX8_changeWas (fu := fu) eq105) vwX9_195 rfl (by decide) (rf_7_2 _ hx0) rfl rfl (Nat.le_of_ble_eq_true rfl) ⟨Nat.le_of_ble_eq_true rfl, Nat.le_of_ble_eq_true rfl⟩ ⟨Nat.le_refl _, Nat.le_refl _⟩ dX9_was_31 ?_
      show Y _ _ _ _ _ _ _ _ _ _ _ _ _ _ _ _ _ _ q105.2 34 [(0, .ref (ad x0)), (1, .int x1), (2, .int x2)] [.int q105.1]
      refine y_goto (pc := 34) (tgt := 39) C dX9_was_34 (by decide) ?_
      exact tX9_was_39 (fu := fu) C hx0 h
  · rw [if_pos c102] at h
    refine y_bipush (pc := 11) (v := (-101 : Int32)) C dX9_was_11 (by decide) ?_
    cases h
    exact y_iret (pc := 13) C dX9_was_13
noncomputable def fX9_was (fu : Nat) (x0 : Nat) (x1 : Int32) (x2 : Int32) (σ : St) : Option (Int32 × St) := if xk x0 = 7 then fX9_was_0 fu x0 x1 x2 σ else none
theorem mX9_was {l : Launch} {D : va_G} {cA : ClassId} {bs fu : Nat} {ad : Nat → Nat} {x0 : Nat} {x1 : Int32} {x2 : Int32} {σ : St} {q : Int32 × St} (h : fX9_was fu x0 x1 x2 σ = some q) : Ct l D cA bs ad yX9_was cX9_was 3 (some .int) 1 23 [.ref (ad x0), .int x1, .int x2] σ (some (.int q.1)) q.2 := by
  unfold fX9_was at h
  by_cases hx0 : xk x0 = 7
  case neg => rw [if_neg hx0] at h; cases h
  rw [if_pos hx0] at h
  exact Ct.of (by decide) (Nat.le_of_ble_eq_true rfl) (fun p e s m args below meth c C => tX9_was_0 (fu := fu) C hx0 h)
noncomputable def fX9_last_91 (fu : Nat) (x0 : Nat) (x1 : Int32) (s0 : Int32) (σ : St) : Option (Int32 × St) :=
  some (s0, σ)
set_option maxHeartbeats 4000000 in
set_option maxRecDepth 100000 in
theorem tX9_last_91 {l : Launch} {D : va_G} {cA : ClassId} {bs : Nat} {ad : Nat → Nat} {p : Program} {e : Env} {s : State} {m : MethodId} {args : Array Value} {below : List Frame} {meth : Method} {c : Code} {fu : Nat} (C : Cx D cA bs ad RX9 cX9_last 2 (some .int) p s m args meth c) {x0 : Nat} {x1 : Int32} {s0 : Int32} {q : Int32 × St} (hx0 : xk x0 = 7) {σ : St} (h : fX9_last_91 fu x0 x1 s0 σ = some q) : Y D cA bs ad p l e (rmY 5 114) s m args below meth c 2 0 0 (QM D cA bs ad below args s (some (.int q.1)) q.2) σ 91 [(0, .ref (ad x0)), (1, .int x1)] [.int s0] := by
  unfold fX9_last_91 at h
  cases h
  exact y_iret (pc := 91) C dX9_last_91
noncomputable def fX9_last_0 (fu : Nat) (x0 : Nat) (x1 : Int32) (σ : St) : Option (Int32 × St) :=
  (fX9_isTooShort fu x0 σ).bind fun (q101 : Int32 × St) =>
  if q101.1 = 0 then
    (fX9_isWithin fu x1 (0 : Int32) (1 : Int32) q101.2).bind fun (q103 : Int32 × St) =>
    if q103.1 = 0 then
      some ((-102 : Int32), q103.2)
    else
      if (q103.2.1 x0 11) < (40 : Int32) then
        nm (si q103.2 x0 11 ((q103.2.1 x0 11) + (1 : Int32))) fun (σ106 : St) =>
        (fX3_study fu (rf x0 6) (rf x0 2) σ106).bind fun (q107 : St) =>
        if x1 = 0 then
          (fX3_ordersFound fu (rf x0 6) q107).bind fun (q114 : Int32 × St) =>
          some (q114.1, q114.2)
        else
          (fX3_ordersFound fu (rf x0 6) q107).bind fun (q109 : Int32 × St) =>
          if q109.1 = 0 then
            fX9_last_91 fu x0 x1 (-1 : Int32) q109.2
          else
            (fX3_firstOrder fu (rf x0 6) q109.2).bind fun (q111 : Nat × St) =>
            if xk q111.1 = 4 then
            (fX6_told fu q111.1 q111.2).bind fun (q113 : Int32 × St) =>
            fX9_last_91 fu x0 x1 q113.1 q113.2
            else none
      else
        some ((-103 : Int32), q103.2)
  else
    some ((-103 : Int32), q101.2)
set_option maxHeartbeats 4000000 in
set_option maxRecDepth 100000 in
theorem tX9_last_0 {l : Launch} {D : va_G} {cA : ClassId} {bs : Nat} {ad : Nat → Nat} {p : Program} {e : Env} {s : State} {m : MethodId} {args : Array Value} {below : List Frame} {meth : Method} {c : Code} {fu : Nat} (C : Cx D cA bs ad RX9 cX9_last 2 (some .int) p s m args meth c) {x0 : Nat} {x1 : Int32} {q : Int32 × St} (hx0 : xk x0 = 7) {σ : St} (h : fX9_last_0 fu x0 x1 σ = some q) : Y D cA bs ad p l e (rmY 5 114) s m args below meth c 2 0 0 (QM D cA bs ad below args s (some (.int q.1)) q.2) σ 0 [(0, .ref (ad x0)), (1, .int x1)] [] := by
  unfold fX9_last_0 at h
  refine y_aload_n (pc := 0) (q := 0) C dX9_last_0 rfl rfl ?_
  obtain ⟨q101, eq101, h⟩ := bdS h
  refine y_callV (pc := 1) (As := []) (rest := []) C (mX9_isTooShort (fu := fu) eq101) vwX9_139 rfl (by decide) hx0 rfl rfl (Nat.le_of_ble_eq_true rfl) ⟨Nat.le_of_ble_eq_true rfl, Nat.le_of_ble_eq_true rfl⟩ ⟨Nat.le_refl _, Nat.le_refl _⟩ dX9_last_1 ?_
  show Y _ _ _ _ _ _ _ _ _ _ _ _ _ _ _ _ _ _ q101.2 4 [(0, .ref (ad x0)), (1, .int x1)] [.int q101.1]
  refine y_if_eq (pc := 4) (tgt := 10) C dX9_last_4 (by decide) (fun c102 => ?_) (fun c102 => ?_)
  · rw [if_pos c102] at h
    refine y_iload_n (pc := 10) (q := 1) C dX9_last_10 rfl rfl ?_
    refine y_iconst (pc := 11) (v := (0 : Int32)) C dX9_last_11 (by decide) ?_
    refine y_iconst (pc := 12) (v := (1 : Int32)) C dX9_last_12 (by decide) ?_
    obtain ⟨q103, eq103, h⟩ := bdS h
    refine y_callS (pc := 13) (As := [.int x1, .int (0 : Int32), .int (1 : Int32)]) (rest := []) C (mX9_isWithin (fu := fu) eq103) vwX9_91 rfl rfl (Nat.le_of_ble_eq_true rfl) ⟨Nat.le_of_ble_eq_true rfl, Nat.le_of_ble_eq_true rfl⟩ ⟨Nat.le_refl _, Nat.le_refl _⟩ dX9_last_13 ?_
    show Y _ _ _ _ _ _ _ _ _ _ _ _ _ _ _ _ _ _ q103.2 16 [(0, .ref (ad x0)), (1, .int x1)] [.int q103.1]
    refine y_if_ne (pc := 16) (tgt := 22) C dX9_last_16 (by decide) (fun c104 => ?_) (fun c104 => ?_)
    · rw [if_neg c104] at h
      refine y_aload_n (pc := 22) (q := 0) C dX9_last_22 rfl rfl ?_
      refine y_geti (pc := 23) C faX9_198 rfl hx0 dX9_last_23 ?_
      refine y_bipush (pc := 26) (v := (40 : Int32)) C dX9_last_26 (by decide) ?_
      refine y_icmp_lt (pc := 28) (tgt := 34) C dX9_last_28 (by decide) (fun c105 => ?_) (fun c105 => ?_)
      · rw [if_pos c105] at h
        refine y_aload_n (pc := 34) (q := 0) C dX9_last_34 rfl rfl ?_
        refine y_dup (pc := 35) C dX9_last_35 rfl ?_
        refine y_geti (pc := 36) C faX9_198 rfl hx0 dX9_last_36 ?_
        refine y_iconst (pc := 39) (v := (1 : Int32)) C dX9_last_39 (by decide) ?_
        refine y_iadd (pc := 40) C dX9_last_40 ?_
        obtain ⟨σ106, eσ106, h⟩ := nmS h
        refine y_puti (pc := 41) C fpX9_198 rfl hx0 rfl rfl dX9_last_41 ?_
        rw [← eσ106]
        refine y_aload_n (pc := 44) (q := 0) C dX9_last_44 rfl rfl ?_
        refine y_getr (pc := 45) C faX9_50 rfl hx0 dX9_last_45 ?_
        refine y_aload_n (pc := 48) (q := 0) C dX9_last_48 rfl rfl ?_
        refine y_getr (pc := 49) C faX9_26 rfl hx0 dX9_last_49 ?_
        obtain ⟨q107, eq107, h⟩ := bdS h
        refine y_callV (pc := 52) (As := [.ref (ad (rf x0 2))]) (rest := []) C (mX3_study (fu := fu) eq107) vwX9_201 rfl (by decide) (rf_7_6 _ hx0) rfl rfl (Nat.le_of_ble_eq_true rfl) ⟨Nat.le_of_ble_eq_true rfl, Nat.le_of_ble_eq_true rfl⟩ ⟨Nat.le_refl _, Nat.le_refl _⟩ dX9_last_52 ?_
        show Y _ _ _ _ _ _ _ _ _ _ _ _ _ _ _ _ _ _ q107 55 [(0, .ref (ad x0)), (1, .int x1)] []
        refine y_iload_n (pc := 55) (q := 1) C dX9_last_55 rfl rfl ?_
        refine y_if_ne (pc := 56) (tgt := 67) C dX9_last_56 (by decide) (fun c108 => ?_) (fun c108 => ?_)
        · rw [if_neg c108] at h
          refine y_aload_n (pc := 67) (q := 0) C dX9_last_67 rfl rfl ?_
          refine y_getr (pc := 68) C faX9_50 rfl hx0 dX9_last_68 ?_
          obtain ⟨q109, eq109, h⟩ := bdS h
          refine y_callV (pc := 71) (As := []) (rest := []) C (mX3_ordersFound (fu := fu) eq109) vwX9_204 rfl (by decide) (rf_7_6 _ hx0) rfl rfl (Nat.le_of_ble_eq_true rfl) ⟨Nat.le_of_ble_eq_true rfl, Nat.le_of_ble_eq_true rfl⟩ ⟨Nat.le_refl _, Nat.le_refl _⟩ dX9_last_71 ?_
          show Y _ _ _ _ _ _ _ _ _ _ _ _ _ _ _ _ _ _ q109.2 74 [(0, .ref (ad x0)), (1, .int x1)] [.int q109.1]
          refine y_if_ne (pc := 74) (tgt := 81) C dX9_last_74 (by decide) (fun c110 => ?_) (fun c110 => ?_)
          · rw [if_neg c110] at h
            refine y_aload_n (pc := 81) (q := 0) C dX9_last_81 rfl rfl ?_
            refine y_getr (pc := 82) C faX9_50 rfl hx0 dX9_last_82 ?_
            obtain ⟨q111, eq111, h⟩ := bdS h
            refine y_callV (pc := 85) (As := []) (rest := []) C (mX3_firstOrder (fu := fu) eq111) vwX9_205 rfl (by decide) (rf_7_6 _ hx0) rfl rfl (Nat.le_of_ble_eq_true rfl) ⟨Nat.le_of_ble_eq_true rfl, Nat.le_of_ble_eq_true rfl⟩ ⟨Nat.le_refl _, Nat.le_refl _⟩ dX9_last_85 ?_
            by_cases hr112 : xk q111.1 = 4
            case neg => rw [if_neg hr112] at h; cases h
            rw [if_pos hr112] at h
            show Y _ _ _ _ _ _ _ _ _ _ _ _ _ _ _ _ _ _ q111.2 88 [(0, .ref (ad x0)), (1, .int x1)] [.ref (ad q111.1)]
            obtain ⟨q113, eq113, h⟩ := bdS h
            refine y_callV (pc := 88) (As := []) (rest := []) C (mX6_told (fu := fu) eq113) vwX9_179 rfl (by decide) hr112 rfl rfl (Nat.le_of_ble_eq_true rfl) ⟨Nat.le_of_ble_eq_true rfl, Nat.le_of_ble_eq_true rfl⟩ ⟨Nat.le_refl _, Nat.le_refl _⟩ dX9_last_88 ?_
            show Y _ _ _ _ _ _ _ _ _ _ _ _ _ _ _ _ _ _ q113.2 91 [(0, .ref (ad x0)), (1, .int x1)] [.int q113.1]
            exact tX9_last_91 (fu := fu) C hx0 h
          · rw [if_pos c110] at h
            refine y_iconst (pc := 77) (v := (-1 : Int32)) C dX9_last_77 (by decide) ?_
            refine y_goto (pc := 78) (tgt := 91) C dX9_last_78 (by decide) ?_
            exact tX9_last_91 (fu := fu) C hx0 h
        · rw [if_pos c108] at h
          refine y_aload_n (pc := 59) (q := 0) C dX9_last_59 rfl rfl ?_
          refine y_getr (pc := 60) C faX9_50 rfl hx0 dX9_last_60 ?_
          obtain ⟨q114, eq114, h⟩ := bdS h
          refine y_callV (pc := 63) (As := []) (rest := []) C (mX3_ordersFound (fu := fu) eq114) vwX9_204 rfl (by decide) (rf_7_6 _ hx0) rfl rfl (Nat.le_of_ble_eq_true rfl) ⟨Nat.le_of_ble_eq_true rfl, Nat.le_of_ble_eq_true rfl⟩ ⟨Nat.le_refl _, Nat.le_refl _⟩ dX9_last_63 ?_
          show Y _ _ _ _ _ _ _ _ _ _ _ _ _ _ _ _ _ _ q114.2 66 [(0, .ref (ad x0)), (1, .int x1)] [.int q114.1]
          cases h
          exact y_iret (pc := 66) C dX9_last_66
      · rw [if_neg c105] at h
        refine y_bipush (pc := 31) (v := (-103 : Int32)) C dX9_last_31 (by decide) ?_
        cases h
        exact y_iret (pc := 33) C dX9_last_33
    · rw [if_pos c104] at h
      refine y_bipush (pc := 19) (v := (-102 : Int32)) C dX9_last_19 (by decide) ?_
      cases h
      exact y_iret (pc := 21) C dX9_last_21
  · rw [if_neg c102] at h
    refine y_bipush (pc := 7) (v := (-103 : Int32)) C dX9_last_7 (by decide) ?_
    cases h
    exact y_iret (pc := 9) C dX9_last_9
noncomputable def fX9_last (fu : Nat) (x0 : Nat) (x1 : Int32) (σ : St) : Option (Int32 × St) := if xk x0 = 7 then fX9_last_0 fu x0 x1 σ else none
theorem mX9_last {l : Launch} {D : va_G} {cA : ClassId} {bs fu : Nat} {ad : Nat → Nat} {x0 : Nat} {x1 : Int32} {σ : St} {q : Int32 × St} (h : fX9_last fu x0 x1 σ = some q) : Ct l D cA bs ad yX9_last cX9_last 2 (some .int) 5 114 [.ref (ad x0), .int x1] σ (some (.int q.1)) q.2 := by
  unfold fX9_last at h
  by_cases hx0 : xk x0 = 7
  case neg => rw [if_neg hx0] at h; cases h
  rw [if_pos hx0] at h
  exact Ct.of (by decide) (Nat.le_of_ble_eq_true rfl) (fun p e s m args below meth c C => tX9_last_0 (fu := fu) C hx0 h)
noncomputable def fX9_sure_30 (fu : Nat) (x0 : Nat) (x1 : Int32) (σ : St) : Option (Int32 × St) :=
  some ((-103 : Int32), σ)
set_option maxHeartbeats 4000000 in
set_option maxRecDepth 100000 in
theorem tX9_sure_30 {l : Launch} {D : va_G} {cA : ClassId} {bs : Nat} {ad : Nat → Nat} {p : Program} {e : Env} {s : State} {m : MethodId} {args : Array Value} {below : List Frame} {meth : Method} {c : Code} {fu : Nat} (C : Cx D cA bs ad RX9 cX9_sure 2 (some .int) p s m args meth c) {x0 : Nat} {x1 : Int32} {q : Int32 × St} (hx0 : xk x0 = 7) {σ : St} (h : fX9_sure_30 fu x0 x1 σ = some q) : Y D cA bs ad p l e (rmY 5 114) s m args below meth c 2 0 0 (QM D cA bs ad below args s (some (.int q.1)) q.2) σ 30 [(0, .ref (ad x0)), (1, .int x1)] [] := by
  unfold fX9_sure_30 at h
  refine y_bipush (pc := 30) (v := (-103 : Int32)) C dX9_sure_30 (by decide) ?_
  cases h
  exact y_iret (pc := 32) C dX9_sure_32
noncomputable def fX9_sure_0 (fu : Nat) (x0 : Nat) (x1 : Int32) (σ : St) : Option (Int32 × St) :=
  (fX8_hasBlock fu (rf x0 2) x1 σ).bind fun (q101 : Int32 × St) =>
  if q101.1 = 0 then
    some ((-101 : Int32), q101.2)
  else
    (fX9_isTooShort fu x0 q101.2).bind fun (q103 : Int32 × St) =>
    if q103.1 = 0 then
      if (q103.2.1 x0 11) < (40 : Int32) then
        nm (si q103.2 x0 11 ((q103.2.1 x0 11) + (1 : Int32))) fun (σ106 : St) =>
        (fX3_study fu (rf x0 6) (rf x0 2) σ106).bind fun (q107 : St) =>
        (fX3_surePlaceOf fu (rf x0 6) x1 q107).bind fun (q108 : Int32 × St) =>
        some (q108.1, q108.2)
      else
        fX9_sure_30 fu x0 x1 q103.2
    else
      fX9_sure_30 fu x0 x1 q103.2
set_option maxHeartbeats 4000000 in
set_option maxRecDepth 100000 in
theorem tX9_sure_0 {l : Launch} {D : va_G} {cA : ClassId} {bs : Nat} {ad : Nat → Nat} {p : Program} {e : Env} {s : State} {m : MethodId} {args : Array Value} {below : List Frame} {meth : Method} {c : Code} {fu : Nat} (C : Cx D cA bs ad RX9 cX9_sure 2 (some .int) p s m args meth c) {x0 : Nat} {x1 : Int32} {q : Int32 × St} (hx0 : xk x0 = 7) {σ : St} (h : fX9_sure_0 fu x0 x1 σ = some q) : Y D cA bs ad p l e (rmY 5 114) s m args below meth c 2 0 0 (QM D cA bs ad below args s (some (.int q.1)) q.2) σ 0 [(0, .ref (ad x0)), (1, .int x1)] [] := by
  unfold fX9_sure_0 at h
  refine y_aload_n (pc := 0) (q := 0) C dX9_sure_0 rfl rfl ?_
  refine y_getr (pc := 1) C faX9_26 rfl hx0 dX9_sure_1 ?_
  refine y_iload_n (pc := 4) (q := 1) C dX9_sure_4 rfl rfl ?_
  obtain ⟨q101, eq101, h⟩ := bdS h
  refine y_callV (pc := 5) (As := [.int x1]) (rest := []) C (mX8_hasBlock (fu := fu) eq101) vwX9_107 rfl (by decide) (rf_7_2 _ hx0) rfl rfl (Nat.le_of_ble_eq_true rfl) ⟨Nat.le_of_ble_eq_true rfl, Nat.le_of_ble_eq_true rfl⟩ ⟨Nat.le_refl _, Nat.le_refl _⟩ dX9_sure_5 ?_
  show Y _ _ _ _ _ _ _ _ _ _ _ _ _ _ _ _ _ _ q101.2 8 [(0, .ref (ad x0)), (1, .int x1)] [.int q101.1]
  refine y_if_ne (pc := 8) (tgt := 14) C dX9_sure_8 (by decide) (fun c102 => ?_) (fun c102 => ?_)
  · rw [if_neg c102] at h
    refine y_aload_n (pc := 14) (q := 0) C dX9_sure_14 rfl rfl ?_
    obtain ⟨q103, eq103, h⟩ := bdS h
    refine y_callV (pc := 15) (As := []) (rest := []) C (mX9_isTooShort (fu := fu) eq103) vwX9_139 rfl (by decide) hx0 rfl rfl (Nat.le_of_ble_eq_true rfl) ⟨Nat.le_of_ble_eq_true rfl, Nat.le_of_ble_eq_true rfl⟩ ⟨Nat.le_refl _, Nat.le_refl _⟩ dX9_sure_15 ?_
    show Y _ _ _ _ _ _ _ _ _ _ _ _ _ _ _ _ _ _ q103.2 18 [(0, .ref (ad x0)), (1, .int x1)] [.int q103.1]
    refine y_if_ne (pc := 18) (tgt := 30) C dX9_sure_18 (by decide) (fun c104 => ?_) (fun c104 => ?_)
    · rw [if_neg c104] at h
      exact tX9_sure_30 (fu := fu) C hx0 h
    · rw [if_pos c104] at h
      refine y_aload_n (pc := 21) (q := 0) C dX9_sure_21 rfl rfl ?_
      refine y_geti (pc := 22) C faX9_198 rfl hx0 dX9_sure_22 ?_
      refine y_bipush (pc := 25) (v := (40 : Int32)) C dX9_sure_25 (by decide) ?_
      refine y_icmp_lt (pc := 27) (tgt := 33) C dX9_sure_27 (by decide) (fun c105 => ?_) (fun c105 => ?_)
      · rw [if_pos c105] at h
        refine y_aload_n (pc := 33) (q := 0) C dX9_sure_33 rfl rfl ?_
        refine y_dup (pc := 34) C dX9_sure_34 rfl ?_
        refine y_geti (pc := 35) C faX9_198 rfl hx0 dX9_sure_35 ?_
        refine y_iconst (pc := 38) (v := (1 : Int32)) C dX9_sure_38 (by decide) ?_
        refine y_iadd (pc := 39) C dX9_sure_39 ?_
        obtain ⟨σ106, eσ106, h⟩ := nmS h
        refine y_puti (pc := 40) C fpX9_198 rfl hx0 rfl rfl dX9_sure_40 ?_
        rw [← eσ106]
        refine y_aload_n (pc := 43) (q := 0) C dX9_sure_43 rfl rfl ?_
        refine y_getr (pc := 44) C faX9_50 rfl hx0 dX9_sure_44 ?_
        refine y_aload_n (pc := 47) (q := 0) C dX9_sure_47 rfl rfl ?_
        refine y_getr (pc := 48) C faX9_26 rfl hx0 dX9_sure_48 ?_
        obtain ⟨q107, eq107, h⟩ := bdS h
        refine y_callV (pc := 51) (As := [.ref (ad (rf x0 2))]) (rest := []) C (mX3_study (fu := fu) eq107) vwX9_201 rfl (by decide) (rf_7_6 _ hx0) rfl rfl (Nat.le_of_ble_eq_true rfl) ⟨Nat.le_of_ble_eq_true rfl, Nat.le_of_ble_eq_true rfl⟩ ⟨Nat.le_refl _, Nat.le_refl _⟩ dX9_sure_51 ?_
        show Y _ _ _ _ _ _ _ _ _ _ _ _ _ _ _ _ _ _ q107 54 [(0, .ref (ad x0)), (1, .int x1)] []
        refine y_aload_n (pc := 54) (q := 0) C dX9_sure_54 rfl rfl ?_
        refine y_getr (pc := 55) C faX9_50 rfl hx0 dX9_sure_55 ?_
        refine y_iload_n (pc := 58) (q := 1) C dX9_sure_58 rfl rfl ?_
        obtain ⟨q108, eq108, h⟩ := bdS h
        refine y_callV (pc := 59) (As := [.int x1]) (rest := []) C (mX3_surePlaceOf (fu := fu) eq108) vwX9_208 rfl (by decide) (rf_7_6 _ hx0) rfl rfl (Nat.le_of_ble_eq_true rfl) ⟨Nat.le_of_ble_eq_true rfl, Nat.le_of_ble_eq_true rfl⟩ ⟨Nat.le_refl _, Nat.le_refl _⟩ dX9_sure_59 ?_
        show Y _ _ _ _ _ _ _ _ _ _ _ _ _ _ _ _ _ _ q108.2 62 [(0, .ref (ad x0)), (1, .int x1)] [.int q108.1]
        cases h
        exact y_iret (pc := 62) C dX9_sure_62
      · rw [if_neg c105] at h
        exact tX9_sure_30 (fu := fu) C hx0 h
  · rw [if_pos c102] at h
    refine y_bipush (pc := 11) (v := (-101 : Int32)) C dX9_sure_11 (by decide) ?_
    cases h
    exact y_iret (pc := 13) C dX9_sure_13
noncomputable def fX9_sure (fu : Nat) (x0 : Nat) (x1 : Int32) (σ : St) : Option (Int32 × St) := if xk x0 = 7 then fX9_sure_0 fu x0 x1 σ else none
theorem mX9_sure {l : Launch} {D : va_G} {cA : ClassId} {bs fu : Nat} {ad : Nat → Nat} {x0 : Nat} {x1 : Int32} {σ : St} {q : Int32 × St} (h : fX9_sure fu x0 x1 σ = some q) : Ct l D cA bs ad yX9_sure cX9_sure 2 (some .int) 5 114 [.ref (ad x0), .int x1] σ (some (.int q.1)) q.2 := by
  unfold fX9_sure at h
  by_cases hx0 : xk x0 = 7
  case neg => rw [if_neg hx0] at h; cases h
  rw [if_pos hx0] at h
  exact Ct.of (by decide) (Nat.le_of_ble_eq_true rfl) (fun p e s m args below meth c C => tX9_sure_0 (fu := fu) C hx0 h)
noncomputable def fX9_springs_29 (fu : Nat) (x0 : Nat) (x1 : Int32) (x2 : Int32) (σ : St) : Option (Int32 × St) :=
  some ((-102 : Int32), σ)
set_option maxHeartbeats 4000000 in
set_option maxRecDepth 100000 in
theorem tX9_springs_29 {l : Launch} {D : va_G} {cA : ClassId} {bs : Nat} {ad : Nat → Nat} {p : Program} {e : Env} {s : State} {m : MethodId} {args : Array Value} {below : List Frame} {meth : Method} {c : Code} {fu : Nat} (C : Cx D cA bs ad RX9 cX9_springs 3 (some .int) p s m args meth c) {x0 : Nat} {x1 : Int32} {x2 : Int32} {q : Int32 × St} (hx0 : xk x0 = 7) {σ : St} (h : fX9_springs_29 fu x0 x1 x2 σ = some q) : Y D cA bs ad p l e (rmY 6 146) s m args below meth c 3 0 0 (QM D cA bs ad below args s (some (.int q.1)) q.2) σ 29 [(0, .ref (ad x0)), (1, .int x1), (2, .int x2)] [] := by
  unfold fX9_springs_29 at h
  refine y_bipush (pc := 29) (v := (-102 : Int32)) C dX9_springs_29 (by decide) ?_
  cases h
  exact y_iret (pc := 31) C dX9_springs_31
noncomputable def fX9_springs_0 (fu : Nat) (x0 : Nat) (x1 : Int32) (x2 : Int32) (σ : St) : Option (Int32 × St) :=
  (fX9_isTooShort fu x0 σ).bind fun (q101 : Int32 × St) =>
  if q101.1 = 0 then
    (fX9_isWithin fu x1 (1 : Int32) (12 : Int32) q101.2).bind fun (q103 : Int32 × St) =>
    if q103.1 = 0 then
      fX9_springs_29 fu x0 x1 x2 q103.2
    else
      (fX9_isWithin fu x2 (0 : Int32) (2 : Int32) q103.2).bind fun (q105 : Int32 × St) =>
      if q105.1 = 0 then
        fX9_springs_29 fu x0 x1 x2 q105.2
      else
        if (q105.2.1 x0 12) < (10 : Int32) then
          nm (si q105.2 x0 12 ((q105.2.1 x0 12) + (1 : Int32))) fun (σ108 : St) =>
          (fX2_run fu (rf x0 7) (rf x0 2) (rf x0 1) (rf x0 5) x1 σ108).bind fun (q109 : St) =>
          (fX2_told fu (rf x0 7) x2 q109).bind fun (q110 : Int32 × St) =>
          some (q110.1, q110.2)
        else
          some ((-103 : Int32), q105.2)
  else
    some ((-103 : Int32), q101.2)
set_option maxHeartbeats 4000000 in
set_option maxRecDepth 100000 in
theorem tX9_springs_0 {l : Launch} {D : va_G} {cA : ClassId} {bs : Nat} {ad : Nat → Nat} {p : Program} {e : Env} {s : State} {m : MethodId} {args : Array Value} {below : List Frame} {meth : Method} {c : Code} {fu : Nat} (C : Cx D cA bs ad RX9 cX9_springs 3 (some .int) p s m args meth c) {x0 : Nat} {x1 : Int32} {x2 : Int32} {q : Int32 × St} (hx0 : xk x0 = 7) {σ : St} (h : fX9_springs_0 fu x0 x1 x2 σ = some q) : Y D cA bs ad p l e (rmY 6 146) s m args below meth c 3 0 0 (QM D cA bs ad below args s (some (.int q.1)) q.2) σ 0 [(0, .ref (ad x0)), (1, .int x1), (2, .int x2)] [] := by
  unfold fX9_springs_0 at h
  refine y_aload_n (pc := 0) (q := 0) C dX9_springs_0 rfl rfl ?_
  obtain ⟨q101, eq101, h⟩ := bdS h
  refine y_callV (pc := 1) (As := []) (rest := []) C (mX9_isTooShort (fu := fu) eq101) vwX9_139 rfl (by decide) hx0 rfl rfl (Nat.le_of_ble_eq_true rfl) ⟨Nat.le_of_ble_eq_true rfl, Nat.le_of_ble_eq_true rfl⟩ ⟨Nat.le_refl _, Nat.le_refl _⟩ dX9_springs_1 ?_
  show Y _ _ _ _ _ _ _ _ _ _ _ _ _ _ _ _ _ _ q101.2 4 [(0, .ref (ad x0)), (1, .int x1), (2, .int x2)] [.int q101.1]
  refine y_if_eq (pc := 4) (tgt := 10) C dX9_springs_4 (by decide) (fun c102 => ?_) (fun c102 => ?_)
  · rw [if_pos c102] at h
    refine y_iload_n (pc := 10) (q := 1) C dX9_springs_10 rfl rfl ?_
    refine y_iconst (pc := 11) (v := (1 : Int32)) C dX9_springs_11 (by decide) ?_
    refine y_bipush (pc := 12) (v := (12 : Int32)) C dX9_springs_12 (by decide) ?_
    obtain ⟨q103, eq103, h⟩ := bdS h
    refine y_callS (pc := 14) (As := [.int x1, .int (1 : Int32), .int (12 : Int32)]) (rest := []) C (mX9_isWithin (fu := fu) eq103) vwX9_91 rfl rfl (Nat.le_of_ble_eq_true rfl) ⟨Nat.le_of_ble_eq_true rfl, Nat.le_of_ble_eq_true rfl⟩ ⟨Nat.le_refl _, Nat.le_refl _⟩ dX9_springs_14 ?_
    show Y _ _ _ _ _ _ _ _ _ _ _ _ _ _ _ _ _ _ q103.2 17 [(0, .ref (ad x0)), (1, .int x1), (2, .int x2)] [.int q103.1]
    refine y_if_eq (pc := 17) (tgt := 29) C dX9_springs_17 (by decide) (fun c104 => ?_) (fun c104 => ?_)
    · rw [if_pos c104] at h
      exact tX9_springs_29 (fu := fu) C hx0 h
    · rw [if_neg c104] at h
      refine y_iload_n (pc := 20) (q := 2) C dX9_springs_20 rfl rfl ?_
      refine y_iconst (pc := 21) (v := (0 : Int32)) C dX9_springs_21 (by decide) ?_
      refine y_iconst (pc := 22) (v := (2 : Int32)) C dX9_springs_22 (by decide) ?_
      obtain ⟨q105, eq105, h⟩ := bdS h
      refine y_callS (pc := 23) (As := [.int x2, .int (0 : Int32), .int (2 : Int32)]) (rest := []) C (mX9_isWithin (fu := fu) eq105) vwX9_91 rfl rfl (Nat.le_of_ble_eq_true rfl) ⟨Nat.le_of_ble_eq_true rfl, Nat.le_of_ble_eq_true rfl⟩ ⟨Nat.le_refl _, Nat.le_refl _⟩ dX9_springs_23 ?_
      show Y _ _ _ _ _ _ _ _ _ _ _ _ _ _ _ _ _ _ q105.2 26 [(0, .ref (ad x0)), (1, .int x1), (2, .int x2)] [.int q105.1]
      refine y_if_ne (pc := 26) (tgt := 32) C dX9_springs_26 (by decide) (fun c106 => ?_) (fun c106 => ?_)
      · rw [if_neg c106] at h
        refine y_aload_n (pc := 32) (q := 0) C dX9_springs_32 rfl rfl ?_
        refine y_geti (pc := 33) C faX9_211 rfl hx0 dX9_springs_33 ?_
        refine y_bipush (pc := 36) (v := (10 : Int32)) C dX9_springs_36 (by decide) ?_
        refine y_icmp_lt (pc := 38) (tgt := 44) C dX9_springs_38 (by decide) (fun c107 => ?_) (fun c107 => ?_)
        · rw [if_pos c107] at h
          refine y_aload_n (pc := 44) (q := 0) C dX9_springs_44 rfl rfl ?_
          refine y_dup (pc := 45) C dX9_springs_45 rfl ?_
          refine y_geti (pc := 46) C faX9_211 rfl hx0 dX9_springs_46 ?_
          refine y_iconst (pc := 49) (v := (1 : Int32)) C dX9_springs_49 (by decide) ?_
          refine y_iadd (pc := 50) C dX9_springs_50 ?_
          obtain ⟨σ108, eσ108, h⟩ := nmS h
          refine y_puti (pc := 51) C fpX9_211 rfl hx0 rfl rfl dX9_springs_51 ?_
          rw [← eσ108]
          refine y_aload_n (pc := 54) (q := 0) C dX9_springs_54 rfl rfl ?_
          refine y_getr (pc := 55) C faX9_57 rfl hx0 dX9_springs_55 ?_
          refine y_aload_n (pc := 58) (q := 0) C dX9_springs_58 rfl rfl ?_
          refine y_getr (pc := 59) C faX9_26 rfl hx0 dX9_springs_59 ?_
          refine y_aload_n (pc := 62) (q := 0) C dX9_springs_62 rfl rfl ?_
          refine y_getr (pc := 63) C faX9_19 rfl hx0 dX9_springs_63 ?_
          refine y_aload_n (pc := 66) (q := 0) C dX9_springs_66 rfl rfl ?_
          refine y_getr (pc := 67) C faX9_43 rfl hx0 dX9_springs_67 ?_
          refine y_iload_n (pc := 70) (q := 1) C dX9_springs_70 rfl rfl ?_
          obtain ⟨q109, eq109, h⟩ := bdS h
          refine y_callV (pc := 71) (As := [.ref (ad (rf x0 2)), .ref (ad (rf x0 1)), .ref (ad (rf x0 5)), .int x1]) (rest := []) C (mX2_run (fu := fu) eq109) vwX9_214 rfl (by decide) (rf_7_7 _ hx0) rfl rfl (Nat.le_of_ble_eq_true rfl) ⟨Nat.le_of_ble_eq_true rfl, Nat.le_of_ble_eq_true rfl⟩ ⟨Nat.le_refl _, Nat.le_refl _⟩ dX9_springs_71 ?_
          show Y _ _ _ _ _ _ _ _ _ _ _ _ _ _ _ _ _ _ q109 74 [(0, .ref (ad x0)), (1, .int x1), (2, .int x2)] []
          refine y_aload_n (pc := 74) (q := 0) C dX9_springs_74 rfl rfl ?_
          refine y_getr (pc := 75) C faX9_57 rfl hx0 dX9_springs_75 ?_
          refine y_iload_n (pc := 78) (q := 2) C dX9_springs_78 rfl rfl ?_
          obtain ⟨q110, eq110, h⟩ := bdS h
          refine y_callV (pc := 79) (As := [.int x2]) (rest := []) C (mX2_told (fu := fu) eq110) vwX9_218 rfl (by decide) (rf_7_7 _ hx0) rfl rfl (Nat.le_of_ble_eq_true rfl) ⟨Nat.le_of_ble_eq_true rfl, Nat.le_of_ble_eq_true rfl⟩ ⟨Nat.le_refl _, Nat.le_refl _⟩ dX9_springs_79 ?_
          show Y _ _ _ _ _ _ _ _ _ _ _ _ _ _ _ _ _ _ q110.2 82 [(0, .ref (ad x0)), (1, .int x1), (2, .int x2)] [.int q110.1]
          cases h
          exact y_iret (pc := 82) C dX9_springs_82
        · rw [if_neg c107] at h
          refine y_bipush (pc := 41) (v := (-103 : Int32)) C dX9_springs_41 (by decide) ?_
          cases h
          exact y_iret (pc := 43) C dX9_springs_43
      · rw [if_pos c106] at h
        exact tX9_springs_29 (fu := fu) C hx0 h
  · rw [if_neg c102] at h
    refine y_bipush (pc := 7) (v := (-103 : Int32)) C dX9_springs_7 (by decide) ?_
    cases h
    exact y_iret (pc := 9) C dX9_springs_9
noncomputable def fX9_springs (fu : Nat) (x0 : Nat) (x1 : Int32) (x2 : Int32) (σ : St) : Option (Int32 × St) := if xk x0 = 7 then fX9_springs_0 fu x0 x1 x2 σ else none
theorem mX9_springs {l : Launch} {D : va_G} {cA : ClassId} {bs fu : Nat} {ad : Nat → Nat} {x0 : Nat} {x1 : Int32} {x2 : Int32} {σ : St} {q : Int32 × St} (h : fX9_springs fu x0 x1 x2 σ = some q) : Ct l D cA bs ad yX9_springs cX9_springs 3 (some .int) 6 146 [.ref (ad x0), .int x1, .int x2] σ (some (.int q.1)) q.2 := by
  unfold fX9_springs at h
  by_cases hx0 : xk x0 = 7
  case neg => rw [if_neg hx0] at h; cases h
  rw [if_pos hx0] at h
  exact Ct.of (by decide) (Nat.le_of_ble_eq_true rfl) (fun p e s m args below meth c C => tX9_springs_0 (fu := fu) C hx0 h)
noncomputable def fX9_image_0 (fu : Nat) (x0 : Nat) (σ : St) : Option (Int32 × St) :=
  (fX8_copyFrom fu (rf x0 3) (rf x0 2) σ).bind fun (q101 : St) =>
  nm (si q101 x0 8 (1 : Int32)) fun (σ102 : St) =>
  (fX8_size fu (rf x0 2) σ102).bind fun (q103 : Int32 × St) =>
  some (q103.1, q103.2)
set_option maxHeartbeats 4000000 in
set_option maxRecDepth 100000 in
theorem tX9_image_0 {l : Launch} {D : va_G} {cA : ClassId} {bs : Nat} {ad : Nat → Nat} {p : Program} {e : Env} {s : State} {m : MethodId} {args : Array Value} {below : List Frame} {meth : Method} {c : Code} {fu : Nat} (C : Cx D cA bs ad RX9 cX9_image 1 (some .int) p s m args meth c) {x0 : Nat} {q : Int32 × St} (hx0 : xk x0 = 7) {σ : St} (h : fX9_image_0 fu x0 σ = some q) : Y D cA bs ad p l e (rmY 2 39) s m args below meth c 1 0 0 (QM D cA bs ad below args s (some (.int q.1)) q.2) σ 0 [(0, .ref (ad x0))] [] := by
  unfold fX9_image_0 at h
  refine y_aload_n (pc := 0) (q := 0) C dX9_image_0 rfl rfl ?_
  refine y_getr (pc := 1) C faX9_30 rfl hx0 dX9_image_1 ?_
  refine y_aload_n (pc := 4) (q := 0) C dX9_image_4 rfl rfl ?_
  refine y_getr (pc := 5) C faX9_26 rfl hx0 dX9_image_5 ?_
  obtain ⟨q101, eq101, h⟩ := bdS h
  refine y_callV (pc := 8) (As := [.ref (ad (rf x0 2))]) (rest := []) C (mX8_copyFrom (fu := fu) eq101) vwX9_219 rfl (by decide) (rf_7_3 _ hx0) rfl rfl (Nat.le_of_ble_eq_true rfl) ⟨Nat.le_of_ble_eq_true rfl, Nat.le_of_ble_eq_true rfl⟩ ⟨Nat.le_refl _, Nat.le_refl _⟩ dX9_image_8 ?_
  show Y _ _ _ _ _ _ _ _ _ _ _ _ _ _ _ _ _ _ q101 11 [(0, .ref (ad x0))] []
  refine y_aload_n (pc := 11) (q := 0) C dX9_image_11 rfl rfl ?_
  refine y_iconst (pc := 12) (v := (1 : Int32)) C dX9_image_12 (by decide) ?_
  obtain ⟨σ102, eσ102, h⟩ := nmS h
  refine y_puti (pc := 13) C fpX9_222 rfl hx0 rfl rfl dX9_image_13 ?_
  rw [← eσ102]
  refine y_aload_n (pc := 16) (q := 0) C dX9_image_16 rfl rfl ?_
  refine y_getr (pc := 17) C faX9_26 rfl hx0 dX9_image_17 ?_
  obtain ⟨q103, eq103, h⟩ := bdS h
  refine y_callV (pc := 20) (As := []) (rest := []) C (mX8_size (fu := fu) eq103) vwX9_133 rfl (by decide) (rf_7_2 _ hx0) rfl rfl (Nat.le_of_ble_eq_true rfl) ⟨Nat.le_of_ble_eq_true rfl, Nat.le_of_ble_eq_true rfl⟩ ⟨Nat.le_refl _, Nat.le_refl _⟩ dX9_image_20 ?_
  show Y _ _ _ _ _ _ _ _ _ _ _ _ _ _ _ _ _ _ q103.2 23 [(0, .ref (ad x0))] [.int q103.1]
  cases h
  exact y_iret (pc := 23) C dX9_image_23
noncomputable def fX9_image (fu : Nat) (x0 : Nat) (σ : St) : Option (Int32 × St) := if xk x0 = 7 then fX9_image_0 fu x0 σ else none
theorem mX9_image {l : Launch} {D : va_G} {cA : ClassId} {bs fu : Nat} {ad : Nat → Nat} {x0 : Nat} {σ : St} {q : Int32 × St} (h : fX9_image fu x0 σ = some q) : Ct l D cA bs ad yX9_image cX9_image 1 (some .int) 2 39 [.ref (ad x0)] σ (some (.int q.1)) q.2 := by
  unfold fX9_image at h
  by_cases hx0 : xk x0 = 7
  case neg => rw [if_neg hx0] at h; cases h
  rw [if_pos hx0] at h
  exact Ct.of (by decide) (Nat.le_of_ble_eq_true rfl) (fun p e s m args below meth c C => tX9_image_0 (fu := fu) C hx0 h)
noncomputable def fX9_restore_0 (fu : Nat) (x0 : Nat) (σ : St) : Option (Int32 × St) :=
  if (σ.1 x0 8) = 0 then
    some ((-103 : Int32), σ)
  else
    (fX8_copyFrom fu (rf x0 2) (rf x0 3) σ).bind fun (q102 : St) =>
    (fX8_size fu (rf x0 2) q102).bind fun (q103 : Int32 × St) =>
    some (q103.1, q103.2)
set_option maxHeartbeats 4000000 in
set_option maxRecDepth 100000 in
theorem tX9_restore_0 {l : Launch} {D : va_G} {cA : ClassId} {bs : Nat} {ad : Nat → Nat} {p : Program} {e : Env} {s : State} {m : MethodId} {args : Array Value} {below : List Frame} {meth : Method} {c : Code} {fu : Nat} (C : Cx D cA bs ad RX9 cX9_restore 1 (some .int) p s m args meth c) {x0 : Nat} {q : Int32 × St} (hx0 : xk x0 = 7) {σ : St} (h : fX9_restore_0 fu x0 σ = some q) : Y D cA bs ad p l e (rmY 2 39) s m args below meth c 1 0 0 (QM D cA bs ad below args s (some (.int q.1)) q.2) σ 0 [(0, .ref (ad x0))] [] := by
  unfold fX9_restore_0 at h
  refine y_aload_n (pc := 0) (q := 0) C dX9_restore_0 rfl rfl ?_
  refine y_geti (pc := 1) C faX9_222 rfl hx0 dX9_restore_1 ?_
  refine y_if_ne (pc := 4) (tgt := 10) C dX9_restore_4 (by decide) (fun c101 => ?_) (fun c101 => ?_)
  · rw [if_neg c101] at h
    refine y_aload_n (pc := 10) (q := 0) C dX9_restore_10 rfl rfl ?_
    refine y_getr (pc := 11) C faX9_26 rfl hx0 dX9_restore_11 ?_
    refine y_aload_n (pc := 14) (q := 0) C dX9_restore_14 rfl rfl ?_
    refine y_getr (pc := 15) C faX9_30 rfl hx0 dX9_restore_15 ?_
    obtain ⟨q102, eq102, h⟩ := bdS h
    refine y_callV (pc := 18) (As := [.ref (ad (rf x0 3))]) (rest := []) C (mX8_copyFrom (fu := fu) eq102) vwX9_219 rfl (by decide) (rf_7_2 _ hx0) rfl rfl (Nat.le_of_ble_eq_true rfl) ⟨Nat.le_of_ble_eq_true rfl, Nat.le_of_ble_eq_true rfl⟩ ⟨Nat.le_refl _, Nat.le_refl _⟩ dX9_restore_18 ?_
    show Y _ _ _ _ _ _ _ _ _ _ _ _ _ _ _ _ _ _ q102 21 [(0, .ref (ad x0))] []
    refine y_aload_n (pc := 21) (q := 0) C dX9_restore_21 rfl rfl ?_
    refine y_getr (pc := 22) C faX9_26 rfl hx0 dX9_restore_22 ?_
    obtain ⟨q103, eq103, h⟩ := bdS h
    refine y_callV (pc := 25) (As := []) (rest := []) C (mX8_size (fu := fu) eq103) vwX9_133 rfl (by decide) (rf_7_2 _ hx0) rfl rfl (Nat.le_of_ble_eq_true rfl) ⟨Nat.le_of_ble_eq_true rfl, Nat.le_of_ble_eq_true rfl⟩ ⟨Nat.le_refl _, Nat.le_refl _⟩ dX9_restore_25 ?_
    show Y _ _ _ _ _ _ _ _ _ _ _ _ _ _ _ _ _ _ q103.2 28 [(0, .ref (ad x0))] [.int q103.1]
    cases h
    exact y_iret (pc := 28) C dX9_restore_28
  · rw [if_pos c101] at h
    refine y_bipush (pc := 7) (v := (-103 : Int32)) C dX9_restore_7 (by decide) ?_
    cases h
    exact y_iret (pc := 9) C dX9_restore_9
noncomputable def fX9_restore (fu : Nat) (x0 : Nat) (σ : St) : Option (Int32 × St) := if xk x0 = 7 then fX9_restore_0 fu x0 σ else none
theorem mX9_restore {l : Launch} {D : va_G} {cA : ClassId} {bs fu : Nat} {ad : Nat → Nat} {x0 : Nat} {σ : St} {q : Int32 × St} (h : fX9_restore fu x0 σ = some q) : Ct l D cA bs ad yX9_restore cX9_restore 1 (some .int) 2 39 [.ref (ad x0)] σ (some (.int q.1)) q.2 := by
  unfold fX9_restore at h
  by_cases hx0 : xk x0 = 7
  case neg => rw [if_neg hx0] at h; cases h
  rw [if_pos hx0] at h
  exact Ct.of (by decide) (Nat.le_of_ble_eq_true rfl) (fun p e s m args below meth c C => tX9_restore_0 (fu := fu) C hx0 h)
noncomputable def fX9_count_0 (fu : Nat) (x0 : Nat) (x1 : Int32) (σ : St) : Option (Int32 × St) :=
  if x1 = (0 : Int32) then
    (fX8_size fu (rf x0 2) σ).bind fun (q102 : Int32 × St) =>
    some (q102.1, q102.2)
  else
  if x1 = (1 : Int32) then
    (fX7_length fu (rf x0 0) σ).bind fun (q104 : Int32 × St) =>
    some (q104.1, q104.2)
  else
  if x1 = (2 : Int32) then
    some ((σ.1 x0 9), σ)
  else
  if x1 = (3 : Int32) then
    some ((σ.1 x0 10), σ)
  else
  if x1 = (4 : Int32) then
    some ((σ.1 x0 11), σ)
  else
  if x1 = (5 : Int32) then
    some ((σ.1 x0 12), σ)
  else
  if x1 = (6 : Int32) then
    (fX8_wheelsInUse fu (rf x0 2) σ).bind fun (q110 : Int32 × St) =>
    some (q110.1, q110.2)
  else
  some ((-102 : Int32), σ)
set_option maxHeartbeats 4000000 in
set_option maxRecDepth 100000 in
theorem tX9_count_0 {l : Launch} {D : va_G} {cA : ClassId} {bs : Nat} {ad : Nat → Nat} {p : Program} {e : Env} {s : State} {m : MethodId} {args : Array Value} {below : List Frame} {meth : Method} {c : Code} {fu : Nat} (C : Cx D cA bs ad RX9 cX9_count 2 (some .int) p s m args meth c) {x0 : Nat} {x1 : Int32} {q : Int32 × St} (hx0 : xk x0 = 7) {σ : St} (h : fX9_count_0 fu x0 x1 σ = some q) : Y D cA bs ad p l e (rmY 1 22) s m args below meth c 2 0 0 (QM D cA bs ad below args s (some (.int q.1)) q.2) σ 0 [(0, .ref (ad x0)), (1, .int x1)] [] := by
  unfold fX9_count_0 at h
  refine y_iload_n (pc := 0) (q := 1) C dX9_count_0 rfl rfl ?_
  by_cases c101 : x1 = (0 : Int32)
  · rw [if_pos c101] at h
    refine y_tabI (pc := 1) (tgt := 44) (off := 43) C dX9_count_1 (by rw [c101]; decide) (by rw [c101]; decide) (by rw [c101]; decide +kernel) (by decide) ?_
    refine y_aload_n (pc := 44) (q := 0) C dX9_count_44 rfl rfl ?_
    refine y_getr (pc := 45) C faX9_26 rfl hx0 dX9_count_45 ?_
    obtain ⟨q102, eq102, h⟩ := bdS h
    refine y_callV (pc := 48) (As := []) (rest := []) C (mX8_size (fu := fu) eq102) vwX9_133 rfl (by decide) (rf_7_2 _ hx0) rfl rfl (Nat.le_of_ble_eq_true rfl) ⟨Nat.le_of_ble_eq_true rfl, Nat.le_of_ble_eq_true rfl⟩ ⟨Nat.le_refl _, Nat.le_refl _⟩ dX9_count_48 ?_
    show Y _ _ _ _ _ _ _ _ _ _ _ _ _ _ _ _ _ _ q102.2 51 [(0, .ref (ad x0)), (1, .int x1)] [.int q102.1]
    cases h
    exact y_iret (pc := 51) C dX9_count_51
  rw [if_neg c101] at h
  by_cases c103 : x1 = (1 : Int32)
  · rw [if_pos c103] at h
    refine y_tabI (pc := 1) (tgt := 52) (off := 51) C dX9_count_1 (by rw [c103]; decide) (by rw [c103]; decide) (by rw [c103]; decide +kernel) (by decide) ?_
    refine y_aload_n (pc := 52) (q := 0) C dX9_count_52 rfl rfl ?_
    refine y_getr (pc := 53) C faX9_10 rfl hx0 dX9_count_53 ?_
    obtain ⟨q104, eq104, h⟩ := bdS h
    refine y_callV (pc := 56) (As := []) (rest := []) C (mX7_length (fu := fu) eq104) vwX9_65 rfl (by decide) (rf_7_0 _ hx0) rfl rfl (Nat.le_of_ble_eq_true rfl) ⟨Nat.le_of_ble_eq_true rfl, Nat.le_of_ble_eq_true rfl⟩ ⟨Nat.le_refl _, Nat.le_refl _⟩ dX9_count_56 ?_
    show Y _ _ _ _ _ _ _ _ _ _ _ _ _ _ _ _ _ _ q104.2 59 [(0, .ref (ad x0)), (1, .int x1)] [.int q104.1]
    cases h
    exact y_iret (pc := 59) C dX9_count_59
  rw [if_neg c103] at h
  by_cases c105 : x1 = (2 : Int32)
  · rw [if_pos c105] at h
    refine y_tabI (pc := 1) (tgt := 60) (off := 59) C dX9_count_1 (by rw [c105]; decide) (by rw [c105]; decide) (by rw [c105]; decide +kernel) (by decide) ?_
    refine y_aload_n (pc := 60) (q := 0) C dX9_count_60 rfl rfl ?_
    refine y_geti (pc := 61) C faX9_87 rfl hx0 dX9_count_61 ?_
    cases h
    exact y_iret (pc := 64) C dX9_count_64
  rw [if_neg c105] at h
  by_cases c106 : x1 = (3 : Int32)
  · rw [if_pos c106] at h
    refine y_tabI (pc := 1) (tgt := 65) (off := 64) C dX9_count_1 (by rw [c106]; decide) (by rw [c106]; decide) (by rw [c106]; decide +kernel) (by decide) ?_
    refine y_aload_n (pc := 65) (q := 0) C dX9_count_65 rfl rfl ?_
    refine y_geti (pc := 66) C faX9_162 rfl hx0 dX9_count_66 ?_
    cases h
    exact y_iret (pc := 69) C dX9_count_69
  rw [if_neg c106] at h
  by_cases c107 : x1 = (4 : Int32)
  · rw [if_pos c107] at h
    refine y_tabI (pc := 1) (tgt := 70) (off := 69) C dX9_count_1 (by rw [c107]; decide) (by rw [c107]; decide) (by rw [c107]; decide +kernel) (by decide) ?_
    refine y_aload_n (pc := 70) (q := 0) C dX9_count_70 rfl rfl ?_
    refine y_geti (pc := 71) C faX9_198 rfl hx0 dX9_count_71 ?_
    cases h
    exact y_iret (pc := 74) C dX9_count_74
  rw [if_neg c107] at h
  by_cases c108 : x1 = (5 : Int32)
  · rw [if_pos c108] at h
    refine y_tabI (pc := 1) (tgt := 75) (off := 74) C dX9_count_1 (by rw [c108]; decide) (by rw [c108]; decide) (by rw [c108]; decide +kernel) (by decide) ?_
    refine y_aload_n (pc := 75) (q := 0) C dX9_count_75 rfl rfl ?_
    refine y_geti (pc := 76) C faX9_211 rfl hx0 dX9_count_76 ?_
    cases h
    exact y_iret (pc := 79) C dX9_count_79
  rw [if_neg c108] at h
  by_cases c109 : x1 = (6 : Int32)
  · rw [if_pos c109] at h
    refine y_tabI (pc := 1) (tgt := 80) (off := 79) C dX9_count_1 (by rw [c109]; decide) (by rw [c109]; decide) (by rw [c109]; decide +kernel) (by decide) ?_
    refine y_aload_n (pc := 80) (q := 0) C dX9_count_80 rfl rfl ?_
    refine y_getr (pc := 81) C faX9_26 rfl hx0 dX9_count_81 ?_
    obtain ⟨q110, eq110, h⟩ := bdS h
    refine y_callV (pc := 84) (As := []) (rest := []) C (mX8_wheelsInUse (fu := fu) eq110) vwX9_226 rfl (by decide) (rf_7_2 _ hx0) rfl rfl (Nat.le_of_ble_eq_true rfl) ⟨Nat.le_of_ble_eq_true rfl, Nat.le_of_ble_eq_true rfl⟩ ⟨Nat.le_refl _, Nat.le_refl _⟩ dX9_count_84 ?_
    show Y _ _ _ _ _ _ _ _ _ _ _ _ _ _ _ _ _ _ q110.2 87 [(0, .ref (ad x0)), (1, .int x1)] [.int q110.1]
    cases h
    exact y_iret (pc := 87) C dX9_count_87
  rw [if_neg c109] at h
  refine y_tabO (pc := 1) (tgt := 88) C dX9_count_1 (by have := lv_neT (a := 0) c101 (by decide); have := lv_neT (a := 1) c103 (by decide); have := lv_neT (a := 2) c105 (by decide); have := lv_neT (a := 3) c106 (by decide); have := lv_neT (a := 4) c107 (by decide); have := lv_neT (a := 5) c108 (by decide); have := lv_neT (a := 6) c109 (by decide); omega) (by decide) ?_
  refine y_bipush (pc := 88) (v := (-102 : Int32)) C dX9_count_88 (by decide) ?_
  cases h
  exact y_iret (pc := 90) C dX9_count_90
noncomputable def fX9_count (fu : Nat) (x0 : Nat) (x1 : Int32) (σ : St) : Option (Int32 × St) := if xk x0 = 7 then fX9_count_0 fu x0 x1 σ else none
theorem mX9_count {l : Launch} {D : va_G} {cA : ClassId} {bs fu : Nat} {ad : Nat → Nat} {x0 : Nat} {x1 : Int32} {σ : St} {q : Int32 × St} (h : fX9_count fu x0 x1 σ = some q) : Ct l D cA bs ad yX9_count cX9_count 2 (some .int) 1 22 [.ref (ad x0), .int x1] σ (some (.int q.1)) q.2 := by
  unfold fX9_count at h
  by_cases hx0 : xk x0 = 7
  case neg => rw [if_neg hx0] at h; cases h
  rw [if_pos hx0] at h
  exact Ct.of (by decide) (Nat.le_of_ble_eq_true rfl) (fun p e s m args below meth c C => tX9_count_0 (fu := fu) C hx0 h)
noncomputable def fX9_mix_0 (fu : Nat) (x0 : Int64) (x2 : Int64) (σ : St) : Option (Int64 × St) :=
  some ((((31 : Int64) * x0) + x2), σ)
set_option maxHeartbeats 4000000 in
set_option maxRecDepth 100000 in
theorem tX9_mix_0 {l : Launch} {D : va_G} {cA : ClassId} {bs : Nat} {ad : Nat → Nat} {p : Program} {e : Env} {s : State} {m : MethodId} {args : Array Value} {below : List Frame} {meth : Method} {c : Code} {fu : Nat} (C : Cx D cA bs ad RX9 cX9_mix 4 (some .long) p s m args meth c) {x0 : Int64} {x2 : Int64} {q : Int64 × St} {σ : St} (h : fX9_mix_0 fu x0 x2 σ = some q) : Y D cA bs ad p l e (rmY 0 0) s m args below meth c 4 0 0 (QM D cA bs ad below args s (some (.long q.1)) q.2) σ 0 [(0, .long x0), (2, .long x2)] [] := by
  unfold fX9_mix_0 at h
  refine y_ldc2 (pc := 0) C dX9_mix_0 cwX9_254 ?_
  refine y_lload_n (pc := 3) (q := 0) C dX9_mix_3 rfl rfl ?_
  refine y_lmul (pc := 4) C dX9_mix_4 ?_
  refine y_lload_n (pc := 5) (q := 1) C dX9_mix_5 rfl rfl ?_
  refine y_ladd (pc := 6) C dX9_mix_6 ?_
  cases h
  exact y_lret (pc := 7) C dX9_mix_7
noncomputable def fX9_mix (fu : Nat) (x0 : Int64) (x2 : Int64) (σ : St) : Option (Int64 × St) := fX9_mix_0 fu x0 x2 σ
theorem mX9_mix {l : Launch} {D : va_G} {cA : ClassId} {bs fu : Nat} {ad : Nat → Nat} {x0 : Int64} {x2 : Int64} {σ : St} {q : Int64 × St} (h : fX9_mix fu x0 x2 σ = some q) : Ct l D cA bs ad yX9_mix cX9_mix 4 (some .long) 0 0 [.long x0, .long x2] σ (some (.long q.1)) q.2 := by
  unfold fX9_mix at h
  exact Ct.of (by decide) (Nat.le_of_ble_eq_true rfl) (fun p e s m args below meth c C => tX9_mix_0 (fu := fu) C h)
noncomputable def fX9_mixBlocks_20b (fu : Nat) (k5 : Int64 → Int32 → St → Option (Int64 × St)) (k20 : Int64 → Int32 → Int32 → St → Option (Int64 × St)) (x0 : Nat) (x1 : Int64) (x3 : Int64) (x5 : Int32) (x6 : Int32) (σ : St) : Option (Int64 × St) :=
  if (4 : Int32) < x6 then
    nm (x5 + (1 : Int32)) fun (y102 : Int32) =>
    k5 x3 y102 σ
  else
    (fX8_told fu (rf x0 2) x5 x6 σ).bind fun (q103 : Int32 × St) =>
    (fX9_mix fu x3 q103.1.toInt64 q103.2).bind fun (q104 : Int64 × St) =>
    nm (x6 + (1 : Int32)) fun (y105 : Int32) =>
    k20 q104.1 x5 y105 q104.2
set_option maxHeartbeats 4000000 in
set_option maxRecDepth 100000 in
theorem tX9_mixBlocks_20b {l : Launch} {D : va_G} {cA : ClassId} {bs : Nat} {ad : Nat → Nat} {p : Program} {e : Env} {s : State} {m : MethodId} {args : Array Value} {below : List Frame} {meth : Method} {c : Code} {fu : Nat} (C : Cx D cA bs ad RX9 cX9_mixBlocks 7 (some .long) p s m args meth c) {k5 : Int64 → Int32 → St → Option (Int64 × St)} {k20 : Int64 → Int32 → Int32 → St → Option (Int64 × St)} {x0 : Nat} {x1 : Int64} {x3 : Int64} {x5 : Int32} {x6 : Int32} {q : Int64 × St} (hx0 : xk x0 = 7) (hk5 : ∀ (x3 : Int64) (x5 : Int32) (σ : St), k5 x3 x5 σ = some q → Y D cA bs ad p l e (rmY 1 23) s m args below meth c 7 0 0 (QM D cA bs ad below args s (some (.long q.1)) q.2) σ 5 [(0, .ref (ad x0)), (1, .long x1), (3, .long x3), (5, .int x5)] []) (hk20 : ∀ (x3 : Int64) (x5 : Int32) (x6 : Int32) (σ : St), k20 x3 x5 x6 σ = some q → Y D cA bs ad p l e (rmY 1 23) s m args below meth c 7 0 0 (QM D cA bs ad below args s (some (.long q.1)) q.2) σ 20 [(0, .ref (ad x0)), (1, .long x1), (3, .long x3), (5, .int x5), (6, .int x6)] []) {σ : St} (h : fX9_mixBlocks_20b fu k5 k20 x0 x1 x3 x5 x6 σ = some q) : Y D cA bs ad p l e (rmY 1 23) s m args below meth c 7 0 0 (QM D cA bs ad below args s (some (.long q.1)) q.2) σ 20 [(0, .ref (ad x0)), (1, .long x1), (3, .long x3), (5, .int x5), (6, .int x6)] [] := by
  unfold fX9_mixBlocks_20b at h
  refine y_iload (pc := 20) (q := 4) C dX9_mixBlocks_20 rfl ?_
  refine y_iconst (pc := 22) (v := (4 : Int32)) C dX9_mixBlocks_22 (by decide) ?_
  refine y_icmp_gt (pc := 23) (tgt := 49) C dX9_mixBlocks_23 (by decide) (fun c101 => ?_) (fun c101 => ?_)
  · rw [if_pos c101] at h
    obtain ⟨y102, ey102, h⟩ := nmS h
    refine y_iinc (pc := 49) (v := y102) (k := 3) (lv' := [(5, .int y102), (0, .ref (ad x0)), (1, .long x1), (3, .long x3), (6, .int x6)]) C dX9_mixBlocks_49 rfl (by rw [ey102]; rfl) (by decide) rfl ?_
    refine y_goto (pc := 52) (tgt := 5) C dX9_mixBlocks_52 (by decide) ?_
    refine y_sub [1, 2, 3, 0] (lv' := [(0, .ref (ad x0)), (1, .long x1), (3, .long x3), (5, .int y102)]) rfl ?_
    exact hk5 _ _ _ h
  · rw [if_neg c101] at h
    refine y_lload_n (pc := 26) (q := 2) C dX9_mixBlocks_26 rfl rfl ?_
    refine y_aload_n (pc := 27) (q := 0) C dX9_mixBlocks_27 rfl rfl ?_
    refine y_getr (pc := 28) C faX9_26 rfl hx0 dX9_mixBlocks_28 ?_
    refine y_iload (pc := 31) (q := 3) C dX9_mixBlocks_31 rfl ?_
    refine y_iload (pc := 33) (q := 4) C dX9_mixBlocks_33 rfl ?_
    obtain ⟨q103, eq103, h⟩ := bdS h
    refine y_callV (pc := 35) (As := [.int x5, .int x6]) (rest := [.long x3]) C (mX8_told (fu := fu) eq103) vwX9_110 rfl (by decide) (rf_7_2 _ hx0) rfl rfl (Nat.le_of_ble_eq_true rfl) ⟨Nat.le_of_ble_eq_true rfl, Nat.le_of_ble_eq_true rfl⟩ ⟨Nat.le_refl _, Nat.le_refl _⟩ dX9_mixBlocks_35 ?_
    show Y _ _ _ _ _ _ _ _ _ _ _ _ _ _ _ _ _ _ q103.2 38 [(0, .ref (ad x0)), (1, .long x1), (3, .long x3), (5, .int x5), (6, .int x6)] [.int q103.1, .long x3]
    refine y_i2l (pc := 38) C dX9_mixBlocks_38 ?_
    obtain ⟨q104, eq104, h⟩ := bdS h
    refine y_callS (pc := 39) (As := [.long x3, .long q103.1.toInt64]) (rest := []) C (mX9_mix (fu := fu) eq104) vwX9_231 rfl rfl (Nat.le_of_ble_eq_true rfl) ⟨Nat.le_of_ble_eq_true rfl, Nat.le_of_ble_eq_true rfl⟩ ⟨Nat.le_refl _, Nat.le_refl _⟩ dX9_mixBlocks_39 ?_
    show Y _ _ _ _ _ _ _ _ _ _ _ _ _ _ _ _ _ _ q104.2 42 [(0, .ref (ad x0)), (1, .long x1), (3, .long x3), (5, .int x5), (6, .int x6)] [.long q104.1]
    refine y_lstore_n (pc := 42) (lv' := [(3, .long q104.1), (0, .ref (ad x0)), (1, .long x1), (5, .int x5), (6, .int x6)]) C dX9_mixBlocks_42 rfl (by decide) rfl ?_
    obtain ⟨y105, ey105, h⟩ := nmS h
    refine y_iinc (pc := 43) (v := y105) (k := 4) (lv' := [(6, .int y105), (3, .long q104.1), (0, .ref (ad x0)), (1, .long x1), (5, .int x5)]) C dX9_mixBlocks_43 rfl (by rw [ey105]; rfl) (by decide) rfl ?_
    refine y_goto (pc := 46) (tgt := 20) C dX9_mixBlocks_46 (by decide) ?_
    refine y_sub [2, 3, 1, 4, 0] (lv' := [(0, .ref (ad x0)), (1, .long x1), (3, .long q104.1), (5, .int x5), (6, .int y105)]) rfl ?_
    exact hk20 _ _ _ _ h
noncomputable def fX9_mixBlocks_20 (fu : Nat) (k5 : Int64 → Int32 → St → Option (Int64 × St)) (x0 : Nat) (x1 : Int64) : Nat → Int64 → Int32 → Int32 → St → Option (Int64 × St) := lp (fun k20 => fX9_mixBlocks_20b fu k5 k20 x0 x1) (fun _ _ _ _ => none)
set_option maxHeartbeats 4000000 in
theorem tX9_mixBlocks_20 {l : Launch} {D : va_G} {cA : ClassId} {bs : Nat} {ad : Nat → Nat} {p : Program} {e : Env} {s : State} {m : MethodId} {args : Array Value} {below : List Frame} {meth : Method} {c : Code} {fu : Nat} (C : Cx D cA bs ad RX9 cX9_mixBlocks 7 (some .long) p s m args meth c) {k5 : Int64 → Int32 → St → Option (Int64 × St)} {x0 : Nat} {x1 : Int64} {q : Int64 × St} (hx0 : xk x0 = 7) (hk5 : ∀ (x3 : Int64) (x5 : Int32) (σ : St), k5 x3 x5 σ = some q → Y D cA bs ad p l e (rmY 1 23) s m args below meth c 7 0 0 (QM D cA bs ad below args s (some (.long q.1)) q.2) σ 5 [(0, .ref (ad x0)), (1, .long x1), (3, .long x3), (5, .int x5)] []) : ∀ (n : Nat) (x3 : Int64) (x5 : Int32) (x6 : Int32) (σ : St), fX9_mixBlocks_20 fu k5 x0 x1 n x3 x5 x6 σ = some q → Y D cA bs ad p l e (rmY 1 23) s m args below meth c 7 0 0 (QM D cA bs ad below args s (some (.long q.1)) q.2) σ 20 [(0, .ref (ad x0)), (1, .long x1), (3, .long x3), (5, .int x5), (6, .int x6)] [] := by
  intro n
  induction n with
  | zero => intro x3 x5 x6 σ h; cases h
  | succ n ih => intro x3 x5 x6 σ h; exact tX9_mixBlocks_20b (fu := fu) C hx0 hk5 ih h
noncomputable def fX9_mixBlocks_5b (fu : Nat) (k5 : Int64 → Int32 → St → Option (Int64 × St)) (x0 : Nat) (x1 : Int64) (x3 : Int64) (x5 : Int32) (σ : St) : Option (Int64 × St) :=
  (fX8_size fu (rf x0 2) σ).bind fun (q101 : Int32 × St) =>
  if q101.1 ≤ x5 then
    some (x3, q101.2)
  else
    fX9_mixBlocks_20 fu k5 x0 x1 fu x3 x5 (0 : Int32) q101.2
set_option maxHeartbeats 4000000 in
set_option maxRecDepth 100000 in
theorem tX9_mixBlocks_5b {l : Launch} {D : va_G} {cA : ClassId} {bs : Nat} {ad : Nat → Nat} {p : Program} {e : Env} {s : State} {m : MethodId} {args : Array Value} {below : List Frame} {meth : Method} {c : Code} {fu : Nat} (C : Cx D cA bs ad RX9 cX9_mixBlocks 7 (some .long) p s m args meth c) {k5 : Int64 → Int32 → St → Option (Int64 × St)} {x0 : Nat} {x1 : Int64} {x3 : Int64} {x5 : Int32} {q : Int64 × St} (hx0 : xk x0 = 7) (hk5 : ∀ (x3 : Int64) (x5 : Int32) (σ : St), k5 x3 x5 σ = some q → Y D cA bs ad p l e (rmY 1 23) s m args below meth c 7 0 0 (QM D cA bs ad below args s (some (.long q.1)) q.2) σ 5 [(0, .ref (ad x0)), (1, .long x1), (3, .long x3), (5, .int x5)] []) {σ : St} (h : fX9_mixBlocks_5b fu k5 x0 x1 x3 x5 σ = some q) : Y D cA bs ad p l e (rmY 1 23) s m args below meth c 7 0 0 (QM D cA bs ad below args s (some (.long q.1)) q.2) σ 5 [(0, .ref (ad x0)), (1, .long x1), (3, .long x3), (5, .int x5)] [] := by
  unfold fX9_mixBlocks_5b at h
  refine y_iload (pc := 5) (q := 3) C dX9_mixBlocks_5 rfl ?_
  refine y_aload_n (pc := 7) (q := 0) C dX9_mixBlocks_7 rfl rfl ?_
  refine y_getr (pc := 8) C faX9_26 rfl hx0 dX9_mixBlocks_8 ?_
  obtain ⟨q101, eq101, h⟩ := bdS h
  refine y_callV (pc := 11) (As := []) (rest := [.int x5]) C (mX8_size (fu := fu) eq101) vwX9_133 rfl (by decide) (rf_7_2 _ hx0) rfl rfl (Nat.le_of_ble_eq_true rfl) ⟨Nat.le_of_ble_eq_true rfl, Nat.le_of_ble_eq_true rfl⟩ ⟨Nat.le_refl _, Nat.le_refl _⟩ dX9_mixBlocks_11 ?_
  show Y _ _ _ _ _ _ _ _ _ _ _ _ _ _ _ _ _ _ q101.2 14 [(0, .ref (ad x0)), (1, .long x1), (3, .long x3), (5, .int x5)] [.int q101.1, .int x5]
  refine y_icmp_ge (pc := 14) (tgt := 55) C dX9_mixBlocks_14 (by decide) (fun c102 => ?_) (fun c102 => ?_)
  · rw [if_pos c102] at h
    refine y_lload_n (pc := 55) (q := 2) C dX9_mixBlocks_55 rfl rfl ?_
    cases h
    exact y_lret (pc := 56) C dX9_mixBlocks_56
  · rw [if_neg c102] at h
    refine y_iconst (pc := 17) (v := (0 : Int32)) C dX9_mixBlocks_17 (by decide) ?_
    refine y_istore (pc := 18) (lv' := [(6, .int (0 : Int32)), (0, .ref (ad x0)), (1, .long x1), (3, .long x3), (5, .int x5)]) C dX9_mixBlocks_18 (by decide) rfl ?_
    refine y_sub [1, 2, 3, 4, 0] (lv' := [(0, .ref (ad x0)), (1, .long x1), (3, .long x3), (5, .int x5), (6, .int (0 : Int32))]) rfl ?_
    exact tX9_mixBlocks_20 (fu := fu) C hx0 hk5 fu _ _ _ _ h
noncomputable def fX9_mixBlocks_5 (fu : Nat) (x0 : Nat) (x1 : Int64) : Nat → Int64 → Int32 → St → Option (Int64 × St) := lp (fun k5 => fX9_mixBlocks_5b fu k5 x0 x1) (fun _ _ _ => none)
set_option maxHeartbeats 4000000 in
theorem tX9_mixBlocks_5 {l : Launch} {D : va_G} {cA : ClassId} {bs : Nat} {ad : Nat → Nat} {p : Program} {e : Env} {s : State} {m : MethodId} {args : Array Value} {below : List Frame} {meth : Method} {c : Code} {fu : Nat} (C : Cx D cA bs ad RX9 cX9_mixBlocks 7 (some .long) p s m args meth c) {x0 : Nat} {x1 : Int64} {q : Int64 × St} (hx0 : xk x0 = 7)  : ∀ (n : Nat) (x3 : Int64) (x5 : Int32) (σ : St), fX9_mixBlocks_5 fu  x0 x1 n x3 x5 σ = some q → Y D cA bs ad p l e (rmY 1 23) s m args below meth c 7 0 0 (QM D cA bs ad below args s (some (.long q.1)) q.2) σ 5 [(0, .ref (ad x0)), (1, .long x1), (3, .long x3), (5, .int x5)] [] := by
  intro n
  induction n with
  | zero => intro x3 x5 σ h; cases h
  | succ n ih => intro x3 x5 σ h; exact tX9_mixBlocks_5b (fu := fu) C hx0 ih h
noncomputable def fX9_mixBlocks_0 (fu : Nat) (x0 : Nat) (x1 : Int64) (σ : St) : Option (Int64 × St) :=
  fX9_mixBlocks_5 fu x0 x1 fu x1 (0 : Int32) σ
set_option maxHeartbeats 4000000 in
set_option maxRecDepth 100000 in
theorem tX9_mixBlocks_0 {l : Launch} {D : va_G} {cA : ClassId} {bs : Nat} {ad : Nat → Nat} {p : Program} {e : Env} {s : State} {m : MethodId} {args : Array Value} {below : List Frame} {meth : Method} {c : Code} {fu : Nat} (C : Cx D cA bs ad RX9 cX9_mixBlocks 7 (some .long) p s m args meth c) {x0 : Nat} {x1 : Int64} {q : Int64 × St} (hx0 : xk x0 = 7) {σ : St} (h : fX9_mixBlocks_0 fu x0 x1 σ = some q) : Y D cA bs ad p l e (rmY 1 23) s m args below meth c 7 0 0 (QM D cA bs ad below args s (some (.long q.1)) q.2) σ 0 [(0, .ref (ad x0)), (1, .long x1)] [] := by
  unfold fX9_mixBlocks_0 at h
  refine y_lload_n (pc := 0) (q := 1) C dX9_mixBlocks_0 rfl rfl ?_
  refine y_lstore_n (pc := 1) (lv' := [(3, .long x1), (0, .ref (ad x0)), (1, .long x1)]) C dX9_mixBlocks_1 rfl (by decide) rfl ?_
  refine y_iconst (pc := 2) (v := (0 : Int32)) C dX9_mixBlocks_2 (by decide) ?_
  refine y_istore (pc := 3) (lv' := [(5, .int (0 : Int32)), (3, .long x1), (0, .ref (ad x0)), (1, .long x1)]) C dX9_mixBlocks_3 (by decide) rfl ?_
  refine y_sub [2, 3, 1, 0] (lv' := [(0, .ref (ad x0)), (1, .long x1), (3, .long x1), (5, .int (0 : Int32))]) rfl ?_
  exact tX9_mixBlocks_5 (fu := fu) C hx0 fu _ _ _ h
noncomputable def fX9_mixBlocks (fu : Nat) (x0 : Nat) (x1 : Int64) (σ : St) : Option (Int64 × St) := if xk x0 = 7 then fX9_mixBlocks_0 fu x0 x1 σ else none
theorem mX9_mixBlocks {l : Launch} {D : va_G} {cA : ClassId} {bs fu : Nat} {ad : Nat → Nat} {x0 : Nat} {x1 : Int64} {σ : St} {q : Int64 × St} (h : fX9_mixBlocks fu x0 x1 σ = some q) : Ct l D cA bs ad yX9_mixBlocks cX9_mixBlocks 7 (some .long) 1 23 [.ref (ad x0), .long x1] σ (some (.long q.1)) q.2 := by
  unfold fX9_mixBlocks at h
  by_cases hx0 : xk x0 = 7
  case neg => rw [if_neg hx0] at h; cases h
  rw [if_pos hx0] at h
  exact Ct.of (by decide) (Nat.le_of_ble_eq_true rfl) (fun p e s m args below meth c C => tX9_mixBlocks_0 (fu := fu) C hx0 h)
noncomputable def fX9_mixLaying_68b (fu : Nat) (k68 : Int64 → Int32 → St → Option (Int64 × St)) (x0 : Nat) (x1 : Int64) (x3 : Int64) (x5 : Int32) (σ : St) : Option (Int64 × St) :=
  if (2 : Int32) < x5 then
    some (x3, σ)
  else
    (fX0_told fu (rf x0 2) (rf x0 4) x5 σ).bind fun (q102 : Int32 × St) =>
    (fX9_mix fu x3 q102.1.toInt64 q102.2).bind fun (q103 : Int64 × St) =>
    nm (x5 + (1 : Int32)) fun (y104 : Int32) =>
    k68 q103.1 y104 q103.2
set_option maxHeartbeats 4000000 in
set_option maxRecDepth 100000 in
theorem tX9_mixLaying_68b {l : Launch} {D : va_G} {cA : ClassId} {bs : Nat} {ad : Nat → Nat} {p : Program} {e : Env} {s : State} {m : MethodId} {args : Array Value} {below : List Frame} {meth : Method} {c : Code} {fu : Nat} (C : Cx D cA bs ad RX9 cX9_mixLaying 6 (some .long) p s m args meth c) {k68 : Int64 → Int32 → St → Option (Int64 × St)} {x0 : Nat} {x1 : Int64} {x3 : Int64} {x5 : Int32} {q : Int64 × St} (hx0 : xk x0 = 7) (hk68 : ∀ (x3 : Int64) (x5 : Int32) (σ : St), k68 x3 x5 σ = some q → Y D cA bs ad p l e (rmY 4 93) s m args below meth c 6 0 0 (QM D cA bs ad below args s (some (.long q.1)) q.2) σ 68 [(0, .ref (ad x0)), (1, .long x1), (3, .long x3), (5, .int x5)] []) {σ : St} (h : fX9_mixLaying_68b fu k68 x0 x1 x3 x5 σ = some q) : Y D cA bs ad p l e (rmY 4 93) s m args below meth c 6 0 0 (QM D cA bs ad below args s (some (.long q.1)) q.2) σ 68 [(0, .ref (ad x0)), (1, .long x1), (3, .long x3), (5, .int x5)] [] := by
  unfold fX9_mixLaying_68b at h
  refine y_iload (pc := 68) (q := 3) C dX9_mixLaying_68 rfl ?_
  refine y_iconst (pc := 70) (v := (2 : Int32)) C dX9_mixLaying_70 (by decide) ?_
  refine y_icmp_gt (pc := 71) (tgt := 99) C dX9_mixLaying_71 (by decide) (fun c101 => ?_) (fun c101 => ?_)
  · rw [if_pos c101] at h
    refine y_lload_n (pc := 99) (q := 2) C dX9_mixLaying_99 rfl rfl ?_
    cases h
    exact y_lret (pc := 100) C dX9_mixLaying_100
  · rw [if_neg c101] at h
    refine y_lload_n (pc := 74) (q := 2) C dX9_mixLaying_74 rfl rfl ?_
    refine y_aload_n (pc := 75) (q := 0) C dX9_mixLaying_75 rfl rfl ?_
    refine y_getr (pc := 76) C faX9_26 rfl hx0 dX9_mixLaying_76 ?_
    refine y_aload_n (pc := 79) (q := 0) C dX9_mixLaying_79 rfl rfl ?_
    refine y_getr (pc := 80) C faX9_36 rfl hx0 dX9_mixLaying_80 ?_
    refine y_iload (pc := 83) (q := 3) C dX9_mixLaying_83 rfl ?_
    obtain ⟨q102, eq102, h⟩ := bdS h
    refine y_callS (pc := 85) (As := [.ref (ad (rf x0 2)), .ref (ad (rf x0 4)), .int x5]) (rest := [.long x3]) C (mX0_told (fu := fu) eq102) vwX9_181 rfl rfl (Nat.le_of_ble_eq_true rfl) ⟨Nat.le_of_ble_eq_true rfl, Nat.le_of_ble_eq_true rfl⟩ ⟨Nat.le_refl _, Nat.le_refl _⟩ dX9_mixLaying_85 ?_
    show Y _ _ _ _ _ _ _ _ _ _ _ _ _ _ _ _ _ _ q102.2 88 [(0, .ref (ad x0)), (1, .long x1), (3, .long x3), (5, .int x5)] [.int q102.1, .long x3]
    refine y_i2l (pc := 88) C dX9_mixLaying_88 ?_
    obtain ⟨q103, eq103, h⟩ := bdS h
    refine y_callS (pc := 89) (As := [.long x3, .long q102.1.toInt64]) (rest := []) C (mX9_mix (fu := fu) eq103) vwX9_231 rfl rfl (Nat.le_of_ble_eq_true rfl) ⟨Nat.le_of_ble_eq_true rfl, Nat.le_of_ble_eq_true rfl⟩ ⟨Nat.le_refl _, Nat.le_refl _⟩ dX9_mixLaying_89 ?_
    show Y _ _ _ _ _ _ _ _ _ _ _ _ _ _ _ _ _ _ q103.2 92 [(0, .ref (ad x0)), (1, .long x1), (3, .long x3), (5, .int x5)] [.long q103.1]
    refine y_lstore_n (pc := 92) (lv' := [(3, .long q103.1), (0, .ref (ad x0)), (1, .long x1), (5, .int x5)]) C dX9_mixLaying_92 rfl (by decide) rfl ?_
    obtain ⟨y104, ey104, h⟩ := nmS h
    refine y_iinc (pc := 93) (v := y104) (k := 3) (lv' := [(5, .int y104), (3, .long q103.1), (0, .ref (ad x0)), (1, .long x1)]) C dX9_mixLaying_93 rfl (by rw [ey104]; rfl) (by decide) rfl ?_
    refine y_goto (pc := 96) (tgt := 68) C dX9_mixLaying_96 (by decide) ?_
    refine y_sub [2, 3, 1, 0] (lv' := [(0, .ref (ad x0)), (1, .long x1), (3, .long q103.1), (5, .int y104)]) rfl ?_
    exact hk68 _ _ _ h
noncomputable def fX9_mixLaying_68 (fu : Nat) (x0 : Nat) (x1 : Int64) : Nat → Int64 → Int32 → St → Option (Int64 × St) := lp (fun k68 => fX9_mixLaying_68b fu k68 x0 x1) (fun _ _ _ => none)
set_option maxHeartbeats 4000000 in
theorem tX9_mixLaying_68 {l : Launch} {D : va_G} {cA : ClassId} {bs : Nat} {ad : Nat → Nat} {p : Program} {e : Env} {s : State} {m : MethodId} {args : Array Value} {below : List Frame} {meth : Method} {c : Code} {fu : Nat} (C : Cx D cA bs ad RX9 cX9_mixLaying 6 (some .long) p s m args meth c) {x0 : Nat} {x1 : Int64} {q : Int64 × St} (hx0 : xk x0 = 7)  : ∀ (n : Nat) (x3 : Int64) (x5 : Int32) (σ : St), fX9_mixLaying_68 fu  x0 x1 n x3 x5 σ = some q → Y D cA bs ad p l e (rmY 4 93) s m args below meth c 6 0 0 (QM D cA bs ad below args s (some (.long q.1)) q.2) σ 68 [(0, .ref (ad x0)), (1, .long x1), (3, .long x3), (5, .int x5)] [] := by
  intro n
  induction n with
  | zero => intro x3 x5 σ h; cases h
  | succ n ih => intro x3 x5 σ h; exact tX9_mixLaying_68b (fu := fu) C hx0 ih h
noncomputable def fX9_mixLaying_61 (fu : Nat) (x0 : Nat) (x1 : Int64) (s0 : Int64) (s1 : Int64) (σ : St) : Option (Int64 × St) :=
  (fX9_mix fu s0 s1 σ).bind fun (q101 : Int64 × St) =>
  fX9_mixLaying_68 fu x0 x1 fu q101.1 (0 : Int32) q101.2
set_option maxHeartbeats 4000000 in
set_option maxRecDepth 100000 in
theorem tX9_mixLaying_61 {l : Launch} {D : va_G} {cA : ClassId} {bs : Nat} {ad : Nat → Nat} {p : Program} {e : Env} {s : State} {m : MethodId} {args : Array Value} {below : List Frame} {meth : Method} {c : Code} {fu : Nat} (C : Cx D cA bs ad RX9 cX9_mixLaying 6 (some .long) p s m args meth c) {x0 : Nat} {x1 : Int64} {s0 : Int64} {s1 : Int64} {q : Int64 × St} (hx0 : xk x0 = 7) {σ : St} (h : fX9_mixLaying_61 fu x0 x1 s0 s1 σ = some q) : Y D cA bs ad p l e (rmY 4 93) s m args below meth c 6 0 0 (QM D cA bs ad below args s (some (.long q.1)) q.2) σ 61 [(0, .ref (ad x0)), (1, .long x1)] [.long s1, .long s0] := by
  unfold fX9_mixLaying_61 at h
  obtain ⟨q101, eq101, h⟩ := bdS h
  refine y_callS (pc := 61) (As := [.long s0, .long s1]) (rest := []) C (mX9_mix (fu := fu) eq101) vwX9_231 rfl rfl (Nat.le_of_ble_eq_true rfl) ⟨Nat.le_of_ble_eq_true rfl, Nat.le_of_ble_eq_true rfl⟩ ⟨Nat.le_refl _, Nat.le_refl _⟩ dX9_mixLaying_61 ?_
  show Y _ _ _ _ _ _ _ _ _ _ _ _ _ _ _ _ _ _ q101.2 64 [(0, .ref (ad x0)), (1, .long x1)] [.long q101.1]
  refine y_lstore_n (pc := 64) (lv' := [(3, .long q101.1), (0, .ref (ad x0)), (1, .long x1)]) C dX9_mixLaying_64 rfl (by decide) rfl ?_
  refine y_iconst (pc := 65) (v := (0 : Int32)) C dX9_mixLaying_65 (by decide) ?_
  refine y_istore (pc := 66) (lv' := [(5, .int (0 : Int32)), (3, .long q101.1), (0, .ref (ad x0)), (1, .long x1)]) C dX9_mixLaying_66 (by decide) rfl ?_
  refine y_sub [2, 3, 1, 0] (lv' := [(0, .ref (ad x0)), (1, .long x1), (3, .long q101.1), (5, .int (0 : Int32))]) rfl ?_
  exact tX9_mixLaying_68 (fu := fu) C hx0 fu _ _ _ h
noncomputable def fX9_mixLaying_0 (fu : Nat) (x0 : Nat) (x1 : Int64) (σ : St) : Option (Int64 × St) :=
  (fX8_worstWear fu (rf x0 2) σ).bind fun (q101 : Int32 × St) =>
  (fX9_mix fu x1 q101.1.toInt64 q101.2).bind fun (q102 : Int64 × St) =>
  (fX8_looksNeeded fu (rf x0 2) q102.2).bind fun (q103 : Int32 × St) =>
  (fX9_mix fu q102.1 q103.1.toInt64 q103.2).bind fun (q104 : Int64 × St) =>
  (fX6_turnRound fu (rf x0 4) (rf x0 2) q104.2).bind fun (q105 : St) =>
  (fX4_allows fu (rf x0 1) (rf x0 2) (rf x0 4) q105).bind fun (q106 : Int32 × St) =>
  if q106.1 = 0 then
    fX9_mixLaying_61 fu x0 x1 q104.1 (0 : Int64) q106.2
  else
    fX9_mixLaying_61 fu x0 x1 q104.1 (1 : Int64) q106.2
set_option maxHeartbeats 4000000 in
set_option maxRecDepth 100000 in
theorem tX9_mixLaying_0 {l : Launch} {D : va_G} {cA : ClassId} {bs : Nat} {ad : Nat → Nat} {p : Program} {e : Env} {s : State} {m : MethodId} {args : Array Value} {below : List Frame} {meth : Method} {c : Code} {fu : Nat} (C : Cx D cA bs ad RX9 cX9_mixLaying 6 (some .long) p s m args meth c) {x0 : Nat} {x1 : Int64} {q : Int64 × St} (hx0 : xk x0 = 7) {σ : St} (h : fX9_mixLaying_0 fu x0 x1 σ = some q) : Y D cA bs ad p l e (rmY 4 93) s m args below meth c 6 0 0 (QM D cA bs ad below args s (some (.long q.1)) q.2) σ 0 [(0, .ref (ad x0)), (1, .long x1)] [] := by
  unfold fX9_mixLaying_0 at h
  refine y_lload_n (pc := 0) (q := 1) C dX9_mixLaying_0 rfl rfl ?_
  refine y_aload_n (pc := 1) (q := 0) C dX9_mixLaying_1 rfl rfl ?_
  refine y_getr (pc := 2) C faX9_26 rfl hx0 dX9_mixLaying_2 ?_
  obtain ⟨q101, eq101, h⟩ := bdS h
  refine y_callV (pc := 5) (As := []) (rest := [.long x1]) C (mX8_worstWear (fu := fu) eq101) vwX9_156 rfl (by decide) (rf_7_2 _ hx0) rfl rfl (Nat.le_of_ble_eq_true rfl) ⟨Nat.le_of_ble_eq_true rfl, Nat.le_of_ble_eq_true rfl⟩ ⟨Nat.le_refl _, Nat.le_refl _⟩ dX9_mixLaying_5 ?_
  show Y _ _ _ _ _ _ _ _ _ _ _ _ _ _ _ _ _ _ q101.2 8 [(0, .ref (ad x0)), (1, .long x1)] [.int q101.1, .long x1]
  refine y_i2l (pc := 8) C dX9_mixLaying_8 ?_
  obtain ⟨q102, eq102, h⟩ := bdS h
  refine y_callS (pc := 9) (As := [.long x1, .long q101.1.toInt64]) (rest := []) C (mX9_mix (fu := fu) eq102) vwX9_231 rfl rfl (Nat.le_of_ble_eq_true rfl) ⟨Nat.le_of_ble_eq_true rfl, Nat.le_of_ble_eq_true rfl⟩ ⟨Nat.le_refl _, Nat.le_refl _⟩ dX9_mixLaying_9 ?_
  show Y _ _ _ _ _ _ _ _ _ _ _ _ _ _ _ _ _ _ q102.2 12 [(0, .ref (ad x0)), (1, .long x1)] [.long q102.1]
  refine y_lstore_n (pc := 12) (lv' := [(3, .long q102.1), (0, .ref (ad x0)), (1, .long x1)]) C dX9_mixLaying_12 rfl (by decide) rfl ?_
  refine y_lload_n (pc := 13) (q := 0) C dX9_mixLaying_13 rfl rfl ?_
  refine y_aload_n (pc := 14) (q := 1) C dX9_mixLaying_14 rfl rfl ?_
  refine y_getr (pc := 15) C faX9_26 rfl hx0 dX9_mixLaying_15 ?_
  obtain ⟨q103, eq103, h⟩ := bdS h
  refine y_callV (pc := 18) (As := []) (rest := [.long q102.1]) C (mX8_looksNeeded (fu := fu) eq103) vwX9_192 rfl (by decide) (rf_7_2 _ hx0) rfl rfl (Nat.le_of_ble_eq_true rfl) ⟨Nat.le_of_ble_eq_true rfl, Nat.le_of_ble_eq_true rfl⟩ ⟨Nat.le_refl _, Nat.le_refl _⟩ dX9_mixLaying_18 ?_
  show Y _ _ _ _ _ _ _ _ _ _ _ _ _ _ _ _ _ _ q103.2 21 [(3, .long q102.1), (0, .ref (ad x0)), (1, .long x1)] [.int q103.1, .long q102.1]
  refine y_i2l (pc := 21) C dX9_mixLaying_21 ?_
  obtain ⟨q104, eq104, h⟩ := bdS h
  refine y_callS (pc := 22) (As := [.long q102.1, .long q103.1.toInt64]) (rest := []) C (mX9_mix (fu := fu) eq104) vwX9_231 rfl rfl (Nat.le_of_ble_eq_true rfl) ⟨Nat.le_of_ble_eq_true rfl, Nat.le_of_ble_eq_true rfl⟩ ⟨Nat.le_refl _, Nat.le_refl _⟩ dX9_mixLaying_22 ?_
  show Y _ _ _ _ _ _ _ _ _ _ _ _ _ _ _ _ _ _ q104.2 25 [(3, .long q102.1), (0, .ref (ad x0)), (1, .long x1)] [.long q104.1]
  refine y_lstore_n (pc := 25) (lv' := [(3, .long q104.1), (0, .ref (ad x0)), (1, .long x1)]) C dX9_mixLaying_25 rfl (by decide) rfl ?_
  refine y_aload_n (pc := 26) (q := 1) C dX9_mixLaying_26 rfl rfl ?_
  refine y_getr (pc := 27) C faX9_36 rfl hx0 dX9_mixLaying_27 ?_
  refine y_aload_n (pc := 30) (q := 1) C dX9_mixLaying_30 rfl rfl ?_
  refine y_getr (pc := 31) C faX9_26 rfl hx0 dX9_mixLaying_31 ?_
  obtain ⟨q105, eq105, h⟩ := bdS h
  refine y_callV (pc := 34) (As := [.ref (ad (rf x0 2))]) (rest := []) C (mX6_turnRound (fu := fu) eq105) vwX9_251 rfl (by decide) (rf_7_4 _ hx0) rfl rfl (Nat.le_of_ble_eq_true rfl) ⟨Nat.le_of_ble_eq_true rfl, Nat.le_of_ble_eq_true rfl⟩ ⟨Nat.le_refl _, Nat.le_refl _⟩ dX9_mixLaying_34 ?_
  show Y _ _ _ _ _ _ _ _ _ _ _ _ _ _ _ _ _ _ q105 37 [(3, .long q104.1), (0, .ref (ad x0)), (1, .long x1)] []
  refine y_lload_n (pc := 37) (q := 0) C dX9_mixLaying_37 rfl rfl ?_
  refine y_aload_n (pc := 38) (q := 1) C dX9_mixLaying_38 rfl rfl ?_
  refine y_getr (pc := 39) C faX9_19 rfl hx0 dX9_mixLaying_39 ?_
  refine y_aload_n (pc := 42) (q := 1) C dX9_mixLaying_42 rfl rfl ?_
  refine y_getr (pc := 43) C faX9_26 rfl hx0 dX9_mixLaying_43 ?_
  refine y_aload_n (pc := 46) (q := 1) C dX9_mixLaying_46 rfl rfl ?_
  refine y_getr (pc := 47) C faX9_36 rfl hx0 dX9_mixLaying_47 ?_
  obtain ⟨q106, eq106, h⟩ := bdS h
  refine y_callV (pc := 50) (As := [.ref (ad (rf x0 2)), .ref (ad (rf x0 4))]) (rest := [.long q104.1]) C (mX4_allows (fu := fu) eq106) vwX9_145 rfl (by decide) (rf_7_1 _ hx0) rfl rfl (Nat.le_of_ble_eq_true rfl) ⟨Nat.le_of_ble_eq_true rfl, Nat.le_of_ble_eq_true rfl⟩ ⟨Nat.le_refl _, Nat.le_refl _⟩ dX9_mixLaying_50 ?_
  show Y _ _ _ _ _ _ _ _ _ _ _ _ _ _ _ _ _ _ q106.2 53 [(3, .long q104.1), (0, .ref (ad x0)), (1, .long x1)] [.int q106.1, .long q104.1]
  refine y_if_eq (pc := 53) (tgt := 60) C dX9_mixLaying_53 (by decide) (fun c107 => ?_) (fun c107 => ?_)
  · rw [if_pos c107] at h
    refine y_lconst (pc := 60) (v := (0 : Int64)) C dX9_mixLaying_60 (by decide) ?_
    refine y_sub [1, 2] (lv' := [(0, .ref (ad x0)), (1, .long x1)]) rfl ?_
    exact tX9_mixLaying_61 (fu := fu) C hx0 h
  · rw [if_neg c107] at h
    refine y_lconst (pc := 56) (v := (1 : Int64)) C dX9_mixLaying_56 (by decide) ?_
    refine y_goto (pc := 57) (tgt := 61) C dX9_mixLaying_57 (by decide) ?_
    refine y_sub [1, 2] (lv' := [(0, .ref (ad x0)), (1, .long x1)]) rfl ?_
    exact tX9_mixLaying_61 (fu := fu) C hx0 h
noncomputable def fX9_mixLaying (fu : Nat) (x0 : Nat) (x1 : Int64) (σ : St) : Option (Int64 × St) := if xk x0 = 7 then fX9_mixLaying_0 fu x0 x1 σ else none
theorem mX9_mixLaying {l : Launch} {D : va_G} {cA : ClassId} {bs fu : Nat} {ad : Nat → Nat} {x0 : Nat} {x1 : Int64} {σ : St} {q : Int64 × St} (h : fX9_mixLaying fu x0 x1 σ = some q) : Ct l D cA bs ad yX9_mixLaying cX9_mixLaying 6 (some .long) 4 93 [.ref (ad x0), .long x1] σ (some (.long q.1)) q.2 := by
  unfold fX9_mixLaying at h
  by_cases hx0 : xk x0 = 7
  case neg => rw [if_neg hx0] at h; cases h
  rw [if_pos hx0] at h
  exact Ct.of (by decide) (Nat.le_of_ble_eq_true rfl) (fun p e s m args below meth c C => tX9_mixLaying_0 (fu := fu) C hx0 h)
noncomputable def fX9_digest_113b (fu : Nat) (k113 : Int64 → Int32 → St → Option (Int64 × St)) (x0 : Nat) (x1 : Int64) (x3 : Int32) (σ : St) : Option (Int64 × St) :=
  if (6 : Int32) < x3 then
    some (x1, σ)
  else
    (fX9_count fu x0 x3 σ).bind fun (q102 : Int32 × St) =>
    (fX9_mix fu x1 q102.1.toInt64 q102.2).bind fun (q103 : Int64 × St) =>
    nm (x3 + (1 : Int32)) fun (y104 : Int32) =>
    k113 q103.1 y104 q103.2
set_option maxHeartbeats 4000000 in
set_option maxRecDepth 100000 in
theorem tX9_digest_113b {l : Launch} {D : va_G} {cA : ClassId} {bs : Nat} {ad : Nat → Nat} {p : Program} {e : Env} {s : State} {m : MethodId} {args : Array Value} {below : List Frame} {meth : Method} {c : Code} {fu : Nat} (C : Cx D cA bs ad RX9 cX9_digest 4 (some .long) p s m args meth c) {k113 : Int64 → Int32 → St → Option (Int64 × St)} {x0 : Nat} {x1 : Int64} {x3 : Int32} {q : Int64 × St} (hx0 : xk x0 = 7) (hk113 : ∀ (x1 : Int64) (x3 : Int32) (σ : St), k113 x1 x3 σ = some q → Y D cA bs ad p l e (rmY 5 118) s m args below meth c 4 0 0 (QM D cA bs ad below args s (some (.long q.1)) q.2) σ 113 [(0, .ref (ad x0)), (1, .long x1), (3, .int x3)] []) {σ : St} (h : fX9_digest_113b fu k113 x0 x1 x3 σ = some q) : Y D cA bs ad p l e (rmY 5 118) s m args below meth c 4 0 0 (QM D cA bs ad below args s (some (.long q.1)) q.2) σ 113 [(0, .ref (ad x0)), (1, .long x1), (3, .int x3)] [] := by
  unfold fX9_digest_113b at h
  refine y_iload_n (pc := 113) (q := 2) C dX9_digest_113 rfl rfl ?_
  refine y_bipush (pc := 114) (v := (6 : Int32)) C dX9_digest_114 (by decide) ?_
  refine y_icmp_gt (pc := 116) (tgt := 136) C dX9_digest_116 (by decide) (fun c101 => ?_) (fun c101 => ?_)
  · rw [if_pos c101] at h
    refine y_lload_n (pc := 136) (q := 1) C dX9_digest_136 rfl rfl ?_
    cases h
    exact y_lret (pc := 137) C dX9_digest_137
  · rw [if_neg c101] at h
    refine y_lload_n (pc := 119) (q := 1) C dX9_digest_119 rfl rfl ?_
    refine y_aload_n (pc := 120) (q := 0) C dX9_digest_120 rfl rfl ?_
    refine y_iload_n (pc := 121) (q := 2) C dX9_digest_121 rfl rfl ?_
    obtain ⟨q102, eq102, h⟩ := bdS h
    refine y_callV (pc := 122) (As := [.int x3]) (rest := [.long x1]) C (mX9_count (fu := fu) eq102) vwX9_248 rfl (by decide) hx0 rfl rfl (Nat.le_of_ble_eq_true rfl) ⟨Nat.le_of_ble_eq_true rfl, Nat.le_of_ble_eq_true rfl⟩ ⟨Nat.le_refl _, Nat.le_refl _⟩ dX9_digest_122 ?_
    show Y _ _ _ _ _ _ _ _ _ _ _ _ _ _ _ _ _ _ q102.2 125 [(0, .ref (ad x0)), (1, .long x1), (3, .int x3)] [.int q102.1, .long x1]
    refine y_i2l (pc := 125) C dX9_digest_125 ?_
    obtain ⟨q103, eq103, h⟩ := bdS h
    refine y_callS (pc := 126) (As := [.long x1, .long q102.1.toInt64]) (rest := []) C (mX9_mix (fu := fu) eq103) vwX9_231 rfl rfl (Nat.le_of_ble_eq_true rfl) ⟨Nat.le_of_ble_eq_true rfl, Nat.le_of_ble_eq_true rfl⟩ ⟨Nat.le_refl _, Nat.le_refl _⟩ dX9_digest_126 ?_
    show Y _ _ _ _ _ _ _ _ _ _ _ _ _ _ _ _ _ _ q103.2 129 [(0, .ref (ad x0)), (1, .long x1), (3, .int x3)] [.long q103.1]
    refine y_lstore_n (pc := 129) (lv' := [(1, .long q103.1), (0, .ref (ad x0)), (3, .int x3)]) C dX9_digest_129 rfl (by decide) rfl ?_
    obtain ⟨y104, ey104, h⟩ := nmS h
    refine y_iinc (pc := 130) (v := y104) (k := 2) (lv' := [(3, .int y104), (1, .long q103.1), (0, .ref (ad x0))]) C dX9_digest_130 rfl (by rw [ey104]; rfl) (by decide) rfl ?_
    refine y_goto (pc := 133) (tgt := 113) C dX9_digest_133 (by decide) ?_
    refine y_sub [2, 1, 0] (lv' := [(0, .ref (ad x0)), (1, .long q103.1), (3, .int y104)]) rfl ?_
    exact hk113 _ _ _ h
noncomputable def fX9_digest_113 (fu : Nat) (x0 : Nat) : Nat → Int64 → Int32 → St → Option (Int64 × St) := lp (fun k113 => fX9_digest_113b fu k113 x0) (fun _ _ _ => none)
set_option maxHeartbeats 4000000 in
theorem tX9_digest_113 {l : Launch} {D : va_G} {cA : ClassId} {bs : Nat} {ad : Nat → Nat} {p : Program} {e : Env} {s : State} {m : MethodId} {args : Array Value} {below : List Frame} {meth : Method} {c : Code} {fu : Nat} (C : Cx D cA bs ad RX9 cX9_digest 4 (some .long) p s m args meth c) {x0 : Nat} {q : Int64 × St} (hx0 : xk x0 = 7)  : ∀ (n : Nat) (x1 : Int64) (x3 : Int32) (σ : St), fX9_digest_113 fu  x0 n x1 x3 σ = some q → Y D cA bs ad p l e (rmY 5 118) s m args below meth c 4 0 0 (QM D cA bs ad below args s (some (.long q.1)) q.2) σ 113 [(0, .ref (ad x0)), (1, .long x1), (3, .int x3)] [] := by
  intro n
  induction n with
  | zero => intro x1 x3 σ h; cases h
  | succ n ih => intro x1 x3 σ h; exact tX9_digest_113b (fu := fu) C hx0 ih h
noncomputable def fX9_digest_80b (fu : Nat) (k80 : Int64 → Int32 → St → Option (Int64 × St)) (x0 : Nat) (x1 : Int64) (x3 : Int32) (σ : St) : Option (Int64 × St) :=
  (fX7_length fu (rf x0 0) σ).bind fun (q101 : Int32 × St) =>
  if q101.1 ≤ x3 then
    fX9_digest_113 fu x0 fu x1 (0 : Int32) q101.2
  else
    (fX7_letterAt fu (rf x0 0) x3 q101.2).bind fun (q103 : Int32 × St) =>
    (fX9_mix fu x1 q103.1.toInt64 q103.2).bind fun (q104 : Int64 × St) =>
    nm (x3 + (1 : Int32)) fun (y105 : Int32) =>
    k80 q104.1 y105 q104.2
set_option maxHeartbeats 4000000 in
set_option maxRecDepth 100000 in
theorem tX9_digest_80b {l : Launch} {D : va_G} {cA : ClassId} {bs : Nat} {ad : Nat → Nat} {p : Program} {e : Env} {s : State} {m : MethodId} {args : Array Value} {below : List Frame} {meth : Method} {c : Code} {fu : Nat} (C : Cx D cA bs ad RX9 cX9_digest 4 (some .long) p s m args meth c) {k80 : Int64 → Int32 → St → Option (Int64 × St)} {x0 : Nat} {x1 : Int64} {x3 : Int32} {q : Int64 × St} (hx0 : xk x0 = 7) (hk80 : ∀ (x1 : Int64) (x3 : Int32) (σ : St), k80 x1 x3 σ = some q → Y D cA bs ad p l e (rmY 5 118) s m args below meth c 4 0 0 (QM D cA bs ad below args s (some (.long q.1)) q.2) σ 80 [(0, .ref (ad x0)), (1, .long x1), (3, .int x3)] []) {σ : St} (h : fX9_digest_80b fu k80 x0 x1 x3 σ = some q) : Y D cA bs ad p l e (rmY 5 118) s m args below meth c 4 0 0 (QM D cA bs ad below args s (some (.long q.1)) q.2) σ 80 [(0, .ref (ad x0)), (1, .long x1), (3, .int x3)] [] := by
  unfold fX9_digest_80b at h
  refine y_iload_n (pc := 80) (q := 2) C dX9_digest_80 rfl rfl ?_
  refine y_aload_n (pc := 81) (q := 0) C dX9_digest_81 rfl rfl ?_
  refine y_getr (pc := 82) C faX9_10 rfl hx0 dX9_digest_82 ?_
  obtain ⟨q101, eq101, h⟩ := bdS h
  refine y_callV (pc := 85) (As := []) (rest := [.int x3]) C (mX7_length (fu := fu) eq101) vwX9_65 rfl (by decide) (rf_7_0 _ hx0) rfl rfl (Nat.le_of_ble_eq_true rfl) ⟨Nat.le_of_ble_eq_true rfl, Nat.le_of_ble_eq_true rfl⟩ ⟨Nat.le_refl _, Nat.le_refl _⟩ dX9_digest_85 ?_
  show Y _ _ _ _ _ _ _ _ _ _ _ _ _ _ _ _ _ _ q101.2 88 [(0, .ref (ad x0)), (1, .long x1), (3, .int x3)] [.int q101.1, .int x3]
  refine y_icmp_ge (pc := 88) (tgt := 111) C dX9_digest_88 (by decide) (fun c102 => ?_) (fun c102 => ?_)
  · rw [if_pos c102] at h
    refine y_iconst (pc := 111) (v := (0 : Int32)) C dX9_digest_111 (by decide) ?_
    refine y_istore_n (pc := 112) (lv' := [(3, .int (0 : Int32)), (0, .ref (ad x0)), (1, .long x1)]) C dX9_digest_112 rfl (by decide) rfl ?_
    refine y_sub [1, 2, 0] (lv' := [(0, .ref (ad x0)), (1, .long x1), (3, .int (0 : Int32))]) rfl ?_
    exact tX9_digest_113 (fu := fu) C hx0 fu _ _ _ h
  · rw [if_neg c102] at h
    refine y_lload_n (pc := 91) (q := 1) C dX9_digest_91 rfl rfl ?_
    refine y_aload_n (pc := 92) (q := 0) C dX9_digest_92 rfl rfl ?_
    refine y_getr (pc := 93) C faX9_10 rfl hx0 dX9_digest_93 ?_
    refine y_iload_n (pc := 96) (q := 2) C dX9_digest_96 rfl rfl ?_
    obtain ⟨q103, eq103, h⟩ := bdS h
    refine y_callV (pc := 97) (As := [.int x3]) (rest := [.long x1]) C (mX7_letterAt (fu := fu) eq103) vwX9_245 rfl (by decide) (rf_7_0 _ hx0) rfl rfl (Nat.le_of_ble_eq_true rfl) ⟨Nat.le_of_ble_eq_true rfl, Nat.le_of_ble_eq_true rfl⟩ ⟨Nat.le_refl _, Nat.le_refl _⟩ dX9_digest_97 ?_
    show Y _ _ _ _ _ _ _ _ _ _ _ _ _ _ _ _ _ _ q103.2 100 [(0, .ref (ad x0)), (1, .long x1), (3, .int x3)] [.int q103.1, .long x1]
    refine y_i2l (pc := 100) C dX9_digest_100 ?_
    obtain ⟨q104, eq104, h⟩ := bdS h
    refine y_callS (pc := 101) (As := [.long x1, .long q103.1.toInt64]) (rest := []) C (mX9_mix (fu := fu) eq104) vwX9_231 rfl rfl (Nat.le_of_ble_eq_true rfl) ⟨Nat.le_of_ble_eq_true rfl, Nat.le_of_ble_eq_true rfl⟩ ⟨Nat.le_refl _, Nat.le_refl _⟩ dX9_digest_101 ?_
    show Y _ _ _ _ _ _ _ _ _ _ _ _ _ _ _ _ _ _ q104.2 104 [(0, .ref (ad x0)), (1, .long x1), (3, .int x3)] [.long q104.1]
    refine y_lstore_n (pc := 104) (lv' := [(1, .long q104.1), (0, .ref (ad x0)), (3, .int x3)]) C dX9_digest_104 rfl (by decide) rfl ?_
    obtain ⟨y105, ey105, h⟩ := nmS h
    refine y_iinc (pc := 105) (v := y105) (k := 2) (lv' := [(3, .int y105), (1, .long q104.1), (0, .ref (ad x0))]) C dX9_digest_105 rfl (by rw [ey105]; rfl) (by decide) rfl ?_
    refine y_goto (pc := 108) (tgt := 80) C dX9_digest_108 (by decide) ?_
    refine y_sub [2, 1, 0] (lv' := [(0, .ref (ad x0)), (1, .long q104.1), (3, .int y105)]) rfl ?_
    exact hk80 _ _ _ h
noncomputable def fX9_digest_80 (fu : Nat) (x0 : Nat) : Nat → Int64 → Int32 → St → Option (Int64 × St) := lp (fun k80 => fX9_digest_80b fu k80 x0) (fun _ _ _ => none)
set_option maxHeartbeats 4000000 in
theorem tX9_digest_80 {l : Launch} {D : va_G} {cA : ClassId} {bs : Nat} {ad : Nat → Nat} {p : Program} {e : Env} {s : State} {m : MethodId} {args : Array Value} {below : List Frame} {meth : Method} {c : Code} {fu : Nat} (C : Cx D cA bs ad RX9 cX9_digest 4 (some .long) p s m args meth c) {x0 : Nat} {q : Int64 × St} (hx0 : xk x0 = 7)  : ∀ (n : Nat) (x1 : Int64) (x3 : Int32) (σ : St), fX9_digest_80 fu  x0 n x1 x3 σ = some q → Y D cA bs ad p l e (rmY 5 118) s m args below meth c 4 0 0 (QM D cA bs ad below args s (some (.long q.1)) q.2) σ 80 [(0, .ref (ad x0)), (1, .long x1), (3, .int x3)] [] := by
  intro n
  induction n with
  | zero => intro x1 x3 σ h; cases h
  | succ n ih => intro x1 x3 σ h; exact tX9_digest_80b (fu := fu) C hx0 ih h
noncomputable def fX9_digest_78 (fu : Nat) (x0 : Nat) (x1 : Int64) (σ : St) : Option (Int64 × St) :=
  fX9_digest_80 fu x0 fu x1 (0 : Int32) σ
set_option maxHeartbeats 4000000 in
set_option maxRecDepth 100000 in
theorem tX9_digest_78 {l : Launch} {D : va_G} {cA : ClassId} {bs : Nat} {ad : Nat → Nat} {p : Program} {e : Env} {s : State} {m : MethodId} {args : Array Value} {below : List Frame} {meth : Method} {c : Code} {fu : Nat} (C : Cx D cA bs ad RX9 cX9_digest 4 (some .long) p s m args meth c) {x0 : Nat} {x1 : Int64} {q : Int64 × St} (hx0 : xk x0 = 7) {σ : St} (h : fX9_digest_78 fu x0 x1 σ = some q) : Y D cA bs ad p l e (rmY 5 118) s m args below meth c 4 0 0 (QM D cA bs ad below args s (some (.long q.1)) q.2) σ 78 [(0, .ref (ad x0)), (1, .long x1)] [] := by
  unfold fX9_digest_78 at h
  refine y_iconst (pc := 78) (v := (0 : Int32)) C dX9_digest_78 (by decide) ?_
  refine y_istore_n (pc := 79) (lv' := [(3, .int (0 : Int32)), (0, .ref (ad x0)), (1, .long x1)]) C dX9_digest_79 rfl (by decide) rfl ?_
  refine y_sub [1, 2, 0] (lv' := [(0, .ref (ad x0)), (1, .long x1), (3, .int (0 : Int32))]) rfl ?_
  exact tX9_digest_80 (fu := fu) C hx0 fu _ _ _ h
noncomputable def fX9_digest_39b (fu : Nat) (k39 : Int64 → Int32 → St → Option (Int64 × St)) (x0 : Nat) (x1 : Int64) (x3 : Int32) (σ : St) : Option (Int64 × St) :=
  if (7 : Int32) ≤ x3 then
    (fX9_isTooShort fu x0 σ).bind fun (q102 : Int32 × St) =>
    if q102.1 = 0 then
      (fX9_mixLaying fu x0 x1 q102.2).bind fun (q104 : Int64 × St) =>
      fX9_digest_78 fu x0 q104.1 q104.2
    else
      fX9_digest_78 fu x0 x1 q102.2
  else
    (fX8_wheelsIn fu (rf x0 2) x3 σ).bind fun (q105 : Int32 × St) =>
    (fX9_mix fu x1 q105.1.toInt64 q105.2).bind fun (q106 : Int64 × St) =>
    nm (x3 + (1 : Int32)) fun (y107 : Int32) =>
    k39 q106.1 y107 q106.2
set_option maxHeartbeats 4000000 in
set_option maxRecDepth 100000 in
theorem tX9_digest_39b {l : Launch} {D : va_G} {cA : ClassId} {bs : Nat} {ad : Nat → Nat} {p : Program} {e : Env} {s : State} {m : MethodId} {args : Array Value} {below : List Frame} {meth : Method} {c : Code} {fu : Nat} (C : Cx D cA bs ad RX9 cX9_digest 4 (some .long) p s m args meth c) {k39 : Int64 → Int32 → St → Option (Int64 × St)} {x0 : Nat} {x1 : Int64} {x3 : Int32} {q : Int64 × St} (hx0 : xk x0 = 7) (hk39 : ∀ (x1 : Int64) (x3 : Int32) (σ : St), k39 x1 x3 σ = some q → Y D cA bs ad p l e (rmY 5 118) s m args below meth c 4 0 0 (QM D cA bs ad below args s (some (.long q.1)) q.2) σ 39 [(0, .ref (ad x0)), (1, .long x1), (3, .int x3)] []) {σ : St} (h : fX9_digest_39b fu k39 x0 x1 x3 σ = some q) : Y D cA bs ad p l e (rmY 5 118) s m args below meth c 4 0 0 (QM D cA bs ad below args s (some (.long q.1)) q.2) σ 39 [(0, .ref (ad x0)), (1, .long x1), (3, .int x3)] [] := by
  unfold fX9_digest_39b at h
  refine y_iload_n (pc := 39) (q := 2) C dX9_digest_39 rfl rfl ?_
  refine y_bipush (pc := 40) (v := (7 : Int32)) C dX9_digest_40 (by decide) ?_
  refine y_icmp_ge (pc := 42) (tgt := 65) C dX9_digest_42 (by decide) (fun c101 => ?_) (fun c101 => ?_)
  · rw [if_pos c101] at h
    refine y_aload_n (pc := 65) (q := 0) C dX9_digest_65 rfl rfl ?_
    obtain ⟨q102, eq102, h⟩ := bdS h
    refine y_callV (pc := 66) (As := []) (rest := []) C (mX9_isTooShort (fu := fu) eq102) vwX9_139 rfl (by decide) hx0 rfl rfl (Nat.le_of_ble_eq_true rfl) ⟨Nat.le_of_ble_eq_true rfl, Nat.le_of_ble_eq_true rfl⟩ ⟨Nat.le_refl _, Nat.le_refl _⟩ dX9_digest_66 ?_
    show Y _ _ _ _ _ _ _ _ _ _ _ _ _ _ _ _ _ _ q102.2 69 [(0, .ref (ad x0)), (1, .long x1), (3, .int x3)] [.int q102.1]
    refine y_if_ne (pc := 69) (tgt := 78) C dX9_digest_69 (by decide) (fun c103 => ?_) (fun c103 => ?_)
    · rw [if_neg c103] at h
      refine y_sub [0, 1] (lv' := [(0, .ref (ad x0)), (1, .long x1)]) rfl ?_
      exact tX9_digest_78 (fu := fu) C hx0 h
    · rw [if_pos c103] at h
      refine y_aload_n (pc := 72) (q := 0) C dX9_digest_72 rfl rfl ?_
      refine y_lload_n (pc := 73) (q := 1) C dX9_digest_73 rfl rfl ?_
      obtain ⟨q104, eq104, h⟩ := bdS h
      refine y_callV (pc := 74) (As := [.long x1]) (rest := []) C (mX9_mixLaying (fu := fu) eq104) vwX9_242 rfl (by decide) hx0 rfl rfl (Nat.le_of_ble_eq_true rfl) ⟨Nat.le_of_ble_eq_true rfl, Nat.le_of_ble_eq_true rfl⟩ ⟨Nat.le_refl _, Nat.le_refl _⟩ dX9_digest_74 ?_
      show Y _ _ _ _ _ _ _ _ _ _ _ _ _ _ _ _ _ _ q104.2 77 [(0, .ref (ad x0)), (1, .long x1), (3, .int x3)] [.long q104.1]
      refine y_lstore_n (pc := 77) (lv' := [(1, .long q104.1), (0, .ref (ad x0)), (3, .int x3)]) C dX9_digest_77 rfl (by decide) rfl ?_
      refine y_sub [1, 0] (lv' := [(0, .ref (ad x0)), (1, .long q104.1)]) rfl ?_
      exact tX9_digest_78 (fu := fu) C hx0 h
  · rw [if_neg c101] at h
    refine y_lload_n (pc := 45) (q := 1) C dX9_digest_45 rfl rfl ?_
    refine y_aload_n (pc := 46) (q := 0) C dX9_digest_46 rfl rfl ?_
    refine y_getr (pc := 47) C faX9_26 rfl hx0 dX9_digest_47 ?_
    refine y_iload_n (pc := 50) (q := 2) C dX9_digest_50 rfl rfl ?_
    obtain ⟨q105, eq105, h⟩ := bdS h
    refine y_callV (pc := 51) (As := [.int x3]) (rest := [.long x1]) C (mX8_wheelsIn (fu := fu) eq105) vwX9_239 rfl (by decide) (rf_7_2 _ hx0) rfl rfl (Nat.le_of_ble_eq_true rfl) ⟨Nat.le_of_ble_eq_true rfl, Nat.le_of_ble_eq_true rfl⟩ ⟨Nat.le_refl _, Nat.le_refl _⟩ dX9_digest_51 ?_
    show Y _ _ _ _ _ _ _ _ _ _ _ _ _ _ _ _ _ _ q105.2 54 [(0, .ref (ad x0)), (1, .long x1), (3, .int x3)] [.int q105.1, .long x1]
    refine y_i2l (pc := 54) C dX9_digest_54 ?_
    obtain ⟨q106, eq106, h⟩ := bdS h
    refine y_callS (pc := 55) (As := [.long x1, .long q105.1.toInt64]) (rest := []) C (mX9_mix (fu := fu) eq106) vwX9_231 rfl rfl (Nat.le_of_ble_eq_true rfl) ⟨Nat.le_of_ble_eq_true rfl, Nat.le_of_ble_eq_true rfl⟩ ⟨Nat.le_refl _, Nat.le_refl _⟩ dX9_digest_55 ?_
    show Y _ _ _ _ _ _ _ _ _ _ _ _ _ _ _ _ _ _ q106.2 58 [(0, .ref (ad x0)), (1, .long x1), (3, .int x3)] [.long q106.1]
    refine y_lstore_n (pc := 58) (lv' := [(1, .long q106.1), (0, .ref (ad x0)), (3, .int x3)]) C dX9_digest_58 rfl (by decide) rfl ?_
    obtain ⟨y107, ey107, h⟩ := nmS h
    refine y_iinc (pc := 59) (v := y107) (k := 2) (lv' := [(3, .int y107), (1, .long q106.1), (0, .ref (ad x0))]) C dX9_digest_59 rfl (by rw [ey107]; rfl) (by decide) rfl ?_
    refine y_goto (pc := 62) (tgt := 39) C dX9_digest_62 (by decide) ?_
    refine y_sub [2, 1, 0] (lv' := [(0, .ref (ad x0)), (1, .long q106.1), (3, .int y107)]) rfl ?_
    exact hk39 _ _ _ h
noncomputable def fX9_digest_39 (fu : Nat) (x0 : Nat) : Nat → Int64 → Int32 → St → Option (Int64 × St) := lp (fun k39 => fX9_digest_39b fu k39 x0) (fun _ _ _ => none)
set_option maxHeartbeats 4000000 in
theorem tX9_digest_39 {l : Launch} {D : va_G} {cA : ClassId} {bs : Nat} {ad : Nat → Nat} {p : Program} {e : Env} {s : State} {m : MethodId} {args : Array Value} {below : List Frame} {meth : Method} {c : Code} {fu : Nat} (C : Cx D cA bs ad RX9 cX9_digest 4 (some .long) p s m args meth c) {x0 : Nat} {q : Int64 × St} (hx0 : xk x0 = 7)  : ∀ (n : Nat) (x1 : Int64) (x3 : Int32) (σ : St), fX9_digest_39 fu  x0 n x1 x3 σ = some q → Y D cA bs ad p l e (rmY 5 118) s m args below meth c 4 0 0 (QM D cA bs ad below args s (some (.long q.1)) q.2) σ 39 [(0, .ref (ad x0)), (1, .long x1), (3, .int x3)] [] := by
  intro n
  induction n with
  | zero => intro x1 x3 σ h; cases h
  | succ n ih => intro x1 x3 σ h; exact tX9_digest_39b (fu := fu) C hx0 ih h
noncomputable def fX9_digest_6b (fu : Nat) (k6 : Int64 → Int32 → St → Option (Int64 × St)) (x0 : Nat) (x1 : Int64) (x3 : Int32) (σ : St) : Option (Int64 × St) :=
  if (3 : Int32) < x3 then
    (fX9_mixBlocks fu x0 x1 σ).bind fun (q102 : Int64 × St) =>
    fX9_digest_39 fu x0 fu q102.1 (0 : Int32) q102.2
  else
    (fX4_told fu (rf x0 1) x3 σ).bind fun (q103 : Int32 × St) =>
    (fX9_mix fu x1 q103.1.toInt64 q103.2).bind fun (q104 : Int64 × St) =>
    nm (x3 + (1 : Int32)) fun (y105 : Int32) =>
    k6 q104.1 y105 q104.2
set_option maxHeartbeats 4000000 in
set_option maxRecDepth 100000 in
theorem tX9_digest_6b {l : Launch} {D : va_G} {cA : ClassId} {bs : Nat} {ad : Nat → Nat} {p : Program} {e : Env} {s : State} {m : MethodId} {args : Array Value} {below : List Frame} {meth : Method} {c : Code} {fu : Nat} (C : Cx D cA bs ad RX9 cX9_digest 4 (some .long) p s m args meth c) {k6 : Int64 → Int32 → St → Option (Int64 × St)} {x0 : Nat} {x1 : Int64} {x3 : Int32} {q : Int64 × St} (hx0 : xk x0 = 7) (hk6 : ∀ (x1 : Int64) (x3 : Int32) (σ : St), k6 x1 x3 σ = some q → Y D cA bs ad p l e (rmY 5 118) s m args below meth c 4 0 0 (QM D cA bs ad below args s (some (.long q.1)) q.2) σ 6 [(0, .ref (ad x0)), (1, .long x1), (3, .int x3)] []) {σ : St} (h : fX9_digest_6b fu k6 x0 x1 x3 σ = some q) : Y D cA bs ad p l e (rmY 5 118) s m args below meth c 4 0 0 (QM D cA bs ad below args s (some (.long q.1)) q.2) σ 6 [(0, .ref (ad x0)), (1, .long x1), (3, .int x3)] [] := by
  unfold fX9_digest_6b at h
  refine y_iload_n (pc := 6) (q := 2) C dX9_digest_6 rfl rfl ?_
  refine y_iconst (pc := 7) (v := (3 : Int32)) C dX9_digest_7 (by decide) ?_
  refine y_icmp_gt (pc := 8) (tgt := 31) C dX9_digest_8 (by decide) (fun c101 => ?_) (fun c101 => ?_)
  · rw [if_pos c101] at h
    refine y_aload_n (pc := 31) (q := 0) C dX9_digest_31 rfl rfl ?_
    refine y_lload_n (pc := 32) (q := 1) C dX9_digest_32 rfl rfl ?_
    obtain ⟨q102, eq102, h⟩ := bdS h
    refine y_callV (pc := 33) (As := [.long x1]) (rest := []) C (mX9_mixBlocks (fu := fu) eq102) vwX9_235 rfl (by decide) hx0 rfl rfl (Nat.le_of_ble_eq_true rfl) ⟨Nat.le_of_ble_eq_true rfl, Nat.le_of_ble_eq_true rfl⟩ ⟨Nat.le_refl _, Nat.le_refl _⟩ dX9_digest_33 ?_
    show Y _ _ _ _ _ _ _ _ _ _ _ _ _ _ _ _ _ _ q102.2 36 [(0, .ref (ad x0)), (1, .long x1), (3, .int x3)] [.long q102.1]
    refine y_lstore_n (pc := 36) (lv' := [(1, .long q102.1), (0, .ref (ad x0)), (3, .int x3)]) C dX9_digest_36 rfl (by decide) rfl ?_
    refine y_iconst (pc := 37) (v := (0 : Int32)) C dX9_digest_37 (by decide) ?_
    refine y_istore_n (pc := 38) (lv' := [(3, .int (0 : Int32)), (1, .long q102.1), (0, .ref (ad x0))]) C dX9_digest_38 rfl (by decide) rfl ?_
    refine y_sub [2, 1, 0] (lv' := [(0, .ref (ad x0)), (1, .long q102.1), (3, .int (0 : Int32))]) rfl ?_
    exact tX9_digest_39 (fu := fu) C hx0 fu _ _ _ h
  · rw [if_neg c101] at h
    refine y_lload_n (pc := 11) (q := 1) C dX9_digest_11 rfl rfl ?_
    refine y_aload_n (pc := 12) (q := 0) C dX9_digest_12 rfl rfl ?_
    refine y_getr (pc := 13) C faX9_19 rfl hx0 dX9_digest_13 ?_
    refine y_iload_n (pc := 16) (q := 2) C dX9_digest_16 rfl rfl ?_
    obtain ⟨q103, eq103, h⟩ := bdS h
    refine y_callV (pc := 17) (As := [.int x3]) (rest := [.long x1]) C (mX4_told (fu := fu) eq103) vwX9_95 rfl (by decide) (rf_7_1 _ hx0) rfl rfl (Nat.le_of_ble_eq_true rfl) ⟨Nat.le_of_ble_eq_true rfl, Nat.le_of_ble_eq_true rfl⟩ ⟨Nat.le_refl _, Nat.le_refl _⟩ dX9_digest_17 ?_
    show Y _ _ _ _ _ _ _ _ _ _ _ _ _ _ _ _ _ _ q103.2 20 [(0, .ref (ad x0)), (1, .long x1), (3, .int x3)] [.int q103.1, .long x1]
    refine y_i2l (pc := 20) C dX9_digest_20 ?_
    obtain ⟨q104, eq104, h⟩ := bdS h
    refine y_callS (pc := 21) (As := [.long x1, .long q103.1.toInt64]) (rest := []) C (mX9_mix (fu := fu) eq104) vwX9_231 rfl rfl (Nat.le_of_ble_eq_true rfl) ⟨Nat.le_of_ble_eq_true rfl, Nat.le_of_ble_eq_true rfl⟩ ⟨Nat.le_refl _, Nat.le_refl _⟩ dX9_digest_21 ?_
    show Y _ _ _ _ _ _ _ _ _ _ _ _ _ _ _ _ _ _ q104.2 24 [(0, .ref (ad x0)), (1, .long x1), (3, .int x3)] [.long q104.1]
    refine y_lstore_n (pc := 24) (lv' := [(1, .long q104.1), (0, .ref (ad x0)), (3, .int x3)]) C dX9_digest_24 rfl (by decide) rfl ?_
    obtain ⟨y105, ey105, h⟩ := nmS h
    refine y_iinc (pc := 25) (v := y105) (k := 2) (lv' := [(3, .int y105), (1, .long q104.1), (0, .ref (ad x0))]) C dX9_digest_25 rfl (by rw [ey105]; rfl) (by decide) rfl ?_
    refine y_goto (pc := 28) (tgt := 6) C dX9_digest_28 (by decide) ?_
    refine y_sub [2, 1, 0] (lv' := [(0, .ref (ad x0)), (1, .long q104.1), (3, .int y105)]) rfl ?_
    exact hk6 _ _ _ h
noncomputable def fX9_digest_6 (fu : Nat) (x0 : Nat) : Nat → Int64 → Int32 → St → Option (Int64 × St) := lp (fun k6 => fX9_digest_6b fu k6 x0) (fun _ _ _ => none)
set_option maxHeartbeats 4000000 in
theorem tX9_digest_6 {l : Launch} {D : va_G} {cA : ClassId} {bs : Nat} {ad : Nat → Nat} {p : Program} {e : Env} {s : State} {m : MethodId} {args : Array Value} {below : List Frame} {meth : Method} {c : Code} {fu : Nat} (C : Cx D cA bs ad RX9 cX9_digest 4 (some .long) p s m args meth c) {x0 : Nat} {q : Int64 × St} (hx0 : xk x0 = 7)  : ∀ (n : Nat) (x1 : Int64) (x3 : Int32) (σ : St), fX9_digest_6 fu  x0 n x1 x3 σ = some q → Y D cA bs ad p l e (rmY 5 118) s m args below meth c 4 0 0 (QM D cA bs ad below args s (some (.long q.1)) q.2) σ 6 [(0, .ref (ad x0)), (1, .long x1), (3, .int x3)] [] := by
  intro n
  induction n with
  | zero => intro x1 x3 σ h; cases h
  | succ n ih => intro x1 x3 σ h; exact tX9_digest_6b (fu := fu) C hx0 ih h
noncomputable def fX9_digest_0 (fu : Nat) (x0 : Nat) (σ : St) : Option (Int64 × St) :=
  fX9_digest_6 fu x0 fu (599 : Int64) (0 : Int32) σ
set_option maxHeartbeats 4000000 in
set_option maxRecDepth 100000 in
theorem tX9_digest_0 {l : Launch} {D : va_G} {cA : ClassId} {bs : Nat} {ad : Nat → Nat} {p : Program} {e : Env} {s : State} {m : MethodId} {args : Array Value} {below : List Frame} {meth : Method} {c : Code} {fu : Nat} (C : Cx D cA bs ad RX9 cX9_digest 4 (some .long) p s m args meth c) {x0 : Nat} {q : Int64 × St} (hx0 : xk x0 = 7) {σ : St} (h : fX9_digest_0 fu x0 σ = some q) : Y D cA bs ad p l e (rmY 5 118) s m args below meth c 4 0 0 (QM D cA bs ad below args s (some (.long q.1)) q.2) σ 0 [(0, .ref (ad x0))] [] := by
  unfold fX9_digest_0 at h
  refine y_ldc2 (pc := 0) C dX9_digest_0 cwX9_229 ?_
  refine y_lstore_n (pc := 3) (lv' := [(1, .long (599 : Int64)), (0, .ref (ad x0))]) C dX9_digest_3 rfl (by decide) rfl ?_
  refine y_iconst (pc := 4) (v := (0 : Int32)) C dX9_digest_4 (by decide) ?_
  refine y_istore_n (pc := 5) (lv' := [(3, .int (0 : Int32)), (1, .long (599 : Int64)), (0, .ref (ad x0))]) C dX9_digest_5 rfl (by decide) rfl ?_
  refine y_sub [2, 1, 0] (lv' := [(0, .ref (ad x0)), (1, .long (599 : Int64)), (3, .int (0 : Int32))]) rfl ?_
  exact tX9_digest_6 (fu := fu) C hx0 fu _ _ _ h
noncomputable def fX9_digest (fu : Nat) (x0 : Nat) (σ : St) : Option (Int64 × St) := if xk x0 = 7 then fX9_digest_0 fu x0 σ else none
theorem mX9_digest {l : Launch} {D : va_G} {cA : ClassId} {bs fu : Nat} {ad : Nat → Nat} {x0 : Nat} {σ : St} {q : Int64 × St} (h : fX9_digest fu x0 σ = some q) : Ct l D cA bs ad yX9_digest cX9_digest 4 (some .long) 5 118 [.ref (ad x0)] σ (some (.long q.1)) q.2 := by
  unfold fX9_digest at h
  by_cases hx0 : xk x0 = 7
  case neg => rw [if_neg hx0] at h; cases h
  rw [if_pos hx0] at h
  exact Ct.of (by decide) (Nat.le_of_ble_eq_true rfl) (fun p e s m args below meth c C => tX9_digest_0 (fu := fu) C hx0 h)
noncomputable def fX10_in_18 (fu : Nat) (x0 : Int64) (x2 : Int64) (x4 : Int64) (s0 : Int32) (σ : St) : Option (Int32 × St) :=
  if s0 = 0 ∨ s0 = 1 then some (s0, σ) else none
set_option maxHeartbeats 4000000 in
set_option maxRecDepth 100000 in
theorem tX10_in_18 {l : Launch} {D : va_G} {cA : ClassId} {bs : Nat} {ad : Nat → Nat} {p : Program} {e : Env} {s : State} {m : MethodId} {args : Array Value} {below : List Frame} {meth : Method} {c : Code} {fu : Nat} (C : Cx D cA bs ad RX10 cX10_in 6 (some .boolean) p s m args meth c) {x0 : Int64} {x2 : Int64} {x4 : Int64} {s0 : Int32} {q : Int32 × St} {σ : St} (h : fX10_in_18 fu x0 x2 x4 s0 σ = some q) : Y D cA bs ad p l e (rmY 0 0) s m args below meth c 6 0 0 (QM D cA bs ad below args s (some (.int q.1)) q.2) σ 18 [(0, .long x0), (2, .long x2), (4, .long x4)] [.int s0] := by
  unfold fX10_in_18 at h
  by_cases c101 : s0 = 0 ∨ s0 = 1
  case neg => rw [if_neg c101] at h; cases h
  rw [if_pos c101] at h
  cases h
  exact y_zret (pc := 18) C c101 dX10_in_18
noncomputable def fX10_in_17 (fu : Nat) (x0 : Int64) (x2 : Int64) (x4 : Int64) (σ : St) : Option (Int32 × St) :=
  fX10_in_18 fu x0 x2 x4 (0 : Int32) σ
set_option maxHeartbeats 4000000 in
set_option maxRecDepth 100000 in
theorem tX10_in_17 {l : Launch} {D : va_G} {cA : ClassId} {bs : Nat} {ad : Nat → Nat} {p : Program} {e : Env} {s : State} {m : MethodId} {args : Array Value} {below : List Frame} {meth : Method} {c : Code} {fu : Nat} (C : Cx D cA bs ad RX10 cX10_in 6 (some .boolean) p s m args meth c) {x0 : Int64} {x2 : Int64} {x4 : Int64} {q : Int32 × St} {σ : St} (h : fX10_in_17 fu x0 x2 x4 σ = some q) : Y D cA bs ad p l e (rmY 0 0) s m args below meth c 6 0 0 (QM D cA bs ad below args s (some (.int q.1)) q.2) σ 17 [(0, .long x0), (2, .long x2), (4, .long x4)] [] := by
  unfold fX10_in_17 at h
  refine y_iconst (pc := 17) (v := (0 : Int32)) C dX10_in_17 (by decide) ?_
  exact tX10_in_18 (fu := fu) C h
noncomputable def fX10_in_0 (fu : Nat) (x0 : Int64) (x2 : Int64) (x4 : Int64) (σ : St) : Option (Int32 × St) :=
  if (lg_cmp x0 x2) < 0 then
    fX10_in_17 fu x0 x2 x4 σ
  else
    if 0 < (lg_cmp x0 x4) then
      fX10_in_17 fu x0 x2 x4 σ
    else
      fX10_in_18 fu x0 x2 x4 (1 : Int32) σ
set_option maxHeartbeats 4000000 in
set_option maxRecDepth 100000 in
theorem tX10_in_0 {l : Launch} {D : va_G} {cA : ClassId} {bs : Nat} {ad : Nat → Nat} {p : Program} {e : Env} {s : State} {m : MethodId} {args : Array Value} {below : List Frame} {meth : Method} {c : Code} {fu : Nat} (C : Cx D cA bs ad RX10 cX10_in 6 (some .boolean) p s m args meth c) {x0 : Int64} {x2 : Int64} {x4 : Int64} {q : Int32 × St} {σ : St} (h : fX10_in_0 fu x0 x2 x4 σ = some q) : Y D cA bs ad p l e (rmY 0 0) s m args below meth c 6 0 0 (QM D cA bs ad below args s (some (.int q.1)) q.2) σ 0 [(0, .long x0), (2, .long x2), (4, .long x4)] [] := by
  unfold fX10_in_0 at h
  refine y_lload_n (pc := 0) (q := 0) C dX10_in_0 rfl rfl ?_
  refine y_lload_n (pc := 1) (q := 1) C dX10_in_1 rfl rfl ?_
  refine y_lcmp (pc := 2) C dX10_in_2 ?_
  refine y_if_lt (pc := 3) (tgt := 17) C dX10_in_3 (by decide) (fun c101 => ?_) (fun c101 => ?_)
  · rw [if_pos c101] at h
    exact tX10_in_17 (fu := fu) C h
  · rw [if_neg c101] at h
    refine y_lload_n (pc := 6) (q := 0) C dX10_in_6 rfl rfl ?_
    refine y_lload (pc := 7) (q := 2) C dX10_in_7 rfl ?_
    refine y_lcmp (pc := 9) C dX10_in_9 ?_
    refine y_if_gt (pc := 10) (tgt := 17) C dX10_in_10 (by decide) (fun c102 => ?_) (fun c102 => ?_)
    · rw [if_pos c102] at h
      exact tX10_in_17 (fu := fu) C h
    · rw [if_neg c102] at h
      refine y_iconst (pc := 13) (v := (1 : Int32)) C dX10_in_13 (by decide) ?_
      refine y_goto (pc := 14) (tgt := 18) C dX10_in_14 (by decide) ?_
      exact tX10_in_18 (fu := fu) C h
noncomputable def fX10_in (fu : Nat) (x0 : Int64) (x2 : Int64) (x4 : Int64) (σ : St) : Option (Int32 × St) := fX10_in_0 fu x0 x2 x4 σ
theorem mX10_in {l : Launch} {D : va_G} {cA : ClassId} {bs fu : Nat} {ad : Nat → Nat} {x0 : Int64} {x2 : Int64} {x4 : Int64} {σ : St} {q : Int32 × St} (h : fX10_in fu x0 x2 x4 σ = some q) : Ct l D cA bs ad yX10_in cX10_in 6 (some .boolean) 0 0 [.long x0, .long x2, .long x4] σ (some (.int q.1)) q.2 := by
  unfold fX10_in at h
  exact Ct.of (by decide) (Nat.le_of_ble_eq_true rfl) (fun p e s m args below meth c C => tX10_in_0 (fu := fu) C h)
noncomputable def fX10_letters_75 (fu : Nat) (k11 : Int32 → Int32 → Int64 → Int32 → St → Option (Int32 × St)) (x0 : Nat) (x1 : Int64) (x4 : Int32) (x5 : Int64) (x7 : Int32) (s0 : Int32) (s1 : Int32) (σ : St) : Option (Int32 × St) :=
  nm (s0 + s1) fun (y101 : Int32) =>
  nm (x7 + (1 : Int32)) fun (y102 : Int32) =>
  k11 y101 x4 x5 y102 σ
set_option maxHeartbeats 4000000 in
set_option maxRecDepth 100000 in
theorem tX10_letters_75 {l : Launch} {D : va_G} {cA : ClassId} {bs : Nat} {ad : Nat → Nat} {p : Program} {e : Env} {s : State} {m : MethodId} {args : Array Value} {below : List Frame} {meth : Method} {c : Code} {fu : Nat} (C : Cx D cA bs ad RX10 cX10_letters 9 (some .int) p s m args meth c) {k11 : Int32 → Int32 → Int64 → Int32 → St → Option (Int32 × St)} {x0 : Nat} {x1 : Int64} {x4 : Int32} {x5 : Int64} {x7 : Int32} {s0 : Int32} {s1 : Int32} {q : Int32 × St} (hx0 : xk x0 = 8) (hk11 : ∀ (x3 : Int32) (x4 : Int32) (x5 : Int64) (x7 : Int32) (σ : St), k11 x3 x4 x5 x7 σ = some q → Y D cA bs ad p l e (rmY 0 0) s m args below meth c 9 0 0 (QM D cA bs ad below args s (some (.int q.1)) q.2) σ 11 [(0, .ref (ad x0)), (1, .long x1), (3, .int x3), (4, .int x4), (5, .long x5), (7, .int x7)] []) {σ : St} (h : fX10_letters_75 fu k11 x0 x1 x4 x5 x7 s0 s1 σ = some q) : Y D cA bs ad p l e (rmY 0 0) s m args below meth c 9 0 0 (QM D cA bs ad below args s (some (.int q.1)) q.2) σ 75 [(0, .ref (ad x0)), (1, .long x1), (4, .int x4), (5, .long x5), (7, .int x7)] [.int s1, .int s0] := by
  unfold fX10_letters_75 at h
  refine y_iadd (pc := 75) C dX10_letters_75 ?_
  obtain ⟨y101, ey101, h⟩ := nmS h
  refine y_nmI y101 ey101 ?_
  refine y_istore_n (pc := 76) (lv' := [(3, .int y101), (0, .ref (ad x0)), (1, .long x1), (4, .int x4), (5, .long x5), (7, .int x7)]) C dX10_letters_76 rfl (by decide) rfl ?_
  obtain ⟨y102, ey102, h⟩ := nmS h
  refine y_iinc (pc := 77) (v := y102) (k := 5) (lv' := [(7, .int y102), (3, .int y101), (0, .ref (ad x0)), (1, .long x1), (4, .int x4), (5, .long x5)]) C dX10_letters_77 rfl (by rw [ey102]; rfl) (by decide) rfl ?_
  refine y_goto (pc := 80) (tgt := 11) C dX10_letters_80 (by decide) ?_
  refine y_sub [2, 3, 1, 4, 5, 0] (lv' := [(0, .ref (ad x0)), (1, .long x1), (3, .int y101), (4, .int x4), (5, .long x5), (7, .int y102)]) rfl ?_
  exact hk11 _ _ _ _ _ h
noncomputable def fX10_letters_62 (fu : Nat) (k11 : Int32 → Int32 → Int64 → Int32 → St → Option (Int32 × St)) (x0 : Nat) (x1 : Int64) (x3 : Int32) (x5 : Int64) (x7 : Int32) (x8 : Int32) (s0 : Int32) (σ : St) : Option (Int32 × St) :=
  if x8 ≤ 0 then
    fX10_letters_75 fu k11 x0 x1 s0 x5 x7 x3 (0 : Int32) σ
  else
    fX10_letters_75 fu k11 x0 x1 s0 x5 x7 x3 (1 : Int32) σ
set_option maxHeartbeats 4000000 in
set_option maxRecDepth 100000 in
theorem tX10_letters_62 {l : Launch} {D : va_G} {cA : ClassId} {bs : Nat} {ad : Nat → Nat} {p : Program} {e : Env} {s : State} {m : MethodId} {args : Array Value} {below : List Frame} {meth : Method} {c : Code} {fu : Nat} (C : Cx D cA bs ad RX10 cX10_letters 9 (some .int) p s m args meth c) {k11 : Int32 → Int32 → Int64 → Int32 → St → Option (Int32 × St)} {x0 : Nat} {x1 : Int64} {x3 : Int32} {x5 : Int64} {x7 : Int32} {x8 : Int32} {s0 : Int32} {q : Int32 × St} (hx0 : xk x0 = 8) (hk11 : ∀ (x3 : Int32) (x4 : Int32) (x5 : Int64) (x7 : Int32) (σ : St), k11 x3 x4 x5 x7 σ = some q → Y D cA bs ad p l e (rmY 0 0) s m args below meth c 9 0 0 (QM D cA bs ad below args s (some (.int q.1)) q.2) σ 11 [(0, .ref (ad x0)), (1, .long x1), (3, .int x3), (4, .int x4), (5, .long x5), (7, .int x7)] []) {σ : St} (h : fX10_letters_62 fu k11 x0 x1 x3 x5 x7 x8 s0 σ = some q) : Y D cA bs ad p l e (rmY 0 0) s m args below meth c 9 0 0 (QM D cA bs ad below args s (some (.int q.1)) q.2) σ 62 [(0, .ref (ad x0)), (1, .long x1), (3, .int x3), (5, .long x5), (7, .int x7), (8, .int x8)] [.int s0] := by
  unfold fX10_letters_62 at h
  refine y_istore (pc := 62) (lv' := [(4, .int s0), (0, .ref (ad x0)), (1, .long x1), (3, .int x3), (5, .long x5), (7, .int x7), (8, .int x8)]) C dX10_letters_62 (by decide) rfl ?_
  refine y_iload_n (pc := 64) (q := 3) C dX10_letters_64 rfl rfl ?_
  refine y_iload (pc := 65) (q := 6) C dX10_letters_65 rfl ?_
  refine y_if_le (pc := 67) (tgt := 74) C dX10_letters_67 (by decide) (fun c101 => ?_) (fun c101 => ?_)
  · rw [if_pos c101] at h
    refine y_iconst (pc := 74) (v := (0 : Int32)) C dX10_letters_74 (by decide) ?_
    refine y_sub [1, 2, 0, 4, 5] (lv' := [(0, .ref (ad x0)), (1, .long x1), (4, .int s0), (5, .long x5), (7, .int x7)]) rfl ?_
    exact tX10_letters_75 (fu := fu) C hx0 hk11 h
  · rw [if_neg c101] at h
    refine y_iconst (pc := 70) (v := (1 : Int32)) C dX10_letters_70 (by decide) ?_
    refine y_goto (pc := 71) (tgt := 75) C dX10_letters_71 (by decide) ?_
    refine y_sub [1, 2, 0, 4, 5] (lv' := [(0, .ref (ad x0)), (1, .long x1), (4, .int s0), (5, .long x5), (7, .int x7)]) rfl ?_
    exact tX10_letters_75 (fu := fu) C hx0 hk11 h
noncomputable def fX10_letters_57 (fu : Nat) (k11 : Int32 → Int32 → Int64 → Int32 → St → Option (Int32 × St)) (x0 : Nat) (x1 : Int64) (x3 : Int32) (x5 : Int64) (x7 : Int32) (x8 : Int32) (σ : St) : Option (Int32 × St) :=
  fX10_letters_62 fu k11 x0 x1 x3 x5 x7 x8 (1 : Int32) σ
set_option maxHeartbeats 4000000 in
set_option maxRecDepth 100000 in
theorem tX10_letters_57 {l : Launch} {D : va_G} {cA : ClassId} {bs : Nat} {ad : Nat → Nat} {p : Program} {e : Env} {s : State} {m : MethodId} {args : Array Value} {below : List Frame} {meth : Method} {c : Code} {fu : Nat} (C : Cx D cA bs ad RX10 cX10_letters 9 (some .int) p s m args meth c) {k11 : Int32 → Int32 → Int64 → Int32 → St → Option (Int32 × St)} {x0 : Nat} {x1 : Int64} {x3 : Int32} {x5 : Int64} {x7 : Int32} {x8 : Int32} {q : Int32 × St} (hx0 : xk x0 = 8) (hk11 : ∀ (x3 : Int32) (x4 : Int32) (x5 : Int64) (x7 : Int32) (σ : St), k11 x3 x4 x5 x7 σ = some q → Y D cA bs ad p l e (rmY 0 0) s m args below meth c 9 0 0 (QM D cA bs ad below args s (some (.int q.1)) q.2) σ 11 [(0, .ref (ad x0)), (1, .long x1), (3, .int x3), (4, .int x4), (5, .long x5), (7, .int x7)] []) {σ : St} (h : fX10_letters_57 fu k11 x0 x1 x3 x5 x7 x8 σ = some q) : Y D cA bs ad p l e (rmY 0 0) s m args below meth c 9 0 0 (QM D cA bs ad below args s (some (.int q.1)) q.2) σ 57 [(0, .ref (ad x0)), (1, .long x1), (3, .int x3), (5, .long x5), (7, .int x7), (8, .int x8)] [] := by
  unfold fX10_letters_57 at h
  refine y_iconst (pc := 57) (v := (1 : Int32)) C dX10_letters_57 (by decide) ?_
  refine y_goto (pc := 58) (tgt := 62) C dX10_letters_58 (by decide) ?_
  exact tX10_letters_62 (fu := fu) C hx0 hk11 h
noncomputable def fX10_letters_61 (fu : Nat) (k11 : Int32 → Int32 → Int64 → Int32 → St → Option (Int32 × St)) (x0 : Nat) (x1 : Int64) (x3 : Int32) (x5 : Int64) (x7 : Int32) (x8 : Int32) (σ : St) : Option (Int32 × St) :=
  fX10_letters_62 fu k11 x0 x1 x3 x5 x7 x8 (0 : Int32) σ
set_option maxHeartbeats 4000000 in
set_option maxRecDepth 100000 in
theorem tX10_letters_61 {l : Launch} {D : va_G} {cA : ClassId} {bs : Nat} {ad : Nat → Nat} {p : Program} {e : Env} {s : State} {m : MethodId} {args : Array Value} {below : List Frame} {meth : Method} {c : Code} {fu : Nat} (C : Cx D cA bs ad RX10 cX10_letters 9 (some .int) p s m args meth c) {k11 : Int32 → Int32 → Int64 → Int32 → St → Option (Int32 × St)} {x0 : Nat} {x1 : Int64} {x3 : Int32} {x5 : Int64} {x7 : Int32} {x8 : Int32} {q : Int32 × St} (hx0 : xk x0 = 8) (hk11 : ∀ (x3 : Int32) (x4 : Int32) (x5 : Int64) (x7 : Int32) (σ : St), k11 x3 x4 x5 x7 σ = some q → Y D cA bs ad p l e (rmY 0 0) s m args below meth c 9 0 0 (QM D cA bs ad below args s (some (.int q.1)) q.2) σ 11 [(0, .ref (ad x0)), (1, .long x1), (3, .int x3), (4, .int x4), (5, .long x5), (7, .int x7)] []) {σ : St} (h : fX10_letters_61 fu k11 x0 x1 x3 x5 x7 x8 σ = some q) : Y D cA bs ad p l e (rmY 0 0) s m args below meth c 9 0 0 (QM D cA bs ad below args s (some (.int q.1)) q.2) σ 61 [(0, .ref (ad x0)), (1, .long x1), (3, .int x3), (5, .long x5), (7, .int x7), (8, .int x8)] [] := by
  unfold fX10_letters_61 at h
  refine y_iconst (pc := 61) (v := (0 : Int32)) C dX10_letters_61 (by decide) ?_
  exact tX10_letters_62 (fu := fu) C hx0 hk11 h
noncomputable def fX10_letters_108b (fu : Nat) (k108 : Int32 → Int32 → St → Option (Int32 × St)) (x0 : Nat) (x1 : Int64) (x3 : Int32) (x7 : Int32) (σ : St) : Option (Int32 × St) :=
  if x3 ≤ x7 then
    some ((σ.1 x0 1), σ)
  else
    (ast σ (rf x0 0) 16 (σ.1 x0 1) ((((x1.toUInt64 >>> (((8 : Int32) * x7).toInt64.toUInt64 &&& Int64.toUInt64 63)).toInt64) &&& (255 : Int64)).toInt32)).bind fun (σ102 : St) =>
    nm (si σ102 x0 1 ((σ102.1 x0 1) + (1 : Int32))) fun (σ103 : St) =>
    nm (x7 + (1 : Int32)) fun (y104 : Int32) =>
    k108 x3 y104 σ103
set_option maxHeartbeats 4000000 in
set_option maxRecDepth 100000 in
theorem tX10_letters_108b {l : Launch} {D : va_G} {cA : ClassId} {bs : Nat} {ad : Nat → Nat} {p : Program} {e : Env} {s : State} {m : MethodId} {args : Array Value} {below : List Frame} {meth : Method} {c : Code} {fu : Nat} (C : Cx D cA bs ad RX10 cX10_letters 9 (some .int) p s m args meth c) {k108 : Int32 → Int32 → St → Option (Int32 × St)} {x0 : Nat} {x1 : Int64} {x3 : Int32} {x7 : Int32} {q : Int32 × St} (hx0 : xk x0 = 8) (hk108 : ∀ (x3 : Int32) (x7 : Int32) (σ : St), k108 x3 x7 σ = some q → Y D cA bs ad p l e (rmY 0 0) s m args below meth c 9 0 0 (QM D cA bs ad below args s (some (.int q.1)) q.2) σ 108 [(0, .ref (ad x0)), (1, .long x1), (3, .int x3), (7, .int x7)] []) {σ : St} (h : fX10_letters_108b fu k108 x0 x1 x3 x7 σ = some q) : Y D cA bs ad p l e (rmY 0 0) s m args below meth c 9 0 0 (QM D cA bs ad below args s (some (.int q.1)) q.2) σ 108 [(0, .ref (ad x0)), (1, .long x1), (3, .int x3), (7, .int x7)] [] := by
  unfold fX10_letters_108b at h
  refine y_iload (pc := 108) (q := 3) C dX10_letters_108 rfl ?_
  refine y_iload_n (pc := 110) (q := 2) C dX10_letters_110 rfl rfl ?_
  refine y_icmp_ge (pc := 111) (tgt := 151) C dX10_letters_111 (by decide) (fun c101 => ?_) (fun c101 => ?_)
  · rw [if_pos c101] at h
    refine y_aload_n (pc := 151) (q := 0) C dX10_letters_151 rfl rfl ?_
    refine y_geti (pc := 152) C faX10_55 rfl hx0 dX10_letters_152 ?_
    cases h
    exact y_iret (pc := 155) C dX10_letters_155
  · rw [if_neg c101] at h
    refine y_aload_n (pc := 114) (q := 0) C dX10_letters_114 rfl rfl ?_
    refine y_getr (pc := 115) C faX10_7 rfl hx0 dX10_letters_115 ?_
    refine y_aload_n (pc := 118) (q := 0) C dX10_letters_118 rfl rfl ?_
    refine y_geti (pc := 119) C faX10_55 rfl hx0 dX10_letters_119 ?_
    refine y_lload_n (pc := 122) (q := 1) C dX10_letters_122 rfl rfl ?_
    refine y_bipush (pc := 123) (v := (8 : Int32)) C dX10_letters_123 (by decide) ?_
    refine y_iload (pc := 125) (q := 3) C dX10_letters_125 rfl ?_
    refine y_imul (pc := 127) C dX10_letters_127 ?_
    refine y_lushr (pc := 128) C dX10_letters_128 ?_
    refine y_ldc2 (pc := 129) C dX10_letters_129 cwX10_53 ?_
    refine y_land (pc := 132) C dX10_letters_132 ?_
    refine y_l2i (pc := 133) C dX10_letters_133 ?_
    obtain ⟨σ102, eσ102, h⟩ := bdS h
    refine y_iast (pc := 134) (n := 16) C (rf_8_0 _ hx0) (by decide) eσ102 dX10_letters_134 ?_
    refine y_aload_n (pc := 135) (q := 0) C dX10_letters_135 rfl rfl ?_
    refine y_dup (pc := 136) C dX10_letters_136 rfl ?_
    refine y_geti (pc := 137) C faX10_55 rfl hx0 dX10_letters_137 ?_
    refine y_iconst (pc := 140) (v := (1 : Int32)) C dX10_letters_140 (by decide) ?_
    refine y_iadd (pc := 141) C dX10_letters_141 ?_
    obtain ⟨σ103, eσ103, h⟩ := nmS h
    refine y_puti (pc := 142) C fpX10_55 rfl hx0 rfl rfl dX10_letters_142 ?_
    rw [← eσ103]
    obtain ⟨y104, ey104, h⟩ := nmS h
    refine y_iinc (pc := 145) (v := y104) (k := 3) (lv' := [(7, .int y104), (0, .ref (ad x0)), (1, .long x1), (3, .int x3)]) C dX10_letters_145 rfl (by rw [ey104]; rfl) (by decide) rfl ?_
    refine y_goto (pc := 148) (tgt := 108) C dX10_letters_148 (by decide) ?_
    refine y_sub [1, 2, 3, 0] (lv' := [(0, .ref (ad x0)), (1, .long x1), (3, .int x3), (7, .int y104)]) rfl ?_
    exact hk108 _ _ _ h
noncomputable def fX10_letters_108 (fu : Nat) (x0 : Nat) (x1 : Int64) : Nat → Int32 → Int32 → St → Option (Int32 × St) := lp (fun k108 => fX10_letters_108b fu k108 x0 x1) (fun _ _ _ => none)
set_option maxHeartbeats 4000000 in
theorem tX10_letters_108 {l : Launch} {D : va_G} {cA : ClassId} {bs : Nat} {ad : Nat → Nat} {p : Program} {e : Env} {s : State} {m : MethodId} {args : Array Value} {below : List Frame} {meth : Method} {c : Code} {fu : Nat} (C : Cx D cA bs ad RX10 cX10_letters 9 (some .int) p s m args meth c) {x0 : Nat} {x1 : Int64} {q : Int32 × St} (hx0 : xk x0 = 8)  : ∀ (n : Nat) (x3 : Int32) (x7 : Int32) (σ : St), fX10_letters_108 fu  x0 x1 n x3 x7 σ = some q → Y D cA bs ad p l e (rmY 0 0) s m args below meth c 9 0 0 (QM D cA bs ad below args s (some (.int q.1)) q.2) σ 108 [(0, .ref (ad x0)), (1, .long x1), (3, .int x3), (7, .int x7)] [] := by
  intro n
  induction n with
  | zero => intro x3 x7 σ h; cases h
  | succ n ih => intro x3 x7 σ h; exact tX10_letters_108b (fu := fu) C hx0 ih h
noncomputable def fX10_letters_11b (fu : Nat) (k11 : Int32 → Int32 → Int64 → Int32 → St → Option (Int32 × St)) (x0 : Nat) (x1 : Int64) (x3 : Int32) (x4 : Int32) (x5 : Int64) (x7 : Int32) (σ : St) : Option (Int32 × St) :=
  if (8 : Int32) ≤ x7 then
    if x4 = 0 then
      some ((-102 : Int32), σ)
    else
      if ((σ.1 x0 1) + x3) ≤ (16 : Int32) then
        fX10_letters_108 fu x0 x1 fu x3 (0 : Int32) σ
      else
        some ((-104 : Int32), σ)
  else
    nm ((x5 &&& (255 : Int64)).toInt32) fun (y104 : Int32) =>
    nm ((x5.toUInt64 >>> ((8 : Int32).toInt64.toUInt64 &&& Int64.toUInt64 63)).toInt64) fun (y105 : Int64) =>
    if x4 = 0 then
      fX10_letters_61 fu k11 x0 x1 x3 y105 x7 y104 σ
    else
      if (126 : Int32) < y104 then
        fX10_letters_61 fu k11 x0 x1 x3 y105 x7 y104 σ
      else
        if y104 = 0 then
          fX10_letters_57 fu k11 x0 x1 x3 y105 x7 y104 σ
        else
          if x3 = x7 then
            fX10_letters_57 fu k11 x0 x1 x3 y105 x7 y104 σ
          else
            fX10_letters_61 fu k11 x0 x1 x3 y105 x7 y104 σ
set_option maxHeartbeats 4000000 in
set_option maxRecDepth 100000 in
theorem tX10_letters_11b {l : Launch} {D : va_G} {cA : ClassId} {bs : Nat} {ad : Nat → Nat} {p : Program} {e : Env} {s : State} {m : MethodId} {args : Array Value} {below : List Frame} {meth : Method} {c : Code} {fu : Nat} (C : Cx D cA bs ad RX10 cX10_letters 9 (some .int) p s m args meth c) {k11 : Int32 → Int32 → Int64 → Int32 → St → Option (Int32 × St)} {x0 : Nat} {x1 : Int64} {x3 : Int32} {x4 : Int32} {x5 : Int64} {x7 : Int32} {q : Int32 × St} (hx0 : xk x0 = 8) (hk11 : ∀ (x3 : Int32) (x4 : Int32) (x5 : Int64) (x7 : Int32) (σ : St), k11 x3 x4 x5 x7 σ = some q → Y D cA bs ad p l e (rmY 0 0) s m args below meth c 9 0 0 (QM D cA bs ad below args s (some (.int q.1)) q.2) σ 11 [(0, .ref (ad x0)), (1, .long x1), (3, .int x3), (4, .int x4), (5, .long x5), (7, .int x7)] []) {σ : St} (h : fX10_letters_11b fu k11 x0 x1 x3 x4 x5 x7 σ = some q) : Y D cA bs ad p l e (rmY 0 0) s m args below meth c 9 0 0 (QM D cA bs ad below args s (some (.int q.1)) q.2) σ 11 [(0, .ref (ad x0)), (1, .long x1), (3, .int x3), (4, .int x4), (5, .long x5), (7, .int x7)] [] := by
  unfold fX10_letters_11b at h
  refine y_iload (pc := 11) (q := 5) C dX10_letters_11 rfl ?_
  refine y_bipush (pc := 13) (v := (8 : Int32)) C dX10_letters_13 (by decide) ?_
  refine y_icmp_ge (pc := 15) (tgt := 83) C dX10_letters_15 (by decide) (fun c101 => ?_) (fun c101 => ?_)
  · rw [if_pos c101] at h
    refine y_iload (pc := 83) (q := 3) C dX10_letters_83 rfl ?_
    refine y_if_ne (pc := 85) (tgt := 91) C dX10_letters_85 (by decide) (fun c102 => ?_) (fun c102 => ?_)
    · rw [if_neg c102] at h
      refine y_aload_n (pc := 91) (q := 0) C dX10_letters_91 rfl rfl ?_
      refine y_geti (pc := 92) C faX10_55 rfl hx0 dX10_letters_92 ?_
      refine y_iload_n (pc := 95) (q := 2) C dX10_letters_95 rfl rfl ?_
      refine y_iadd (pc := 96) C dX10_letters_96 ?_
      refine y_bipush (pc := 97) (v := (16 : Int32)) C dX10_letters_97 (by decide) ?_
      refine y_icmp_le (pc := 99) (tgt := 105) C dX10_letters_99 (by decide) (fun c103 => ?_) (fun c103 => ?_)
      · rw [if_pos c103] at h
        refine y_iconst (pc := 105) (v := (0 : Int32)) C dX10_letters_105 (by decide) ?_
        refine y_istore (pc := 106) (lv' := [(7, .int (0 : Int32)), (0, .ref (ad x0)), (1, .long x1), (3, .int x3), (4, .int x4), (5, .long x5)]) C dX10_letters_106 (by decide) rfl ?_
        refine y_sub [1, 2, 3, 0] (lv' := [(0, .ref (ad x0)), (1, .long x1), (3, .int x3), (7, .int (0 : Int32))]) rfl ?_
        exact tX10_letters_108 (fu := fu) C hx0 fu _ _ _ h
      · rw [if_neg c103] at h
        refine y_bipush (pc := 102) (v := (-104 : Int32)) C dX10_letters_102 (by decide) ?_
        cases h
        exact y_iret (pc := 104) C dX10_letters_104
    · rw [if_pos c102] at h
      refine y_bipush (pc := 88) (v := (-102 : Int32)) C dX10_letters_88 (by decide) ?_
      cases h
      exact y_iret (pc := 90) C dX10_letters_90
  · rw [if_neg c101] at h
    refine y_lload (pc := 18) (q := 4) C dX10_letters_18 rfl ?_
    refine y_ldc2 (pc := 20) C dX10_letters_20 cwX10_53 ?_
    refine y_land (pc := 23) C dX10_letters_23 ?_
    refine y_l2i (pc := 24) C dX10_letters_24 ?_
    obtain ⟨y104, ey104, h⟩ := nmS h
    refine y_nmI y104 ey104 ?_
    refine y_istore (pc := 25) (lv' := [(8, .int y104), (0, .ref (ad x0)), (1, .long x1), (3, .int x3), (4, .int x4), (5, .long x5), (7, .int x7)]) C dX10_letters_25 (by decide) rfl ?_
    refine y_lload (pc := 27) (q := 5) C dX10_letters_27 rfl ?_
    refine y_bipush (pc := 29) (v := (8 : Int32)) C dX10_letters_29 (by decide) ?_
    refine y_lushr (pc := 31) C dX10_letters_31 ?_
    obtain ⟨y105, ey105, h⟩ := nmS h
    refine y_nmJ y105 ey105 ?_
    refine y_lstore (pc := 32) (lv' := [(5, .long y105), (8, .int y104), (0, .ref (ad x0)), (1, .long x1), (3, .int x3), (4, .int x4), (7, .int x7)]) C dX10_letters_32 (by decide) rfl ?_
    refine y_iload (pc := 34) (q := 5) C dX10_letters_34 rfl ?_
    refine y_if_eq (pc := 36) (tgt := 61) C dX10_letters_36 (by decide) (fun c106 => ?_) (fun c106 => ?_)
    · rw [if_pos c106] at h
      refine y_sub [2, 3, 4, 0, 6, 1] (lv' := [(0, .ref (ad x0)), (1, .long x1), (3, .int x3), (5, .long y105), (7, .int x7), (8, .int y104)]) rfl ?_
      exact tX10_letters_61 (fu := fu) C hx0 hk11 h
    · rw [if_neg c106] at h
      refine y_iload (pc := 39) (q := 1) C dX10_letters_39 rfl ?_
      refine y_bipush (pc := 41) (v := (126 : Int32)) C dX10_letters_41 (by decide) ?_
      refine y_icmp_gt (pc := 43) (tgt := 61) C dX10_letters_43 (by decide) (fun c107 => ?_) (fun c107 => ?_)
      · rw [if_pos c107] at h
        refine y_sub [2, 3, 4, 0, 6, 1] (lv' := [(0, .ref (ad x0)), (1, .long x1), (3, .int x3), (5, .long y105), (7, .int x7), (8, .int y104)]) rfl ?_
        exact tX10_letters_61 (fu := fu) C hx0 hk11 h
      · rw [if_neg c107] at h
        refine y_iload (pc := 46) (q := 1) C dX10_letters_46 rfl ?_
        refine y_if_eq (pc := 48) (tgt := 57) C dX10_letters_48 (by decide) (fun c108 => ?_) (fun c108 => ?_)
        · rw [if_pos c108] at h
          refine y_sub [2, 3, 4, 0, 6, 1] (lv' := [(0, .ref (ad x0)), (1, .long x1), (3, .int x3), (5, .long y105), (7, .int x7), (8, .int y104)]) rfl ?_
          exact tX10_letters_57 (fu := fu) C hx0 hk11 h
        · rw [if_neg c108] at h
          refine y_iload_n (pc := 51) (q := 4) C dX10_letters_51 rfl rfl ?_
          refine y_iload (pc := 52) (q := 6) C dX10_letters_52 rfl ?_
          refine y_icmp_ne (pc := 54) (tgt := 61) C dX10_letters_54 (by decide) (fun c109 => ?_) (fun c109 => ?_)
          · rw [if_neg c109] at h
            refine y_sub [2, 3, 4, 0, 6, 1] (lv' := [(0, .ref (ad x0)), (1, .long x1), (3, .int x3), (5, .long y105), (7, .int x7), (8, .int y104)]) rfl ?_
            exact tX10_letters_61 (fu := fu) C hx0 hk11 h
          · rw [if_pos c109] at h
            refine y_sub [2, 3, 4, 0, 6, 1] (lv' := [(0, .ref (ad x0)), (1, .long x1), (3, .int x3), (5, .long y105), (7, .int x7), (8, .int y104)]) rfl ?_
            exact tX10_letters_57 (fu := fu) C hx0 hk11 h
noncomputable def fX10_letters_11 (fu : Nat) (x0 : Nat) (x1 : Int64) : Nat → Int32 → Int32 → Int64 → Int32 → St → Option (Int32 × St) := lp (fun k11 => fX10_letters_11b fu k11 x0 x1) (fun _ _ _ _ _ => none)
set_option maxHeartbeats 4000000 in
theorem tX10_letters_11 {l : Launch} {D : va_G} {cA : ClassId} {bs : Nat} {ad : Nat → Nat} {p : Program} {e : Env} {s : State} {m : MethodId} {args : Array Value} {below : List Frame} {meth : Method} {c : Code} {fu : Nat} (C : Cx D cA bs ad RX10 cX10_letters 9 (some .int) p s m args meth c) {x0 : Nat} {x1 : Int64} {q : Int32 × St} (hx0 : xk x0 = 8)  : ∀ (n : Nat) (x3 : Int32) (x4 : Int32) (x5 : Int64) (x7 : Int32) (σ : St), fX10_letters_11 fu  x0 x1 n x3 x4 x5 x7 σ = some q → Y D cA bs ad p l e (rmY 0 0) s m args below meth c 9 0 0 (QM D cA bs ad below args s (some (.int q.1)) q.2) σ 11 [(0, .ref (ad x0)), (1, .long x1), (3, .int x3), (4, .int x4), (5, .long x5), (7, .int x7)] [] := by
  intro n
  induction n with
  | zero => intro x3 x4 x5 x7 σ h; cases h
  | succ n ih => intro x3 x4 x5 x7 σ h; exact tX10_letters_11b (fu := fu) C hx0 ih h
noncomputable def fX10_letters_0 (fu : Nat) (x0 : Nat) (x1 : Int64) (σ : St) : Option (Int32 × St) :=
  fX10_letters_11 fu x0 x1 fu (0 : Int32) (1 : Int32) x1 (0 : Int32) σ
set_option maxHeartbeats 4000000 in
set_option maxRecDepth 100000 in
theorem tX10_letters_0 {l : Launch} {D : va_G} {cA : ClassId} {bs : Nat} {ad : Nat → Nat} {p : Program} {e : Env} {s : State} {m : MethodId} {args : Array Value} {below : List Frame} {meth : Method} {c : Code} {fu : Nat} (C : Cx D cA bs ad RX10 cX10_letters 9 (some .int) p s m args meth c) {x0 : Nat} {x1 : Int64} {q : Int32 × St} (hx0 : xk x0 = 8) {σ : St} (h : fX10_letters_0 fu x0 x1 σ = some q) : Y D cA bs ad p l e (rmY 0 0) s m args below meth c 9 0 0 (QM D cA bs ad below args s (some (.int q.1)) q.2) σ 0 [(0, .ref (ad x0)), (1, .long x1)] [] := by
  unfold fX10_letters_0 at h
  refine y_iconst (pc := 0) (v := (0 : Int32)) C dX10_letters_0 (by decide) ?_
  refine y_istore_n (pc := 1) (lv' := [(3, .int (0 : Int32)), (0, .ref (ad x0)), (1, .long x1)]) C dX10_letters_1 rfl (by decide) rfl ?_
  refine y_iconst (pc := 2) (v := (1 : Int32)) C dX10_letters_2 (by decide) ?_
  refine y_istore (pc := 3) (lv' := [(4, .int (1 : Int32)), (3, .int (0 : Int32)), (0, .ref (ad x0)), (1, .long x1)]) C dX10_letters_3 (by decide) rfl ?_
  refine y_lload_n (pc := 5) (q := 3) C dX10_letters_5 rfl rfl ?_
  refine y_lstore (pc := 6) (lv' := [(5, .long x1), (4, .int (1 : Int32)), (3, .int (0 : Int32)), (0, .ref (ad x0)), (1, .long x1)]) C dX10_letters_6 (by decide) rfl ?_
  refine y_iconst (pc := 8) (v := (0 : Int32)) C dX10_letters_8 (by decide) ?_
  refine y_istore (pc := 9) (lv' := [(7, .int (0 : Int32)), (5, .long x1), (4, .int (1 : Int32)), (3, .int (0 : Int32)), (0, .ref (ad x0)), (1, .long x1)]) C dX10_letters_9 (by decide) rfl ?_
  refine y_sub [4, 5, 3, 2, 1, 0] (lv' := [(0, .ref (ad x0)), (1, .long x1), (3, .int (0 : Int32)), (4, .int (1 : Int32)), (5, .long x1), (7, .int (0 : Int32))]) rfl ?_
  exact tX10_letters_11 (fu := fu) C hx0 fu _ _ _ _ _ h
noncomputable def fX10_letters (fu : Nat) (x0 : Nat) (x1 : Int64) (σ : St) : Option (Int32 × St) := if xk x0 = 8 then fX10_letters_0 fu x0 x1 σ else none
theorem mX10_letters {l : Launch} {D : va_G} {cA : ClassId} {bs fu : Nat} {ad : Nat → Nat} {x0 : Nat} {x1 : Int64} {σ : St} {q : Int32 × St} (h : fX10_letters fu x0 x1 σ = some q) : Ct l D cA bs ad yX10_letters cX10_letters 9 (some .int) 0 0 [.ref (ad x0), .long x1] σ (some (.int q.1)) q.2 := by
  unfold fX10_letters at h
  by_cases hx0 : xk x0 = 8
  case neg => rw [if_neg hx0] at h; cases h
  rw [if_pos hx0] at h
  exact Ct.of (by decide) (Nat.le_of_ble_eq_true rfl) (fun p e s m args below meth c C => tX10_letters_0 (fu := fu) C hx0 h)
