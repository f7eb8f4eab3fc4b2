noncomputable def fX6_size_0 (fu : Nat) (x0 : Nat) (σ : St) : Option (Int32 × St) :=
  some ((σ.1 x0 1), σ)
set_option maxHeartbeats 4000000 in
set_option maxRecDepth 100000 in
theorem tX6_size_0 {l : Launch} {D : va_G} {cA : ClassId} {bs : Nat} {ad : Nat → Nat} {p : Program} {e : Env} {s : State} {m : MethodId} {args : Array Value} {below : List Frame} {meth : Method} {c : Code} {fu : Nat} (C : Cx D cA bs ad RX6 cX6_size 1 (some .int) p s m args meth c) {x0 : Nat} {q : Int32 × St} (hx0 : xk x0 = 4) {σ : St} (h : fX6_size_0 fu x0 σ = some q) : Y D cA bs ad p l e (rmY 0 0) s m args below meth c 1 0 0 (QM D cA bs ad below args s (some (.int q.1)) q.2) σ 0 [(0, .ref (ad x0))] [] := by
  unfold fX6_size_0 at h
  refine y_aload_n (pc := 0) (q := 0) C dX6_size_0 rfl rfl ?_
  refine y_geti (pc := 1) C faX6_15 rfl hx0 dX6_size_1 ?_
  cases h
  exact y_iret (pc := 4) C dX6_size_4
noncomputable def fX6_size (fu : Nat) (x0 : Nat) (σ : St) : Option (Int32 × St) := if xk x0 = 4 then fX6_size_0 fu x0 σ else none
theorem mX6_size {l : Launch} {D : va_G} {cA : ClassId} {bs fu : Nat} {ad : Nat → Nat} {x0 : Nat} {σ : St} {q : Int32 × St} (h : fX6_size fu x0 σ = some q) : Ct l D cA bs ad yX6_size cX6_size 1 (some .int) 0 0 [.ref (ad x0)] σ (some (.int q.1)) q.2 := by
  unfold fX6_size at h
  by_cases hx0 : xk x0 = 4
  case neg => rw [if_neg hx0] at h; cases h
  rw [if_pos hx0] at h
  exact Ct.of (by decide) (Nat.le_of_ble_eq_true rfl) (fun p e s m args below meth c C => tX6_size_0 (fu := fu) C hx0 h)
noncomputable def fX6_blockIn_22 (fu : Nat) (x0 : Nat) (x1 : Int32) (s0 : Int32) (σ : St) : Option (Int32 × St) :=
  some (s0, σ)
set_option maxHeartbeats 4000000 in
set_option maxRecDepth 100000 in
theorem tX6_blockIn_22 {l : Launch} {D : va_G} {cA : ClassId} {bs : Nat} {ad : Nat → Nat} {p : Program} {e : Env} {s : State} {m : MethodId} {args : Array Value} {below : List Frame} {meth : Method} {c : Code} {fu : Nat} (C : Cx D cA bs ad RX6 cX6_blockIn 2 (some .int) p s m args meth c) {x0 : Nat} {x1 : Int32} {s0 : Int32} {q : Int32 × St} (hx0 : xk x0 = 4) {σ : St} (h : fX6_blockIn_22 fu x0 x1 s0 σ = some q) : Y D cA bs ad p l e (rmY 0 0) s m args below meth c 2 0 0 (QM D cA bs ad below args s (some (.int q.1)) q.2) σ 22 [(0, .ref (ad x0)), (1, .int x1)] [.int s0] := by
  unfold fX6_blockIn_22 at h
  cases h
  exact y_iret (pc := 22) C dX6_blockIn_22
noncomputable def fX6_blockIn_21 (fu : Nat) (x0 : Nat) (x1 : Int32) (σ : St) : Option (Int32 × St) :=
  fX6_blockIn_22 fu x0 x1 (0 : Int32) σ
set_option maxHeartbeats 4000000 in
set_option maxRecDepth 100000 in
theorem tX6_blockIn_21 {l : Launch} {D : va_G} {cA : ClassId} {bs : Nat} {ad : Nat → Nat} {p : Program} {e : Env} {s : State} {m : MethodId} {args : Array Value} {below : List Frame} {meth : Method} {c : Code} {fu : Nat} (C : Cx D cA bs ad RX6 cX6_blockIn 2 (some .int) p s m args meth c) {x0 : Nat} {x1 : Int32} {q : Int32 × St} (hx0 : xk x0 = 4) {σ : St} (h : fX6_blockIn_21 fu x0 x1 σ = some q) : Y D cA bs ad p l e (rmY 0 0) s m args below meth c 2 0 0 (QM D cA bs ad below args s (some (.int q.1)) q.2) σ 21 [(0, .ref (ad x0)), (1, .int x1)] [] := by
  unfold fX6_blockIn_21 at h
  refine y_iconst (pc := 21) (v := (0 : Int32)) C dX6_blockIn_21 (by decide) ?_
  exact tX6_blockIn_22 (fu := fu) C hx0 h
noncomputable def fX6_blockIn_0 (fu : Nat) (x0 : Nat) (x1 : Int32) (σ : St) : Option (Int32 × St) :=
  if x1 < 0 then
    fX6_blockIn_21 fu x0 x1 σ
  else
    if (σ.1 x0 1) ≤ x1 then
      fX6_blockIn_21 fu x0 x1 σ
    else
      (ald σ (rf x0 0) 7 x1).bind fun (v103 : Int32) =>
      fX6_blockIn_22 fu x0 x1 v103 σ
set_option maxHeartbeats 4000000 in
set_option maxRecDepth 100000 in
theorem tX6_blockIn_0 {l : Launch} {D : va_G} {cA : ClassId} {bs : Nat} {ad : Nat → Nat} {p : Program} {e : Env} {s : State} {m : MethodId} {args : Array Value} {below : List Frame} {meth : Method} {c : Code} {fu : Nat} (C : Cx D cA bs ad RX6 cX6_blockIn 2 (some .int) p s m args meth c) {x0 : Nat} {x1 : Int32} {q : Int32 × St} (hx0 : xk x0 = 4) {σ : St} (h : fX6_blockIn_0 fu x0 x1 σ = some q) : Y D cA bs ad p l e (rmY 0 0) s m args below meth c 2 0 0 (QM D cA bs ad below args s (some (.int q.1)) q.2) σ 0 [(0, .ref (ad x0)), (1, .int x1)] [] := by
  unfold fX6_blockIn_0 at h
  refine y_iload_n (pc := 0) (q := 1) C dX6_blockIn_0 rfl rfl ?_
  refine y_if_lt (pc := 1) (tgt := 21) C dX6_blockIn_1 (by decide) (fun c101 => ?_) (fun c101 => ?_)
  · rw [if_pos c101] at h
    exact tX6_blockIn_21 (fu := fu) C hx0 h
  · rw [if_neg c101] at h
    refine y_iload_n (pc := 4) (q := 1) C dX6_blockIn_4 rfl rfl ?_
    refine y_aload_n (pc := 5) (q := 0) C dX6_blockIn_5 rfl rfl ?_
    refine y_geti (pc := 6) C faX6_15 rfl hx0 dX6_blockIn_6 ?_
    refine y_icmp_ge (pc := 9) (tgt := 21) C dX6_blockIn_9 (by decide) (fun c102 => ?_) (fun c102 => ?_)
    · rw [if_pos c102] at h
      exact tX6_blockIn_21 (fu := fu) C hx0 h
    · rw [if_neg c102] at h
      refine y_aload_n (pc := 12) (q := 0) C dX6_blockIn_12 rfl rfl ?_
      refine y_getr (pc := 13) C faX6_9 rfl hx0 dX6_blockIn_13 ?_
      refine y_iload_n (pc := 16) (q := 1) C dX6_blockIn_16 rfl rfl ?_
      obtain ⟨v103, ev103, h⟩ := bdS h
      refine y_iald (pc := 17) (n := 7) C (rf_4_0 _ hx0) (by decide) ev103 dX6_blockIn_17 ?_
      refine y_goto (pc := 18) (tgt := 22) C dX6_blockIn_18 (by decide) ?_
      exact tX6_blockIn_22 (fu := fu) C hx0 h
noncomputable def fX6_blockIn (fu : Nat) (x0 : Nat) (x1 : Int32) (σ : St) : Option (Int32 × St) := if xk x0 = 4 then fX6_blockIn_0 fu x0 x1 σ else none
theorem mX6_blockIn {l : Launch} {D : va_G} {cA : ClassId} {bs fu : Nat} {ad : Nat → Nat} {x0 : Nat} {x1 : Int32} {σ : St} {q : Int32 × St} (h : fX6_blockIn fu x0 x1 σ = some q) : Ct l D cA bs ad yX6_blockIn cX6_blockIn 2 (some .int) 0 0 [.ref (ad x0), .int x1] σ (some (.int q.1)) q.2 := by
  unfold fX6_blockIn at h
  by_cases hx0 : xk x0 = 4
  case neg => rw [if_neg hx0] at h; cases h
  rw [if_pos hx0] at h
  exact Ct.of (by decide) (Nat.le_of_ble_eq_true rfl) (fun p e s m args below meth c C => tX6_blockIn_0 (fu := fu) C hx0 h)
noncomputable def fX8_placeOf_0 (fu : Nat) (x0 : Nat) (x1 : Int32) (σ : St) : Option (Int32 × St) :=
  (ald σ (rf x0 4) 7 x1).bind fun (v101 : Int32) =>
  some (v101, σ)
set_option maxHeartbeats 4000000 in
set_option maxRecDepth 100000 in
theorem tX8_placeOf_0 {l : Launch} {D : va_G} {cA : ClassId} {bs : Nat} {ad : Nat → Nat} {p : Program} {e : Env} {s : State} {m : MethodId} {args : Array Value} {below : List Frame} {meth : Method} {c : Code} {fu : Nat} (C : Cx D cA bs ad RX8 cX8_placeOf 2 (some .int) p s m args meth c) {x0 : Nat} {x1 : Int32} {q : Int32 × St} (hx0 : xk x0 = 6) {σ : St} (h : fX8_placeOf_0 fu x0 x1 σ = some q) : Y D cA bs ad p l e (rmY 0 0) s m args below meth c 2 0 0 (QM D cA bs ad below args s (some (.int q.1)) q.2) σ 0 [(0, .ref (ad x0)), (1, .int x1)] [] := by
  unfold fX8_placeOf_0 at h
  refine y_aload_n (pc := 0) (q := 0) C dX8_placeOf_0 rfl rfl ?_
  refine y_getr (pc := 1) C faX8_24 rfl hx0 dX8_placeOf_1 ?_
  refine y_iload_n (pc := 4) (q := 1) C dX8_placeOf_4 rfl rfl ?_
  obtain ⟨v101, ev101, h⟩ := bdS h
  refine y_iald (pc := 5) (n := 7) C (rf_6_4 _ hx0) (by decide) ev101 dX8_placeOf_5 ?_
  cases h
  exact y_iret (pc := 6) C dX8_placeOf_6
noncomputable def fX8_placeOf (fu : Nat) (x0 : Nat) (x1 : Int32) (σ : St) : Option (Int32 × St) := if xk x0 = 6 then fX8_placeOf_0 fu x0 x1 σ else none
theorem mX8_placeOf {l : Launch} {D : va_G} {cA : ClassId} {bs fu : Nat} {ad : Nat → Nat} {x0 : Nat} {x1 : Int32} {σ : St} {q : Int32 × St} (h : fX8_placeOf fu x0 x1 σ = some q) : Ct l D cA bs ad yX8_placeOf cX8_placeOf 2 (some .int) 0 0 [.ref (ad x0), .int x1] σ (some (.int q.1)) q.2 := by
  unfold fX8_placeOf at h
  by_cases hx0 : xk x0 = 6
  case neg => rw [if_neg hx0] at h; cases h
  rw [if_pos hx0] at h
  exact Ct.of (by decide) (Nat.le_of_ble_eq_true rfl) (fun p e s m args below meth c C => tX8_placeOf_0 (fu := fu) C hx0 h)
noncomputable def fX0_wayTo_6b (fu : Nat) (k6 : Int32 → Int32 → St → Option (Int32 × St)) (x0 : Nat) (x1 : Nat) (x2 : Int32) (x3 : Int32) (x4 : Int32) (x5 : Int32) (σ : St) : Option (Int32 × St) :=
  if x3 ≤ x5 then
    some (x4, σ)
  else
    (fX6_blockIn fu x1 x5 σ).bind fun (q102 : Int32 × St) =>
    (fX8_placeOf fu x0 q102.1 q102.2).bind fun (q103 : Int32 × St) =>
    nm (x4 + (jabs (q103.1 - x5))) fun (y104 : Int32) =>
    nm (x5 + (1 : Int32)) fun (y105 : Int32) =>
    k6 y104 y105 q103.2
set_option maxHeartbeats 4000000 in
set_option maxRecDepth 100000 in
theorem tX0_wayTo_6b {l : Launch} {D : va_G} {cA : ClassId} {bs : Nat} {ad : Nat → Nat} {p : Program} {e : Env} {s : State} {m : MethodId} {args : Array Value} {below : List Frame} {meth : Method} {c : Code} {fu : Nat} (C : Cx D cA bs ad RX0 cX0_wayTo 6 (some .int) p s m args meth c) {k6 : Int32 → Int32 → St → Option (Int32 × St)} {x0 : Nat} {x1 : Nat} {x2 : Int32} {x3 : Int32} {x4 : Int32} {x5 : Int32} {q : Int32 × St} (hx0 : xk x0 = 6) (hx1 : xk x1 = 4) (hk6 : ∀ (x4 : Int32) (x5 : Int32) (σ : St), k6 x4 x5 σ = some q → Y D cA bs ad p l e (rmY 1 21) s m args below meth c 6 0 0 (QM D cA bs ad below args s (some (.int q.1)) q.2) σ 6 [(0, .ref (ad x0)), (1, .ref (ad x1)), (2, .int x2), (3, .int x3), (4, .int x4), (5, .int x5)] []) {σ : St} (h : fX0_wayTo_6b fu k6 x0 x1 x2 x3 x4 x5 σ = some q) : Y D cA bs ad p l e (rmY 1 21) s m args below meth c 6 0 0 (QM D cA bs ad below args s (some (.int q.1)) q.2) σ 6 [(0, .ref (ad x0)), (1, .ref (ad x1)), (2, .int x2), (3, .int x3), (4, .int x4), (5, .int x5)] [] := by
  unfold fX0_wayTo_6b at h
  refine y_iload (pc := 6) (q := 5) C dX0_wayTo_6 rfl ?_
  refine y_iload_n (pc := 8) (q := 3) C dX0_wayTo_8 rfl rfl ?_
  refine y_icmp_ge (pc := 9) (tgt := 39) C dX0_wayTo_9 (by decide) (fun c101 => ?_) (fun c101 => ?_)
  · rw [if_pos c101] at h
    refine y_iload (pc := 39) (q := 4) C dX0_wayTo_39 rfl ?_
    cases h
    exact y_iret (pc := 41) C dX0_wayTo_41
  · rw [if_neg c101] at h
    refine y_iload (pc := 12) (q := 4) C dX0_wayTo_12 rfl ?_
    refine y_aload_n (pc := 14) (q := 0) C dX0_wayTo_14 rfl rfl ?_
    refine y_aload_n (pc := 15) (q := 1) C dX0_wayTo_15 rfl rfl ?_
    refine y_iload (pc := 16) (q := 5) C dX0_wayTo_16 rfl ?_
    obtain ⟨q102, eq102, h⟩ := bdS h
    refine y_callV (pc := 18) (As := [.int x5]) (rest := [.ref (ad x0), .int x4]) C (mX6_blockIn (fu := fu) eq102) vwX0_26 rfl (by decide) hx1 rfl rfl (Nat.le_of_ble_eq_true rfl) ⟨Nat.le_of_ble_eq_true rfl, Nat.le_of_ble_eq_true rfl⟩ ⟨Nat.le_refl _, Nat.le_refl _⟩ dX0_wayTo_18 ?_
    show Y _ _ _ _ _ _ _ _ _ _ _ _ _ _ _ _ _ _ q102.2 21 [(0, .ref (ad x0)), (1, .ref (ad x1)), (2, .int x2), (3, .int x3), (4, .int x4), (5, .int x5)] [.int q102.1, .ref (ad x0), .int x4]
    obtain ⟨q103, eq103, h⟩ := bdS h
    refine y_callV (pc := 21) (As := [.int q102.1]) (rest := [.int x4]) C (mX8_placeOf (fu := fu) eq103) vwX0_30 rfl (by decide) hx0 rfl rfl (Nat.le_of_ble_eq_true rfl) ⟨Nat.le_of_ble_eq_true rfl, Nat.le_of_ble_eq_true rfl⟩ ⟨Nat.le_refl _, Nat.le_refl _⟩ dX0_wayTo_21 ?_
    show Y _ _ _ _ _ _ _ _ _ _ _ _ _ _ _ _ _ _ q103.2 24 [(0, .ref (ad x0)), (1, .ref (ad x1)), (2, .int x2), (3, .int x3), (4, .int x4), (5, .int x5)] [.int q103.1, .int x4]
    refine y_iload (pc := 24) (q := 5) C dX0_wayTo_24 rfl ?_
    refine y_isub (pc := 26) C dX0_wayTo_26 ?_
    refine y_jabs (pc := 27) C jwX0_35 (Nat.le_of_ble_eq_true rfl) (Nat.le_of_ble_eq_true rfl) ⟨Nat.le_refl _, Nat.le_refl _⟩ dX0_wayTo_27 ?_
    refine y_iadd (pc := 30) C dX0_wayTo_30 ?_
    obtain ⟨y104, ey104, h⟩ := nmS h
    refine y_nmI y104 ey104 ?_
    refine y_istore (pc := 31) (lv' := [(4, .int y104), (0, .ref (ad x0)), (1, .ref (ad x1)), (2, .int x2), (3, .int x3), (5, .int x5)]) C dX0_wayTo_31 (by decide) rfl ?_
    obtain ⟨y105, ey105, h⟩ := nmS h
    refine y_iinc (pc := 33) (v := y105) (k := 5) (lv' := [(5, .int y105), (4, .int y104), (0, .ref (ad x0)), (1, .ref (ad x1)), (2, .int x2), (3, .int x3)]) C dX0_wayTo_33 rfl (by rw [ey105]; rfl) (by decide) rfl ?_
    refine y_goto (pc := 36) (tgt := 6) C dX0_wayTo_36 (by decide) ?_
    refine y_sub [2, 3, 4, 5, 1, 0] (lv' := [(0, .ref (ad x0)), (1, .ref (ad x1)), (2, .int x2), (3, .int x3), (4, .int y104), (5, .int y105)]) rfl ?_
    exact hk6 _ _ _ h
noncomputable def fX0_wayTo_6 (fu : Nat) (x0 : Nat) (x1 : Nat) (x2 : Int32) (x3 : Int32) : Nat → Int32 → Int32 → St → Option (Int32 × St) := lp (fun k6 => fX0_wayTo_6b fu k6 x0 x1 x2 x3) (fun _ _ _ => none)
set_option maxHeartbeats 4000000 in
theorem tX0_wayTo_6 {l : Launch} {D : va_G} {cA : ClassId} {bs : Nat} {ad : Nat → Nat} {p : Program} {e : Env} {s : State} {m : MethodId} {args : Array Value} {below : List Frame} {meth : Method} {c : Code} {fu : Nat} (C : Cx D cA bs ad RX0 cX0_wayTo 6 (some .int) p s m args meth c) {x0 : Nat} {x1 : Nat} {x2 : Int32} {x3 : Int32} {q : Int32 × St} (hx0 : xk x0 = 6) (hx1 : xk x1 = 4)  : ∀ (n : Nat) (x4 : Int32) (x5 : Int32) (σ : St), fX0_wayTo_6 fu  x0 x1 x2 x3 n x4 x5 σ = some q → Y D cA bs ad p l e (rmY 1 21) s m args below meth c 6 0 0 (QM D cA bs ad below args s (some (.int q.1)) q.2) σ 6 [(0, .ref (ad x0)), (1, .ref (ad x1)), (2, .int x2), (3, .int x3), (4, .int x4), (5, .int x5)] [] := by
  intro n
  induction n with
  | zero => intro x4 x5 σ h; cases h
  | succ n ih => intro x4 x5 σ h; exact tX0_wayTo_6b (fu := fu) C hx0 hx1 ih h
noncomputable def fX0_wayTo_0 (fu : Nat) (x0 : Nat) (x1 : Nat) (x2 : Int32) (x3 : Int32) (σ : St) : Option (Int32 × St) :=
  fX0_wayTo_6 fu x0 x1 x2 x3 fu (0 : Int32) x2 σ
set_option maxHeartbeats 4000000 in
set_option maxRecDepth 100000 in
theorem tX0_wayTo_0 {l : Launch} {D : va_G} {cA : ClassId} {bs : Nat} {ad : Nat → Nat} {p : Program} {e : Env} {s : State} {m : MethodId} {args : Array Value} {below : List Frame} {meth : Method} {c : Code} {fu : Nat} (C : Cx D cA bs ad RX0 cX0_wayTo 6 (some .int) p s m args meth c) {x0 : Nat} {x1 : Nat} {x2 : Int32} {x3 : Int32} {q : Int32 × St} (hx0 : xk x0 = 6) (hx1 : xk x1 = 4) {σ : St} (h : fX0_wayTo_0 fu x0 x1 x2 x3 σ = some q) : Y D cA bs ad p l e (rmY 1 21) s m args below meth c 6 0 0 (QM D cA bs ad below args s (some (.int q.1)) q.2) σ 0 [(0, .ref (ad x0)), (1, .ref (ad x1)), (2, .int x2), (3, .int x3)] [] := by
  unfold fX0_wayTo_0 at h
  refine y_iconst (pc := 0) (v := (0 : Int32)) C dX0_wayTo_0 (by decide) ?_
  refine y_istore (pc := 1) (lv' := [(4, .int (0 : Int32)), (0, .ref (ad x0)), (1, .ref (ad x1)), (2, .int x2), (3, .int x3)]) C dX0_wayTo_1 (by decide) rfl ?_
  refine y_iload_n (pc := 3) (q := 3) C dX0_wayTo_3 rfl rfl ?_
  refine y_istore (pc := 4) (lv' := [(5, .int x2), (4, .int (0 : Int32)), (0, .ref (ad x0)), (1, .ref (ad x1)), (2, .int x2), (3, .int x3)]) C dX0_wayTo_4 (by decide) rfl ?_
  refine y_sub [2, 3, 4, 5, 1, 0] (lv' := [(0, .ref (ad x0)), (1, .ref (ad x1)), (2, .int x2), (3, .int x3), (4, .int (0 : Int32)), (5, .int x2)]) rfl ?_
  exact tX0_wayTo_6 (fu := fu) C hx0 hx1 fu _ _ _ h
noncomputable def fX0_wayTo (fu : Nat) (x0 : Nat) (x1 : Nat) (x2 : Int32) (x3 : Int32) (σ : St) : Option (Int32 × St) := if xk x0 = 6 then if xk x1 = 4 then fX0_wayTo_0 fu x0 x1 x2 x3 σ else none else none
theorem mX0_wayTo {l : Launch} {D : va_G} {cA : ClassId} {bs fu : Nat} {ad : Nat → Nat} {x0 : Nat} {x1 : Nat} {x2 : Int32} {x3 : Int32} {σ : St} {q : Int32 × St} (h : fX0_wayTo fu x0 x1 x2 x3 σ = some q) : Ct l D cA bs ad yX0_wayTo cX0_wayTo 6 (some .int) 1 21 [.ref (ad x0), .ref (ad x1), .int x2, .int x3] σ (some (.int q.1)) q.2 := by
  unfold fX0_wayTo at h
  by_cases hx0 : xk x0 = 6
  case neg => rw [if_neg hx0] at h; cases h
  rw [if_pos hx0] at h
  by_cases hx1 : xk x1 = 4
  case neg => rw [if_neg hx1] at h; cases h
  rw [if_pos hx1] at h
  exact Ct.of (by decide) (Nat.le_of_ble_eq_true rfl) (fun p e s m args below meth c C => tX0_wayTo_0 (fu := fu) C hx0 hx1 h)
noncomputable def fX0_ringFrom_9b (fu : Nat) (k9 : Int32 → Int32 → Int32 → St → Option (Int32 × St)) (x0 : Nat) (x1 : Nat) (x2 : Int32) (x3 : Int32) (x4 : Int32) (x5 : Int32) (x6 : Int32) (σ : St) : Option (Int32 × St) :=
  (fX6_size fu x1 σ).bind fun (q101 : Int32 × St) =>
  if q101.1 ≤ x6 then
    some (x4, q101.2)
  else
    nm (x4 ||| ((1 : Int32) <<< (x5 &&& 31))) fun (y103 : Int32) =>
    (fX6_blockIn fu x1 x5 q101.2).bind fun (q104 : Int32 × St) =>
    (fX8_placeOf fu x0 q104.1 q104.2).bind fun (q105 : Int32 × St) =>
    nm (x6 + (1 : Int32)) fun (y106 : Int32) =>
    k9 y103 q105.1 y106 q105.2
set_option maxHeartbeats 4000000 in
set_option maxRecDepth 100000 in
theorem tX0_ringFrom_9b {l : Launch} {D : va_G} {cA : ClassId} {bs : Nat} {ad : Nat → Nat} {p : Program} {e : Env} {s : State} {m : MethodId} {args : Array Value} {below : List Frame} {meth : Method} {c : Code} {fu : Nat} (C : Cx D cA bs ad RX0 cX0_ringFrom 7 (some .int) p s m args meth c) {k9 : Int32 → Int32 → Int32 → St → Option (Int32 × St)} {x0 : Nat} {x1 : Nat} {x2 : Int32} {x3 : Int32} {x4 : Int32} {x5 : Int32} {x6 : Int32} {q : Int32 × St} (hx0 : xk x0 = 6) (hx1 : xk x1 = 4) (hk9 : ∀ (x4 : Int32) (x5 : Int32) (x6 : Int32) (σ : St), k9 x4 x5 x6 σ = some q → Y D cA bs ad p l e (rmY 1 21) s m args below meth c 7 0 0 (QM D cA bs ad below args s (some (.int q.1)) q.2) σ 9 [(0, .ref (ad x0)), (1, .ref (ad x1)), (2, .int x2), (3, .int x3), (4, .int x4), (5, .int x5), (6, .int x6)] []) {σ : St} (h : fX0_ringFrom_9b fu k9 x0 x1 x2 x3 x4 x5 x6 σ = some q) : Y D cA bs ad p l e (rmY 1 21) s m args below meth c 7 0 0 (QM D cA bs ad below args s (some (.int q.1)) q.2) σ 9 [(0, .ref (ad x0)), (1, .ref (ad x1)), (2, .int x2), (3, .int x3), (4, .int x4), (5, .int x5), (6, .int x6)] [] := by
  unfold fX0_ringFrom_9b at h
  refine y_iload (pc := 9) (q := 6) C dX0_ringFrom_9 rfl ?_
  refine y_aload_n (pc := 11) (q := 1) C dX0_ringFrom_11 rfl rfl ?_
  obtain ⟨q101, eq101, h⟩ := bdS h
  refine y_callV (pc := 12) (As := []) (rest := [.int x6]) C (mX6_size (fu := fu) eq101) vwX0_7 rfl (by decide) hx1 rfl rfl (Nat.le_of_ble_eq_true rfl) ⟨Nat.le_of_ble_eq_true rfl, Nat.le_of_ble_eq_true rfl⟩ ⟨Nat.le_refl _, Nat.le_refl _⟩ dX0_ringFrom_12 ?_
  show Y _ _ _ _ _ _ _ _ _ _ _ _ _ _ _ _ _ _ q101.2 15 [(0, .ref (ad x0)), (1, .ref (ad x1)), (2, .int x2), (3, .int x3), (4, .int x4), (5, .int x5), (6, .int x6)] [.int q101.1, .int x6]
  refine y_icmp_ge (pc := 15) (tgt := 45) C dX0_ringFrom_15 (by decide) (fun c102 => ?_) (fun c102 => ?_)
  · rw [if_pos c102] at h
    refine y_iload (pc := 45) (q := 4) C dX0_ringFrom_45 rfl ?_
    cases h
    exact y_iret (pc := 47) C dX0_ringFrom_47
  · rw [if_neg c102] at h
    refine y_iload (pc := 18) (q := 4) C dX0_ringFrom_18 rfl ?_
    refine y_iconst (pc := 20) (v := (1 : Int32)) C dX0_ringFrom_20 (by decide) ?_
    refine y_iload (pc := 21) (q := 5) C dX0_ringFrom_21 rfl ?_
    refine y_ishl (pc := 23) C dX0_ringFrom_23 ?_
    refine y_ior (pc := 24) C dX0_ringFrom_24 ?_
    obtain ⟨y103, ey103, h⟩ := nmS h
    refine y_nmI y103 ey103 ?_
    refine y_istore (pc := 25) (lv' := [(4, .int y103), (0, .ref (ad x0)), (1, .ref (ad x1)), (2, .int x2), (3, .int x3), (5, .int x5), (6, .int x6)]) C dX0_ringFrom_25 (by decide) rfl ?_
    refine y_aload_n (pc := 27) (q := 1) C dX0_ringFrom_27 rfl rfl ?_
    refine y_aload_n (pc := 28) (q := 2) C dX0_ringFrom_28 rfl rfl ?_
    refine y_iload (pc := 29) (q := 5) C dX0_ringFrom_29 rfl ?_
    obtain ⟨q104, eq104, h⟩ := bdS h
    refine y_callV (pc := 31) (As := [.int x5]) (rest := [.ref (ad x0)]) C (mX6_blockIn (fu := fu) eq104) vwX0_26 rfl (by decide) hx1 rfl rfl (Nat.le_of_ble_eq_true rfl) ⟨Nat.le_of_ble_eq_true rfl, Nat.le_of_ble_eq_true rfl⟩ ⟨Nat.le_refl _, Nat.le_refl _⟩ dX0_ringFrom_31 ?_
    show Y _ _ _ _ _ _ _ _ _ _ _ _ _ _ _ _ _ _ q104.2 34 [(4, .int y103), (0, .ref (ad x0)), (1, .ref (ad x1)), (2, .int x2), (3, .int x3), (5, .int x5), (6, .int x6)] [.int q104.1, .ref (ad x0)]
    obtain ⟨q105, eq105, h⟩ := bdS h
    refine y_callV (pc := 34) (As := [.int q104.1]) (rest := []) C (mX8_placeOf (fu := fu) eq105) vwX0_30 rfl (by decide) hx0 rfl rfl (Nat.le_of_ble_eq_true rfl) ⟨Nat.le_of_ble_eq_true rfl, Nat.le_of_ble_eq_true rfl⟩ ⟨Nat.le_refl _, Nat.le_refl _⟩ dX0_ringFrom_34 ?_
    show Y _ _ _ _ _ _ _ _ _ _ _ _ _ _ _ _ _ _ q105.2 37 [(4, .int y103), (0, .ref (ad x0)), (1, .ref (ad x1)), (2, .int x2), (3, .int x3), (5, .int x5), (6, .int x6)] [.int q105.1]
    refine y_istore (pc := 37) (lv' := [(5, .int q105.1), (4, .int y103), (0, .ref (ad x0)), (1, .ref (ad x1)), (2, .int x2), (3, .int x3), (6, .int x6)]) C dX0_ringFrom_37 (by decide) rfl ?_
    obtain ⟨y106, ey106, h⟩ := nmS h
    refine y_iinc (pc := 39) (v := y106) (k := 6) (lv' := [(6, .int y106), (5, .int q105.1), (4, .int y103), (0, .ref (ad x0)), (1, .ref (ad x1)), (2, .int x2), (3, .int x3)]) C dX0_ringFrom_39 rfl (by rw [ey106]; rfl) (by decide) rfl ?_
    refine y_goto (pc := 42) (tgt := 9) C dX0_ringFrom_42 (by decide) ?_
    refine y_sub [3, 4, 5, 6, 2, 1, 0] (lv' := [(0, .ref (ad x0)), (1, .ref (ad x1)), (2, .int x2), (3, .int x3), (4, .int y103), (5, .int q105.1), (6, .int y106)]) rfl ?_
    exact hk9 _ _ _ _ h
noncomputable def fX0_ringFrom_9 (fu : Nat) (x0 : Nat) (x1 : Nat) (x2 : Int32) (x3 : Int32) : Nat → Int32 → Int32 → Int32 → St → Option (Int32 × St) := lp (fun k9 => fX0_ringFrom_9b fu k9 x0 x1 x2 x3) (fun _ _ _ _ => none)
set_option maxHeartbeats 4000000 in
theorem tX0_ringFrom_9 {l : Launch} {D : va_G} {cA : ClassId} {bs : Nat} {ad : Nat → Nat} {p : Program} {e : Env} {s : State} {m : MethodId} {args : Array Value} {below : List Frame} {meth : Method} {c : Code} {fu : Nat} (C : Cx D cA bs ad RX0 cX0_ringFrom 7 (some .int) p s m args meth c) {x0 : Nat} {x1 : Nat} {x2 : Int32} {x3 : Int32} {q : Int32 × St} (hx0 : xk x0 = 6) (hx1 : xk x1 = 4)  : ∀ (n : Nat) (x4 : Int32) (x5 : Int32) (x6 : Int32) (σ : St), fX0_ringFrom_9 fu  x0 x1 x2 x3 n x4 x5 x6 σ = some q → Y D cA bs ad p l e (rmY 1 21) s m args below meth c 7 0 0 (QM D cA bs ad below args s (some (.int q.1)) q.2) σ 9 [(0, .ref (ad x0)), (1, .ref (ad x1)), (2, .int x2), (3, .int x3), (4, .int x4), (5, .int x5), (6, .int x6)] [] := by
  intro n
  induction n with
  | zero => intro x4 x5 x6 σ h; cases h
  | succ n ih => intro x4 x5 x6 σ h; exact tX0_ringFrom_9b (fu := fu) C hx0 hx1 ih h
noncomputable def fX0_ringFrom_0 (fu : Nat) (x0 : Nat) (x1 : Nat) (x2 : Int32) (x3 : Int32) (σ : St) : Option (Int32 × St) :=
  fX0_ringFrom_9 fu x0 x1 x2 x3 fu x3 x2 (0 : Int32) σ
set_option maxHeartbeats 4000000 in
set_option maxRecDepth 100000 in
theorem tX0_ringFrom_0 {l : Launch} {D : va_G} {cA : ClassId} {bs : Nat} {ad : Nat → Nat} {p : Program} {e : Env} {s : State} {m : MethodId} {args : Array Value} {below : List Frame} {meth : Method} {c : Code} {fu : Nat} (C : Cx D cA bs ad RX0 cX0_ringFrom 7 (some .int) p s m args meth c) {x0 : Nat} {x1 : Nat} {x2 : Int32} {x3 : Int32} {q : Int32 × St} (hx0 : xk x0 = 6) (hx1 : xk x1 = 4) {σ : St} (h : fX0_ringFrom_0 fu x0 x1 x2 x3 σ = some q) : Y D cA bs ad p l e (rmY 1 21) s m args below meth c 7 0 0 (QM D cA bs ad below args s (some (.int q.1)) q.2) σ 0 [(0, .ref (ad x0)), (1, .ref (ad x1)), (2, .int x2), (3, .int x3)] [] := by
  unfold fX0_ringFrom_0 at h
  refine y_iload_n (pc := 0) (q := 3) C dX0_ringFrom_0 rfl rfl ?_
  refine y_istore (pc := 1) (lv' := [(4, .int x3), (0, .ref (ad x0)), (1, .ref (ad x1)), (2, .int x2), (3, .int x3)]) C dX0_ringFrom_1 (by decide) rfl ?_
  refine y_iload_n (pc := 3) (q := 3) C dX0_ringFrom_3 rfl rfl ?_
  refine y_istore (pc := 4) (lv' := [(5, .int x2), (4, .int x3), (0, .ref (ad x0)), (1, .ref (ad x1)), (2, .int x2), (3, .int x3)]) C dX0_ringFrom_4 (by decide) rfl ?_
  refine y_iconst (pc := 6) (v := (0 : Int32)) C dX0_ringFrom_6 (by decide) ?_
  refine y_istore (pc := 7) (lv' := [(6, .int (0 : Int32)), (5, .int x2), (4, .int x3), (0, .ref (ad x0)), (1, .ref (ad x1)), (2, .int x2), (3, .int x3)]) C dX0_ringFrom_7 (by decide) rfl ?_
  refine y_sub [3, 4, 5, 6, 2, 1, 0] (lv' := [(0, .ref (ad x0)), (1, .ref (ad x1)), (2, .int x2), (3, .int x3), (4, .int x3), (5, .int x2), (6, .int (0 : Int32))]) rfl ?_
  exact tX0_ringFrom_9 (fu := fu) C hx0 hx1 fu _ _ _ _ h
noncomputable def fX0_ringFrom (fu : Nat) (x0 : Nat) (x1 : Nat) (x2 : Int32) (x3 : Int32) (σ : St) : Option (Int32 × St) := if xk x0 = 6 then if xk x1 = 4 then fX0_ringFrom_0 fu x0 x1 x2 x3 σ else none else none
theorem mX0_ringFrom {l : Launch} {D : va_G} {cA : ClassId} {bs fu : Nat} {ad : Nat → Nat} {x0 : Nat} {x1 : Nat} {x2 : Int32} {x3 : Int32} {σ : St} {q : Int32 × St} (h : fX0_ringFrom fu x0 x1 x2 x3 σ = some q) : Ct l D cA bs ad yX0_ringFrom cX0_ringFrom 7 (some .int) 1 21 [.ref (ad x0), .ref (ad x1), .int x2, .int x3] σ (some (.int q.1)) q.2 := by
  unfold fX0_ringFrom at h
  by_cases hx0 : xk x0 = 6
  case neg => rw [if_neg hx0] at h; cases h
  rw [if_pos hx0] at h
  by_cases hx1 : xk x1 = 4
  case neg => rw [if_neg hx1] at h; cases h
  rw [if_pos hx1] at h
  exact Ct.of (by decide) (Nat.le_of_ble_eq_true rfl) (fun p e s m args below meth c C => tX0_ringFrom_0 (fu := fu) C hx0 hx1 h)
noncomputable def fX0_exchangesTo_37 (fu : Nat) (k7 : Int32 → Int32 → Int32 → St → Option (Int32 × St)) (x0 : Nat) (x1 : Nat) (x2 : Int32) (x3 : Int32) (x4 : Int32) (σ : St) : Option (Int32 × St) :=
  nm (x4 + (1 : Int32)) fun (y101 : Int32) =>
  k7 x2 x3 y101 σ
set_option maxHeartbeats 4000000 in
set_option maxRecDepth 100000 in
theorem tX0_exchangesTo_37 {l : Launch} {D : va_G} {cA : ClassId} {bs : Nat} {ad : Nat → Nat} {p : Program} {e : Env} {s : State} {m : MethodId} {args : Array Value} {below : List Frame} {meth : Method} {c : Code} {fu : Nat} (C : Cx D cA bs ad RX0 cX0_exchangesTo 5 (some .int) p s m args meth c) {k7 : Int32 → Int32 → Int32 → St → Option (Int32 × St)} {x0 : Nat} {x1 : Nat} {x2 : Int32} {x3 : Int32} {x4 : Int32} {q : Int32 × St} (hx0 : xk x0 = 6) (hx1 : xk x1 = 4) (hk7 : ∀ (x2 : Int32) (x3 : Int32) (x4 : Int32) (σ : St), k7 x2 x3 x4 σ = some q → Y D cA bs ad p l e (rmY 2 47) s m args below meth c 5 0 0 (QM D cA bs ad below args s (some (.int q.1)) q.2) σ 7 [(0, .ref (ad x0)), (1, .ref (ad x1)), (2, .int x2), (3, .int x3), (4, .int x4)] []) {σ : St} (h : fX0_exchangesTo_37 fu k7 x0 x1 x2 x3 x4 σ = some q) : Y D cA bs ad p l e (rmY 2 47) s m args below meth c 5 0 0 (QM D cA bs ad below args s (some (.int q.1)) q.2) σ 37 [(0, .ref (ad x0)), (1, .ref (ad x1)), (2, .int x2), (3, .int x3), (4, .int x4)] [] := by
  unfold fX0_exchangesTo_37 at h
  obtain ⟨y101, ey101, h⟩ := nmS h
  refine y_iinc (pc := 37) (v := y101) (k := 4) (lv' := [(4, .int y101), (0, .ref (ad x0)), (1, .ref (ad x1)), (2, .int x2), (3, .int x3)]) C dX0_exchangesTo_37 rfl (by rw [ey101]; rfl) (by decide) rfl ?_
  refine y_goto (pc := 40) (tgt := 7) C dX0_exchangesTo_40 (by decide) ?_
  refine y_sub [1, 2, 3, 4, 0] (lv' := [(0, .ref (ad x0)), (1, .ref (ad x1)), (2, .int x2), (3, .int x3), (4, .int y101)]) rfl ?_
  exact hk7 _ _ _ _ h
noncomputable def fX0_exchangesTo_7b (fu : Nat) (k7 : Int32 → Int32 → Int32 → St → Option (Int32 × St)) (x0 : Nat) (x1 : Nat) (x2 : Int32) (x3 : Int32) (x4 : Int32) (σ : St) : Option (Int32 × St) :=
  (fX6_size fu x1 σ).bind fun (q101 : Int32 × St) =>
  if q101.1 ≤ x4 then
    (fX6_size fu x1 q101.2).bind fun (q103 : Int32 × St) =>
    some ((q103.1 - x2), q103.2)
  else
    if ((x3 >>> (x4 &&& 31)) &&& (1 : Int32)) = 0 then
      nm (x2 + (1 : Int32)) fun (y105 : Int32) =>
      (fX0_ringFrom fu x0 x1 x4 x3 q101.2).bind fun (q106 : Int32 × St) =>
      fX0_exchangesTo_37 fu k7 x0 x1 y105 q106.1 x4 q106.2
    else
      fX0_exchangesTo_37 fu k7 x0 x1 x2 x3 x4 q101.2
set_option maxHeartbeats 4000000 in
set_option maxRecDepth 100000 in
theorem tX0_exchangesTo_7b {l : Launch} {D : va_G} {cA : ClassId} {bs : Nat} {ad : Nat → Nat} {p : Program} {e : Env} {s : State} {m : MethodId} {args : Array Value} {below : List Frame} {meth : Method} {c : Code} {fu : Nat} (C : Cx D cA bs ad RX0 cX0_exchangesTo 5 (some .int) p s m args meth c) {k7 : Int32 → Int32 → Int32 → St → Option (Int32 × St)} {x0 : Nat} {x1 : Nat} {x2 : Int32} {x3 : Int32} {x4 : Int32} {q : Int32 × St} (hx0 : xk x0 = 6) (hx1 : xk x1 = 4) (hk7 : ∀ (x2 : Int32) (x3 : Int32) (x4 : Int32) (σ : St), k7 x2 x3 x4 σ = some q → Y D cA bs ad p l e (rmY 2 47) s m args below meth c 5 0 0 (QM D cA bs ad below args s (some (.int q.1)) q.2) σ 7 [(0, .ref (ad x0)), (1, .ref (ad x1)), (2, .int x2), (3, .int x3), (4, .int x4)] []) {σ : St} (h : fX0_exchangesTo_7b fu k7 x0 x1 x2 x3 x4 σ = some q) : Y D cA bs ad p l e (rmY 2 47) s m args below meth c 5 0 0 (QM D cA bs ad below args s (some (.int q.1)) q.2) σ 7 [(0, .ref (ad x0)), (1, .ref (ad x1)), (2, .int x2), (3, .int x3), (4, .int x4)] [] := by
  unfold fX0_exchangesTo_7b at h
  refine y_iload (pc := 7) (q := 4) C dX0_exchangesTo_7 rfl ?_
  refine y_aload_n (pc := 9) (q := 1) C dX0_exchangesTo_9 rfl rfl ?_
  obtain ⟨q101, eq101, h⟩ := bdS h
  refine y_callV (pc := 10) (As := []) (rest := [.int x4]) C (mX6_size (fu := fu) eq101) vwX0_7 rfl (by decide) hx1 rfl rfl (Nat.le_of_ble_eq_true rfl) ⟨Nat.le_of_ble_eq_true rfl, Nat.le_of_ble_eq_true rfl⟩ ⟨Nat.le_refl _, Nat.le_refl _⟩ dX0_exchangesTo_10 ?_
  show Y _ _ _ _ _ _ _ _ _ _ _ _ _ _ _ _ _ _ q101.2 13 [(0, .ref (ad x0)), (1, .ref (ad x1)), (2, .int x2), (3, .int x3), (4, .int x4)] [.int q101.1, .int x4]
  refine y_icmp_ge (pc := 13) (tgt := 43) C dX0_exchangesTo_13 (by decide) (fun c102 => ?_) (fun c102 => ?_)
  · rw [if_pos c102] at h
    refine y_aload_n (pc := 43) (q := 1) C dX0_exchangesTo_43 rfl rfl ?_
    obtain ⟨q103, eq103, h⟩ := bdS h
    refine y_callV (pc := 44) (As := []) (rest := []) C (mX6_size (fu := fu) eq103) vwX0_7 rfl (by decide) hx1 rfl rfl (Nat.le_of_ble_eq_true rfl) ⟨Nat.le_of_ble_eq_true rfl, Nat.le_of_ble_eq_true rfl⟩ ⟨Nat.le_refl _, Nat.le_refl _⟩ dX0_exchangesTo_44 ?_
    show Y _ _ _ _ _ _ _ _ _ _ _ _ _ _ _ _ _ _ q103.2 47 [(0, .ref (ad x0)), (1, .ref (ad x1)), (2, .int x2), (3, .int x3), (4, .int x4)] [.int q103.1]
    refine y_iload_n (pc := 47) (q := 2) C dX0_exchangesTo_47 rfl rfl ?_
    refine y_isub (pc := 48) C dX0_exchangesTo_48 ?_
    cases h
    exact y_iret (pc := 49) C dX0_exchangesTo_49
  · rw [if_neg c102] at h
    refine y_iload_n (pc := 16) (q := 3) C dX0_exchangesTo_16 rfl rfl ?_
    refine y_iload (pc := 17) (q := 4) C dX0_exchangesTo_17 rfl ?_
    refine y_ishr (pc := 19) C dX0_exchangesTo_19 ?_
    refine y_iconst (pc := 20) (v := (1 : Int32)) C dX0_exchangesTo_20 (by decide) ?_
    refine y_iand (pc := 21) C dX0_exchangesTo_21 ?_
    refine y_if_ne (pc := 22) (tgt := 37) C dX0_exchangesTo_22 (by decide) (fun c104 => ?_) (fun c104 => ?_)
    · rw [if_neg c104] at h
      exact tX0_exchangesTo_37 (fu := fu) C hx0 hx1 hk7 h
    · rw [if_pos c104] at h
      obtain ⟨y105, ey105, h⟩ := nmS h
      refine y_iinc (pc := 25) (v := y105) (k := 2) (lv' := [(2, .int y105), (0, .ref (ad x0)), (1, .ref (ad x1)), (3, .int x3), (4, .int x4)]) C dX0_exchangesTo_25 rfl (by rw [ey105]; rfl) (by decide) rfl ?_
      refine y_aload_n (pc := 28) (q := 1) C dX0_exchangesTo_28 rfl rfl ?_
      refine y_aload_n (pc := 29) (q := 2) C dX0_exchangesTo_29 rfl rfl ?_
      refine y_iload (pc := 30) (q := 4) C dX0_exchangesTo_30 rfl ?_
      refine y_iload_n (pc := 32) (q := 3) C dX0_exchangesTo_32 rfl rfl ?_
      obtain ⟨q106, eq106, h⟩ := bdS h
      refine y_callS (pc := 33) (As := [.ref (ad x0), .ref (ad x1), .int x4, .int x3]) (rest := []) C (mX0_ringFrom (fu := fu) eq106) vwX0_44 rfl rfl (Nat.le_of_ble_eq_true rfl) ⟨Nat.le_of_ble_eq_true rfl, Nat.le_of_ble_eq_true rfl⟩ ⟨Nat.le_refl _, Nat.le_refl _⟩ dX0_exchangesTo_33 ?_
      show Y _ _ _ _ _ _ _ _ _ _ _ _ _ _ _ _ _ _ q106.2 36 [(2, .int y105), (0, .ref (ad x0)), (1, .ref (ad x1)), (3, .int x3), (4, .int x4)] [.int q106.1]
      refine y_istore_n (pc := 36) (lv' := [(3, .int q106.1), (2, .int y105), (0, .ref (ad x0)), (1, .ref (ad x1)), (4, .int x4)]) C dX0_exchangesTo_36 rfl (by decide) rfl ?_
      refine y_sub [2, 3, 1, 0, 4] (lv' := [(0, .ref (ad x0)), (1, .ref (ad x1)), (2, .int y105), (3, .int q106.1), (4, .int x4)]) rfl ?_
      exact tX0_exchangesTo_37 (fu := fu) C hx0 hx1 hk7 h
noncomputable def fX0_exchangesTo_7 (fu : Nat) (x0 : Nat) (x1 : Nat) : Nat → Int32 → Int32 → Int32 → St → Option (Int32 × St) := lp (fun k7 => fX0_exchangesTo_7b fu k7 x0 x1) (fun _ _ _ _ => none)
set_option maxHeartbeats 4000000 in
theorem tX0_exchangesTo_7 {l : Launch} {D : va_G} {cA : ClassId} {bs : Nat} {ad : Nat → Nat} {p : Program} {e : Env} {s : State} {m : MethodId} {args : Array Value} {below : List Frame} {meth : Method} {c : Code} {fu : Nat} (C : Cx D cA bs ad RX0 cX0_exchangesTo 5 (some .int) p s m args meth c) {x0 : Nat} {x1 : Nat} {q : Int32 × St} (hx0 : xk x0 = 6) (hx1 : xk x1 = 4)  : ∀ (n : Nat) (x2 : Int32) (x3 : Int32) (x4 : Int32) (σ : St), fX0_exchangesTo_7 fu  x0 x1 n x2 x3 x4 σ = some q → Y D cA bs ad p l e (rmY 2 47) s m args below meth c 5 0 0 (QM D cA bs ad below args s (some (.int q.1)) q.2) σ 7 [(0, .ref (ad x0)), (1, .ref (ad x1)), (2, .int x2), (3, .int x3), (4, .int x4)] [] := by
  intro n
  induction n with
  | zero => intro x2 x3 x4 σ h; cases h
  | succ n ih => intro x2 x3 x4 σ h; exact tX0_exchangesTo_7b (fu := fu) C hx0 hx1 ih h
noncomputable def fX0_exchangesTo_0 (fu : Nat) (x0 : Nat) (x1 : Nat) (σ : St) : Option (Int32 × St) :=
  fX0_exchangesTo_7 fu x0 x1 fu (0 : Int32) (0 : Int32) (0 : Int32) σ
set_option maxHeartbeats 4000000 in
set_option maxRecDepth 100000 in
theorem tX0_exchangesTo_0 {l : Launch} {D : va_G} {cA : ClassId} {bs : Nat} {ad : Nat → Nat} {p : Program} {e : Env} {s : State} {m : MethodId} {args : Array Value} {below : List Frame} {meth : Method} {c : Code} {fu : Nat} (C : Cx D cA bs ad RX0 cX0_exchangesTo 5 (some .int) p s m args meth c) {x0 : Nat} {x1 : Nat} {q : Int32 × St} (hx0 : xk x0 = 6) (hx1 : xk x1 = 4) {σ : St} (h : fX0_exchangesTo_0 fu x0 x1 σ = some q) : Y D cA bs ad p l e (rmY 2 47) s m args below meth c 5 0 0 (QM D cA bs ad below args s (some (.int q.1)) q.2) σ 0 [(0, .ref (ad x0)), (1, .ref (ad x1))] [] := by
  unfold fX0_exchangesTo_0 at h
  refine y_iconst (pc := 0) (v := (0 : Int32)) C dX0_exchangesTo_0 (by decide) ?_
  refine y_istore_n (pc := 1) (lv' := [(2, .int (0 : Int32)), (0, .ref (ad x0)), (1, .ref (ad x1))]) C dX0_exchangesTo_1 rfl (by decide) rfl ?_
  refine y_iconst (pc := 2) (v := (0 : Int32)) C dX0_exchangesTo_2 (by decide) ?_
  refine y_istore_n (pc := 3) (lv' := [(3, .int (0 : Int32)), (2, .int (0 : Int32)), (0, .ref (ad x0)), (1, .ref (ad x1))]) C dX0_exchangesTo_3 rfl (by decide) rfl ?_
  refine y_iconst (pc := 4) (v := (0 : Int32)) C dX0_exchangesTo_4 (by decide) ?_
  refine y_istore (pc := 5) (lv' := [(4, .int (0 : Int32)), (3, .int (0 : Int32)), (2, .int (0 : Int32)), (0, .ref (ad x0)), (1, .ref (ad x1))]) C dX0_exchangesTo_5 (by decide) rfl ?_
  refine y_sub [3, 4, 2, 1, 0] (lv' := [(0, .ref (ad x0)), (1, .ref (ad x1)), (2, .int (0 : Int32)), (3, .int (0 : Int32)), (4, .int (0 : Int32))]) rfl ?_
  exact tX0_exchangesTo_7 (fu := fu) C hx0 hx1 fu _ _ _ _ h
noncomputable def fX0_exchangesTo (fu : Nat) (x0 : Nat) (x1 : Nat) (σ : St) : Option (Int32 × St) := if xk x0 = 6 then if xk x1 = 4 then fX0_exchangesTo_0 fu x0 x1 σ else none else none
theorem mX0_exchangesTo {l : Launch} {D : va_G} {cA : ClassId} {bs fu : Nat} {ad : Nat → Nat} {x0 : Nat} {x1 : Nat} {σ : St} {q : Int32 × St} (h : fX0_exchangesTo fu x0 x1 σ = some q) : Ct l D cA bs ad yX0_exchangesTo cX0_exchangesTo 5 (some .int) 2 47 [.ref (ad x0), .ref (ad x1)] σ (some (.int q.1)) q.2 := by
  unfold fX0_exchangesTo at h
  by_cases hx0 : xk x0 = 6
  case neg => rw [if_neg hx0] at h; cases h
  rw [if_pos hx0] at h
  by_cases hx1 : xk x1 = 4
  case neg => rw [if_neg hx1] at h; cases h
  rw [if_pos hx1] at h
  exact Ct.of (by decide) (Nat.le_of_ble_eq_true rfl) (fun p e s m args below meth c C => tX0_exchangesTo_0 (fu := fu) C hx0 hx1 h)
noncomputable def fX0_greaterGang_0 (fu : Nat) (x0 : Nat) (x1 : Nat) (σ : St) : Option (Int32 × St) :=
  (fX6_size fu x1 σ).bind fun (q101 : Int32 × St) =>
  nm (q101.1 / (2 : Int32)) fun (y103 : Int32) =>
  (fX0_wayTo fu x0 x1 (0 : Int32) y103 q101.2).bind fun (q104 : Int32 × St) =>
  (fX6_size fu x1 q104.2).bind fun (q105 : Int32 × St) =>
  (fX0_wayTo fu x0 x1 y103 q105.1 q105.2).bind fun (q106 : Int32 × St) =>
  some ((jmax q104.1 q106.1), q106.2)
set_option maxHeartbeats 4000000 in
set_option maxRecDepth 100000 in
theorem tX0_greaterGang_0 {l : Launch} {D : va_G} {cA : ClassId} {bs : Nat} {ad : Nat → Nat} {p : Program} {e : Env} {s : State} {m : MethodId} {args : Array Value} {below : List Frame} {meth : Method} {c : Code} {fu : Nat} (C : Cx D cA bs ad RX0 cX0_greaterGang 3 (some .int) p s m args meth c) {x0 : Nat} {x1 : Nat} {q : Int32 × St} (hx0 : xk x0 = 6) (hx1 : xk x1 = 4) {σ : St} (h : fX0_greaterGang_0 fu x0 x1 σ = some q) : Y D cA bs ad p l e (rmY 2 46) s m args below meth c 3 0 0 (QM D cA bs ad below args s (some (.int q.1)) q.2) σ 0 [(0, .ref (ad x0)), (1, .ref (ad x1))] [] := by
  unfold fX0_greaterGang_0 at h
  refine y_aload_n (pc := 0) (q := 1) C dX0_greaterGang_0 rfl rfl ?_
  obtain ⟨q101, eq101, h⟩ := bdS h
  refine y_callV (pc := 1) (As := []) (rest := []) C (mX6_size (fu := fu) eq101) vwX0_7 rfl (by decide) hx1 rfl rfl (Nat.le_of_ble_eq_true rfl) ⟨Nat.le_of_ble_eq_true rfl, Nat.le_of_ble_eq_true rfl⟩ ⟨Nat.le_refl _, Nat.le_refl _⟩ dX0_greaterGang_1 ?_
  show Y _ _ _ _ _ _ _ _ _ _ _ _ _ _ _ _ _ _ q101.2 4 [(0, .ref (ad x0)), (1, .ref (ad x1))] [.int q101.1]
  refine y_iconst (pc := 4) (v := (2 : Int32)) C dX0_greaterGang_4 (by decide) ?_
  refine y_idiv (pc := 5) C dX0_greaterGang_5 (by decide) ?_
  obtain ⟨y103, ey103, h⟩ := nmS h
  refine y_nmI y103 ey103 ?_
  refine y_istore_n (pc := 6) (lv' := [(2, .int y103), (0, .ref (ad x0)), (1, .ref (ad x1))]) C dX0_greaterGang_6 rfl (by decide) rfl ?_
  refine y_aload_n (pc := 7) (q := 1) C dX0_greaterGang_7 rfl rfl ?_
  refine y_aload_n (pc := 8) (q := 2) C dX0_greaterGang_8 rfl rfl ?_
  refine y_iconst (pc := 9) (v := (0 : Int32)) C dX0_greaterGang_9 (by decide) ?_
  refine y_iload_n (pc := 10) (q := 0) C dX0_greaterGang_10 rfl rfl ?_
  obtain ⟨q104, eq104, h⟩ := bdS h
  refine y_callS (pc := 11) (As := [.ref (ad x0), .ref (ad x1), .int (0 : Int32), .int y103]) (rest := []) C (mX0_wayTo (fu := fu) eq104) vwX0_13 rfl rfl (Nat.le_of_ble_eq_true rfl) ⟨Nat.le_of_ble_eq_true rfl, Nat.le_of_ble_eq_true rfl⟩ ⟨Nat.le_refl _, Nat.le_refl _⟩ dX0_greaterGang_11 ?_
  show Y _ _ _ _ _ _ _ _ _ _ _ _ _ _ _ _ _ _ q104.2 14 [(2, .int y103), (0, .ref (ad x0)), (1, .ref (ad x1))] [.int q104.1]
  refine y_aload_n (pc := 14) (q := 1) C dX0_greaterGang_14 rfl rfl ?_
  refine y_aload_n (pc := 15) (q := 2) C dX0_greaterGang_15 rfl rfl ?_
  refine y_iload_n (pc := 16) (q := 0) C dX0_greaterGang_16 rfl rfl ?_
  refine y_aload_n (pc := 17) (q := 2) C dX0_greaterGang_17 rfl rfl ?_
  obtain ⟨q105, eq105, h⟩ := bdS h
  refine y_callV (pc := 18) (As := []) (rest := [.int y103, .ref (ad x1), .ref (ad x0), .int q104.1]) C (mX6_size (fu := fu) eq105) vwX0_7 rfl (by decide) hx1 rfl rfl (Nat.le_of_ble_eq_true rfl) ⟨Nat.le_of_ble_eq_true rfl, Nat.le_of_ble_eq_true rfl⟩ ⟨Nat.le_refl _, Nat.le_refl _⟩ dX0_greaterGang_18 ?_
  show Y _ _ _ _ _ _ _ _ _ _ _ _ _ _ _ _ _ _ q105.2 21 [(2, .int y103), (0, .ref (ad x0)), (1, .ref (ad x1))] [.int q105.1, .int y103, .ref (ad x1), .ref (ad x0), .int q104.1]
  obtain ⟨q106, eq106, h⟩ := bdS h
  refine y_callS (pc := 21) (As := [.ref (ad x0), .ref (ad x1), .int y103, .int q105.1]) (rest := [.int q104.1]) C (mX0_wayTo (fu := fu) eq106) vwX0_13 rfl rfl (Nat.le_of_ble_eq_true rfl) ⟨Nat.le_of_ble_eq_true rfl, Nat.le_of_ble_eq_true rfl⟩ ⟨Nat.le_refl _, Nat.le_refl _⟩ dX0_greaterGang_21 ?_
  show Y _ _ _ _ _ _ _ _ _ _ _ _ _ _ _ _ _ _ q106.2 24 [(2, .int y103), (0, .ref (ad x0)), (1, .ref (ad x1))] [.int q106.1, .int q104.1]
  refine y_jmax (pc := 24) C jwX0_40 (Nat.le_of_ble_eq_true rfl) (Nat.le_of_ble_eq_true rfl) ⟨Nat.le_refl _, Nat.le_refl _⟩ dX0_greaterGang_24 ?_
  cases h
  exact y_iret (pc := 27) C dX0_greaterGang_27
noncomputable def fX0_greaterGang (fu : Nat) (x0 : Nat) (x1 : Nat) (σ : St) : Option (Int32 × St) := if xk x0 = 6 then if xk x1 = 4 then fX0_greaterGang_0 fu x0 x1 σ else none else none
theorem mX0_greaterGang {l : Launch} {D : va_G} {cA : ClassId} {bs fu : Nat} {ad : Nat → Nat} {x0 : Nat} {x1 : Nat} {σ : St} {q : Int32 × St} (h : fX0_greaterGang fu x0 x1 σ = some q) : Ct l D cA bs ad yX0_greaterGang cX0_greaterGang 3 (some .int) 2 46 [.ref (ad x0), .ref (ad x1)] σ (some (.int q.1)) q.2 := by
  unfold fX0_greaterGang at h
  by_cases hx0 : xk x0 = 6
  case neg => rw [if_neg hx0] at h; cases h
  rw [if_pos hx0] at h
  by_cases hx1 : xk x1 = 4
  case neg => rw [if_neg hx1] at h; cases h
  rw [if_pos hx1] at h
  exact Ct.of (by decide) (Nat.le_of_ble_eq_true rfl) (fun p e s m args below meth c C => tX0_greaterGang_0 (fu := fu) C hx0 hx1 h)
noncomputable def fX0_told_0 (fu : Nat) (x0 : Nat) (x1 : Nat) (x2 : Int32) (σ : St) : Option (Int32 × St) :=
  if x2 = (0 : Int32) then
    (fX6_size fu x1 σ).bind fun (q102 : Int32 × St) =>
    (fX0_wayTo fu x0 x1 (0 : Int32) q102.1 q102.2).bind fun (q103 : Int32 × St) =>
    some (q103.1, q103.2)
  else
  if x2 = (1 : Int32) then
    (fX0_exchangesTo fu x0 x1 σ).bind fun (q105 : Int32 × St) =>
    some (q105.1, q105.2)
  else
  (fX0_greaterGang fu x0 x1 σ).bind fun (q106 : Int32 × St) =>
  some (q106.1, q106.2)
set_option maxHeartbeats 4000000 in
set_option maxRecDepth 100000 in
theorem tX0_told_0 {l : Launch} {D : va_G} {cA : ClassId} {bs : Nat} {ad : Nat → Nat} {p : Program} {e : Env} {s : State} {m : MethodId} {args : Array Value} {below : List Frame} {meth : Method} {c : Code} {fu : Nat} (C : Cx D cA bs ad RX0 cX0_told 3 (some .int) p s m args meth c) {x0 : Nat} {x1 : Nat} {x2 : Int32} {q : Int32 × St} (hx0 : xk x0 = 6) (hx1 : xk x1 = 4) {σ : St} (h : fX0_told_0 fu x0 x1 x2 σ = some q) : Y D cA bs ad p l e (rmY 3 71) s m args below meth c 3 0 0 (QM D cA bs ad below args s (some (.int q.1)) q.2) σ 0 [(0, .ref (ad x0)), (1, .ref (ad x1)), (2, .int x2)] [] := by
  unfold fX0_told_0 at h
  refine y_iload_n (pc := 0) (q := 2) C dX0_told_0 rfl rfl ?_
  by_cases c101 : x2 = (0 : Int32)
  · rw [if_pos c101] at h
    refine y_look (pc := 1) (tgt := 28) (off := 27) C dX0_told_1 (by decide) (by rw [c101]; decide +kernel) (by decide) ?_
    refine y_aload_n (pc := 28) (q := 0) C dX0_told_28 rfl rfl ?_
    refine y_aload_n (pc := 29) (q := 1) C dX0_told_29 rfl rfl ?_
    refine y_iconst (pc := 30) (v := (0 : Int32)) C dX0_told_30 (by decide) ?_
    refine y_aload_n (pc := 31) (q := 1) C dX0_told_31 rfl rfl ?_
    obtain ⟨q102, eq102, h⟩ := bdS h
    refine y_callV (pc := 32) (As := []) (rest := [.int (0 : Int32), .ref (ad x1), .ref (ad x0)]) C (mX6_size (fu := fu) eq102) vwX0_7 rfl (by decide) hx1 rfl rfl (Nat.le_of_ble_eq_true rfl) ⟨Nat.le_of_ble_eq_true rfl, Nat.le_of_ble_eq_true rfl⟩ ⟨Nat.le_refl _, Nat.le_refl _⟩ dX0_told_32 ?_
    show Y _ _ _ _ _ _ _ _ _ _ _ _ _ _ _ _ _ _ q102.2 35 [(0, .ref (ad x0)), (1, .ref (ad x1)), (2, .int x2)] [.int q102.1, .int (0 : Int32), .ref (ad x1), .ref (ad x0)]
    obtain ⟨q103, eq103, h⟩ := bdS h
    refine y_callS (pc := 35) (As := [.ref (ad x0), .ref (ad x1), .int (0 : Int32), .int q102.1]) (rest := []) C (mX0_wayTo (fu := fu) eq103) vwX0_13 rfl rfl (Nat.le_of_ble_eq_true rfl) ⟨Nat.le_of_ble_eq_true rfl, Nat.le_of_ble_eq_true rfl⟩ ⟨Nat.le_refl _, Nat.le_refl _⟩ dX0_told_35 ?_
    show Y _ _ _ _ _ _ _ _ _ _ _ _ _ _ _ _ _ _ q103.2 38 [(0, .ref (ad x0)), (1, .ref (ad x1)), (2, .int x2)] [.int q103.1]
    cases h
    exact y_iret (pc := 38) C dX0_told_38
  rw [if_neg c101] at h
  by_cases c104 : x2 = (1 : Int32)
  · rw [if_pos c104] at h
    refine y_look (pc := 1) (tgt := 39) (off := 38) C dX0_told_1 (by decide) (by rw [c104]; decide +kernel) (by decide) ?_
    refine y_aload_n (pc := 39) (q := 0) C dX0_told_39 rfl rfl ?_
    refine y_aload_n (pc := 40) (q := 1) C dX0_told_40 rfl rfl ?_
    obtain ⟨q105, eq105, h⟩ := bdS h
    refine y_callS (pc := 41) (As := [.ref (ad x0), .ref (ad x1)]) (rest := []) C (mX0_exchangesTo (fu := fu) eq105) vwX0_19 rfl rfl (Nat.le_of_ble_eq_true rfl) ⟨Nat.le_of_ble_eq_true rfl, Nat.le_of_ble_eq_true rfl⟩ ⟨Nat.le_refl _, Nat.le_refl _⟩ dX0_told_41 ?_
    show Y _ _ _ _ _ _ _ _ _ _ _ _ _ _ _ _ _ _ q105.2 44 [(0, .ref (ad x0)), (1, .ref (ad x1)), (2, .int x2)] [.int q105.1]
    cases h
    exact y_iret (pc := 44) C dX0_told_44
  rw [if_neg c104] at h
  refine y_look (pc := 1) (tgt := 45) (off := 44) C dX0_told_1 (by decide) (by show Op.lookupswitch.offset _ _ _ = _; rw [lv_osw c101 (by decide), lv_osw c104 (by decide)]; rfl) (by decide) ?_
  refine y_aload_n (pc := 45) (q := 0) C dX0_told_45 rfl rfl ?_
  refine y_aload_n (pc := 46) (q := 1) C dX0_told_46 rfl rfl ?_
  obtain ⟨q106, eq106, h⟩ := bdS h
  refine y_callS (pc := 47) (As := [.ref (ad x0), .ref (ad x1)]) (rest := []) C (mX0_greaterGang (fu := fu) eq106) vwX0_23 rfl rfl (Nat.le_of_ble_eq_true rfl) ⟨Nat.le_of_ble_eq_true rfl, Nat.le_of_ble_eq_true rfl⟩ ⟨Nat.le_refl _, Nat.le_refl _⟩ dX0_told_47 ?_
  show Y _ _ _ _ _ _ _ _ _ _ _ _ _ _ _ _ _ _ q106.2 50 [(0, .ref (ad x0)), (1, .ref (ad x1)), (2, .int x2)] [.int q106.1]
  cases h
  exact y_iret (pc := 50) C dX0_told_50
noncomputable def fX0_told (fu : Nat) (x0 : Nat) (x1 : Nat) (x2 : Int32) (σ : St) : Option (Int32 × St) := if xk x0 = 6 then if xk x1 = 4 then fX0_told_0 fu x0 x1 x2 σ else none else none
theorem mX0_told {l : Launch} {D : va_G} {cA : ClassId} {bs fu : Nat} {ad : Nat → Nat} {x0 : Nat} {x1 : Nat} {x2 : Int32} {σ : St} {q : Int32 × St} (h : fX0_told fu x0 x1 x2 σ = some q) : Ct l D cA bs ad yX0_told cX0_told 3 (some .int) 3 71 [.ref (ad x0), .ref (ad x1), .int x2] σ (some (.int q.1)) q.2 := by
  unfold fX0_told at h
  by_cases hx0 : xk x0 = 6
  case neg => rw [if_neg hx0] at h; cases h
  rw [if_pos hx0] at h
  by_cases hx1 : xk x1 = 4
  case neg => rw [if_neg hx1] at h; cases h
  rw [if_pos hx1] at h
  exact Ct.of (by decide) (Nat.le_of_ble_eq_true rfl) (fun p e s m args below meth c C => tX0_told_0 (fu := fu) C hx0 hx1 h)
noncomputable def fX8_size_0 (fu : Nat) (x0 : Nat) (σ : St) : Option (Int32 × St) :=
  some ((σ.1 x0 7), σ)
set_option maxHeartbeats 4000000 in
set_option maxRecDepth 100000 in
theorem tX8_size_0 {l : Launch} {D : va_G} {cA : ClassId} {bs : Nat} {ad : Nat → Nat} {p : Program} {e : Env} {s : State} {m : MethodId} {args : Array Value} {below : List Frame} {meth : Method} {c : Code} {fu : Nat} (C : Cx D cA bs ad RX8 cX8_size 1 (some .int) p s m args meth c) {x0 : Nat} {q : Int32 × St} (hx0 : xk x0 = 6) {σ : St} (h : fX8_size_0 fu x0 σ = some q) : Y D cA bs ad p l e (rmY 0 0) s m args below meth c 1 0 0 (QM D cA bs ad below args s (some (.int q.1)) q.2) σ 0 [(0, .ref (ad x0))] [] := by
  unfold fX8_size_0 at h
  refine y_aload_n (pc := 0) (q := 0) C dX8_size_0 rfl rfl ?_
  refine y_geti (pc := 1) C faX8_33 rfl hx0 dX8_size_1 ?_
  cases h
  exact y_iret (pc := 4) C dX8_size_4
noncomputable def fX8_size (fu : Nat) (x0 : Nat) (σ : St) : Option (Int32 × St) := if xk x0 = 6 then fX8_size_0 fu x0 σ else none
theorem mX8_size {l : Launch} {D : va_G} {cA : ClassId} {bs fu : Nat} {ad : Nat → Nat} {x0 : Nat} {σ : St} {q : Int32 × St} (h : fX8_size fu x0 σ = some q) : Ct l D cA bs ad yX8_size cX8_size 1 (some .int) 0 0 [.ref (ad x0)] σ (some (.int q.1)) q.2 := by
  unfold fX8_size at h
  by_cases hx0 : xk x0 = 6
  case neg => rw [if_neg hx0] at h; cases h
  rw [if_pos hx0] at h
  exact Ct.of (by decide) (Nat.le_of_ble_eq_true rfl) (fun p e s m args below meth c C => tX8_size_0 (fu := fu) C hx0 h)
noncomputable def fX1_nextSeed_0 (fu : Nat) (x0 : Int32) (σ : St) : Option (Int32 × St) :=
  some (((((1103515245 : Int64) * x0.toInt64) + (12345 : Int64)) &&& (2147483647 : Int64)).toInt32, σ)
set_option maxHeartbeats 4000000 in
set_option maxRecDepth 100000 in
theorem tX1_nextSeed_0 {l : Launch} {D : va_G} {cA : ClassId} {bs : Nat} {ad : Nat → Nat} {p : Program} {e : Env} {s : State} {m : MethodId} {args : Array Value} {below : List Frame} {meth : Method} {c : Code} {fu : Nat} (C : Cx D cA bs ad RX1 cX1_nextSeed 1 (some .int) p s m args meth c) {x0 : Int32} {q : Int32 × St} {σ : St} (h : fX1_nextSeed_0 fu x0 σ = some q) : Y D cA bs ad p l e (rmY 0 0) s m args below meth c 1 0 0 (QM D cA bs ad below args s (some (.int q.1)) q.2) σ 0 [(0, .int x0)] [] := by
  unfold fX1_nextSeed_0 at h
  refine y_ldc2 (pc := 0) C dX1_nextSeed_0 cwX1_34 ?_
  refine y_iload_n (pc := 3) (q := 0) C dX1_nextSeed_3 rfl rfl ?_
  refine y_i2l (pc := 4) C dX1_nextSeed_4 ?_
  refine y_lmul (pc := 5) C dX1_nextSeed_5 ?_
  refine y_ldc2 (pc := 6) C dX1_nextSeed_6 cwX1_36 ?_
  refine y_ladd (pc := 9) C dX1_nextSeed_9 ?_
  refine y_ldc2 (pc := 10) C dX1_nextSeed_10 cwX1_38 ?_
  refine y_land (pc := 13) C dX1_nextSeed_13 ?_
  refine y_l2i (pc := 14) C dX1_nextSeed_14 ?_
  cases h
  exact y_iret (pc := 15) C dX1_nextSeed_15
noncomputable def fX1_nextSeed (fu : Nat) (x0 : Int32) (σ : St) : Option (Int32 × St) := fX1_nextSeed_0 fu x0 σ
theorem mX1_nextSeed {l : Launch} {D : va_G} {cA : ClassId} {bs fu : Nat} {ad : Nat → Nat} {x0 : Int32} {σ : St} {q : Int32 × St} (h : fX1_nextSeed fu x0 σ = some q) : Ct l D cA bs ad yX1_nextSeed cX1_nextSeed 1 (some .int) 0 0 [.int x0] σ (some (.int q.1)) q.2 := by
  unfold fX1_nextSeed at h
  exact Ct.of (by decide) (Nat.le_of_ble_eq_true rfl) (fun p e s m args below meth c C => tX1_nextSeed_0 (fu := fu) C h)
noncomputable def fX1_rest_14 (fu : Nat) (x0 : Int32) (x1 : Int32) (s0 : Int32) (σ : St) : Option (Int32 × St) :=
  some (s0, σ)
set_option maxHeartbeats 4000000 in
set_option maxRecDepth 100000 in
theorem tX1_rest_14 {l : Launch} {D : va_G} {cA : ClassId} {bs : Nat} {ad : Nat → Nat} {p : Program} {e : Env} {s : State} {m : MethodId} {args : Array Value} {below : List Frame} {meth : Method} {c : Code} {fu : Nat} (C : Cx D cA bs ad RX1 cX1_rest 2 (some .int) p s m args meth c) {x0 : Int32} {x1 : Int32} {s0 : Int32} {q : Int32 × St} {σ : St} (h : fX1_rest_14 fu x0 x1 s0 σ = some q) : Y D cA bs ad p l e (rmY 0 0) s m args below meth c 2 0 0 (QM D cA bs ad below args s (some (.int q.1)) q.2) σ 14 [(0, .int x0), (1, .int x1)] [.int s0] := by
  unfold fX1_rest_14 at h
  cases h
  exact y_iret (pc := 14) C dX1_rest_14
noncomputable def fX1_rest_0 (fu : Nat) (x0 : Int32) (x1 : Int32) (σ : St) : Option (Int32 × St) :=
  if x1 ≤ 0 then
    fX1_rest_14 fu x0 x1 (0 : Int32) σ
  else
    if x1 = 0 then none else
    fX1_rest_14 fu x0 x1 ((x0 / (65536 : Int32)) - (x0 / (65536 : Int32)) / x1 * x1) σ
set_option maxHeartbeats 4000000 in
set_option maxRecDepth 100000 in
theorem tX1_rest_0 {l : Launch} {D : va_G} {cA : ClassId} {bs : Nat} {ad : Nat → Nat} {p : Program} {e : Env} {s : State} {m : MethodId} {args : Array Value} {below : List Frame} {meth : Method} {c : Code} {fu : Nat} (C : Cx D cA bs ad RX1 cX1_rest 2 (some .int) p s m args meth c) {x0 : Int32} {x1 : Int32} {q : Int32 × St} {σ : St} (h : fX1_rest_0 fu x0 x1 σ = some q) : Y D cA bs ad p l e (rmY 0 0) s m args below meth c 2 0 0 (QM D cA bs ad below args s (some (.int q.1)) q.2) σ 0 [(0, .int x0), (1, .int x1)] [] := by
  unfold fX1_rest_0 at h
  refine y_iload_n (pc := 0) (q := 1) C dX1_rest_0 rfl rfl ?_
  refine y_if_le (pc := 1) (tgt := 13) C dX1_rest_1 (by decide) (fun c101 => ?_) (fun c101 => ?_)
  · rw [if_pos c101] at h
    refine y_iconst (pc := 13) (v := (0 : Int32)) C dX1_rest_13 (by decide) ?_
    exact tX1_rest_14 (fu := fu) C h
  · rw [if_neg c101] at h
    refine y_iload_n (pc := 4) (q := 0) C dX1_rest_4 rfl rfl ?_
    refine y_ldc (pc := 5) C dX1_rest_5 cwX1_40 ?_
    refine y_idiv (pc := 7) C dX1_rest_7 (by decide) ?_
    refine y_iload_n (pc := 8) (q := 1) C dX1_rest_8 rfl rfl ?_
    by_cases hz103 : x1 = 0
    case pos => rw [if_pos hz103] at h; cases h
    rw [if_neg hz103] at h
    refine y_irem (pc := 9) C dX1_rest_9 hz103 ?_
    refine y_goto (pc := 10) (tgt := 14) C dX1_rest_10 (by decide) ?_
    exact tX1_rest_14 (fu := fu) C h
noncomputable def fX1_rest (fu : Nat) (x0 : Int32) (x1 : Int32) (σ : St) : Option (Int32 × St) := fX1_rest_0 fu x0 x1 σ
theorem mX1_rest {l : Launch} {D : va_G} {cA : ClassId} {bs fu : Nat} {ad : Nat → Nat} {x0 : Int32} {x1 : Int32} {σ : St} {q : Int32 × St} (h : fX1_rest fu x0 x1 σ = some q) : Ct l D cA bs ad yX1_rest cX1_rest 2 (some .int) 0 0 [.int x0, .int x1] σ (some (.int q.1)) q.2 := by
  unfold fX1_rest at h
  exact Ct.of (by decide) (Nat.le_of_ble_eq_true rfl) (fun p e s m args below meth c C => tX1_rest_0 (fu := fu) C h)
noncomputable def fX8_put_0 (fu : Nat) (x0 : Nat) (x1 : Int32) (x2 : Int32) (σ : St) : Option (St) :=
  (ast σ (rf x0 4) 7 x1 x2).bind fun (σ101 : St) =>
  (ast σ101 (rf x0 5) 7 x2 x1).bind fun (σ102 : St) =>
  some σ102
set_option maxHeartbeats 4000000 in
set_option maxRecDepth 100000 in
theorem tX8_put_0 {l : Launch} {D : va_G} {cA : ClassId} {bs : Nat} {ad : Nat → Nat} {p : Program} {e : Env} {s : State} {m : MethodId} {args : Array Value} {below : List Frame} {meth : Method} {c : Code} {fu : Nat} (C : Cx D cA bs ad RX8 cX8_put 3 none p s m args meth c) {x0 : Nat} {x1 : Int32} {x2 : Int32} {q : St} (hx0 : xk x0 = 6) {σ : St} (h : fX8_put_0 fu x0 x1 x2 σ = some q) : Y D cA bs ad p l e (rmY 0 0) s m args below meth c 3 0 0 (QM D cA bs ad below args s none q) σ 0 [(0, .ref (ad x0)), (1, .int x1), (2, .int x2)] [] := by
  unfold fX8_put_0 at h
  refine y_aload_n (pc := 0) (q := 0) C dX8_put_0 rfl rfl ?_
  refine y_getr (pc := 1) C faX8_24 rfl hx0 dX8_put_1 ?_
  refine y_iload_n (pc := 4) (q := 1) C dX8_put_4 rfl rfl ?_
  refine y_iload_n (pc := 5) (q := 2) C dX8_put_5 rfl rfl ?_
  obtain ⟨σ101, eσ101, h⟩ := bdS h
  refine y_iast (pc := 6) (n := 7) C (rf_6_4 _ hx0) (by decide) eσ101 dX8_put_6 ?_
  refine y_aload_n (pc := 7) (q := 0) C dX8_put_7 rfl rfl ?_
  refine y_getr (pc := 8) C faX8_27 rfl hx0 dX8_put_8 ?_
  refine y_iload_n (pc := 11) (q := 2) C dX8_put_11 rfl rfl ?_
  refine y_iload_n (pc := 12) (q := 1) C dX8_put_12 rfl rfl ?_
  obtain ⟨σ102, eσ102, h⟩ := bdS h
  refine y_iast (pc := 13) (n := 7) C (rf_6_5 _ hx0) (by decide) eσ102 dX8_put_13 ?_
  cases h
  exact y_vret (pc := 14) C dX8_put_14
noncomputable def fX8_put (fu : Nat) (x0 : Nat) (x1 : Int32) (x2 : Int32) (σ : St) : Option (St) := if xk x0 = 6 then fX8_put_0 fu x0 x1 x2 σ else none
theorem mX8_put {l : Launch} {D : va_G} {cA : ClassId} {bs fu : Nat} {ad : Nat → Nat} {x0 : Nat} {x1 : Int32} {x2 : Int32} {σ : St} {q : St} (h : fX8_put fu x0 x1 x2 σ = some q) : Ct l D cA bs ad yX8_put cX8_put 3 none 0 0 [.ref (ad x0), .int x1, .int x2] σ none q := by
  unfold fX8_put at h
  by_cases hx0 : xk x0 = 6
  case neg => rw [if_neg hx0] at h; cases h
  rw [if_pos hx0] at h
  exact Ct.of (by decide) (Nat.le_of_ble_eq_true rfl) (fun p e s m args below meth c C => tX8_put_0 (fu := fu) C hx0 h)
noncomputable def fX8_exchange_0 (fu : Nat) (x0 : Nat) (x1 : Int32) (x2 : Int32) (σ : St) : Option (St) :=
  (ald σ (rf x0 5) 7 x1).bind fun (v101 : Int32) =>
  (ald σ (rf x0 5) 7 x2).bind fun (v102 : Int32) =>
  (fX8_put fu x0 v102 x1 σ).bind fun (q103 : St) =>
  (fX8_put fu x0 v101 x2 q103).bind fun (q104 : St) =>
  some q104
set_option maxHeartbeats 4000000 in
set_option maxRecDepth 100000 in
theorem tX8_exchange_0 {l : Launch} {D : va_G} {cA : ClassId} {bs : Nat} {ad : Nat → Nat} {p : Program} {e : Env} {s : State} {m : MethodId} {args : Array Value} {below : List Frame} {meth : Method} {c : Code} {fu : Nat} (C : Cx D cA bs ad RX8 cX8_exchange 4 none p s m args meth c) {x0 : Nat} {x1 : Int32} {x2 : Int32} {q : St} (hx0 : xk x0 = 6) {σ : St} (h : fX8_exchange_0 fu x0 x1 x2 σ = some q) : Y D cA bs ad p l e (rmY 1 22) s m args below meth c 4 0 0 (QM D cA bs ad below args s none q) σ 0 [(0, .ref (ad x0)), (1, .int x1), (2, .int x2)] [] := by
  unfold fX8_exchange_0 at h
  refine y_aload_n (pc := 0) (q := 0) C dX8_exchange_0 rfl rfl ?_
  refine y_getr (pc := 1) C faX8_27 rfl hx0 dX8_exchange_1 ?_
  refine y_iload_n (pc := 4) (q := 1) C dX8_exchange_4 rfl rfl ?_
  obtain ⟨v101, ev101, h⟩ := bdS h
  refine y_iald (pc := 5) (n := 7) C (rf_6_5 _ hx0) (by decide) ev101 dX8_exchange_5 ?_
  refine y_istore_n (pc := 6) (lv' := [(3, .int v101), (0, .ref (ad x0)), (1, .int x1), (2, .int x2)]) C dX8_exchange_6 rfl (by decide) rfl ?_
  refine y_aload_n (pc := 7) (q := 1) C dX8_exchange_7 rfl rfl ?_
  refine y_aload_n (pc := 8) (q := 1) C dX8_exchange_8 rfl rfl ?_
  refine y_getr (pc := 9) C faX8_27 rfl hx0 dX8_exchange_9 ?_
  refine y_iload_n (pc := 12) (q := 3) C dX8_exchange_12 rfl rfl ?_
  obtain ⟨v102, ev102, h⟩ := bdS h
  refine y_iald (pc := 13) (n := 7) C (rf_6_5 _ hx0) (by decide) ev102 dX8_exchange_13 ?_
  refine y_iload_n (pc := 14) (q := 2) C dX8_exchange_14 rfl rfl ?_
  obtain ⟨q103, eq103, h⟩ := bdS h
  refine y_callV (pc := 15) (As := [.int v102, .int x1]) (rest := []) C (mX8_put (fu := fu) eq103) vwX8_37 rfl (by decide) hx0 rfl rfl (Nat.le_of_ble_eq_true rfl) ⟨Nat.le_of_ble_eq_true rfl, Nat.le_of_ble_eq_true rfl⟩ ⟨Nat.le_refl _, Nat.le_refl _⟩ dX8_exchange_15 ?_
  show Y _ _ _ _ _ _ _ _ _ _ _ _ _ _ _ _ _ _ q103 18 [(3, .int v101), (0, .ref (ad x0)), (1, .int x1), (2, .int x2)] []
  refine y_aload_n (pc := 18) (q := 1) C dX8_exchange_18 rfl rfl ?_
  refine y_iload_n (pc := 19) (q := 0) C dX8_exchange_19 rfl rfl ?_
  refine y_iload_n (pc := 20) (q := 3) C dX8_exchange_20 rfl rfl ?_
  obtain ⟨q104, eq104, h⟩ := bdS h
  refine y_callV (pc := 21) (As := [.int v101, .int x2]) (rest := []) C (mX8_put (fu := fu) eq104) vwX8_37 rfl (by decide) hx0 rfl rfl (Nat.le_of_ble_eq_true rfl) ⟨Nat.le_of_ble_eq_true rfl, Nat.le_of_ble_eq_true rfl⟩ ⟨Nat.le_refl _, Nat.le_refl _⟩ dX8_exchange_21 ?_
  show Y _ _ _ _ _ _ _ _ _ _ _ _ _ _ _ _ _ _ q104 24 [(3, .int v101), (0, .ref (ad x0)), (1, .int x1), (2, .int x2)] []
  cases h
  exact y_vret (pc := 24) C dX8_exchange_24
noncomputable def fX8_exchange (fu : Nat) (x0 : Nat) (x1 : Int32) (x2 : Int32) (σ : St) : Option (St) := if xk x0 = 6 then fX8_exchange_0 fu x0 x1 x2 σ else none
theorem mX8_exchange {l : Launch} {D : va_G} {cA : ClassId} {bs fu : Nat} {ad : Nat → Nat} {x0 : Nat} {x1 : Int32} {x2 : Int32} {σ : St} {q : St} (h : fX8_exchange fu x0 x1 x2 σ = some q) : Ct l D cA bs ad yX8_exchange cX8_exchange 4 none 1 22 [.ref (ad x0), .int x1, .int x2] σ none q := by
  unfold fX8_exchange at h
  by_cases hx0 : xk x0 = 6
  case neg => rw [if_neg hx0] at h; cases h
  rw [if_pos hx0] at h
  exact Ct.of (by decide) (Nat.le_of_ble_eq_true rfl) (fun p e s m args below meth c C => tX8_exchange_0 (fu := fu) C hx0 h)
noncomputable def fX8_blockIn_0 (fu : Nat) (x0 : Nat) (x1 : Int32) (σ : St) : Option (Int32 × St) :=
  (ald σ (rf x0 5) 7 x1).bind fun (v101 : Int32) =>
  some (v101, σ)
set_option maxHeartbeats 4000000 in
set_option maxRecDepth 100000 in
theorem tX8_blockIn_0 {l : Launch} {D : va_G} {cA : ClassId} {bs : Nat} {ad : Nat → Nat} {p : Program} {e : Env} {s : State} {m : MethodId} {args : Array Value} {below : List Frame} {meth : Method} {c : Code} {fu : Nat} (C : Cx D cA bs ad RX8 cX8_blockIn 2 (some .int) p s m args meth c) {x0 : Nat} {x1 : Int32} {q : Int32 × St} (hx0 : xk x0 = 6) {σ : St} (h : fX8_blockIn_0 fu x0 x1 σ = some q) : Y D cA bs ad p l e (rmY 0 0) s m args below meth c 2 0 0 (QM D cA bs ad below args s (some (.int q.1)) q.2) σ 0 [(0, .ref (ad x0)), (1, .int x1)] [] := by
  unfold fX8_blockIn_0 at h
  refine y_aload_n (pc := 0) (q := 0) C dX8_blockIn_0 rfl rfl ?_
  refine y_getr (pc := 1) C faX8_27 rfl hx0 dX8_blockIn_1 ?_
  refine y_iload_n (pc := 4) (q := 1) C dX8_blockIn_4 rfl rfl ?_
  obtain ⟨v101, ev101, h⟩ := bdS h
  refine y_iald (pc := 5) (n := 7) C (rf_6_5 _ hx0) (by decide) ev101 dX8_blockIn_5 ?_
  cases h
  exact y_iret (pc := 6) C dX8_blockIn_6
noncomputable def fX8_blockIn (fu : Nat) (x0 : Nat) (x1 : Int32) (σ : St) : Option (Int32 × St) := if xk x0 = 6 then fX8_blockIn_0 fu x0 x1 σ else none
theorem mX8_blockIn {l : Launch} {D : va_G} {cA : ClassId} {bs fu : Nat} {ad : Nat → Nat} {x0 : Nat} {x1 : Int32} {σ : St} {q : Int32 × St} (h : fX8_blockIn fu x0 x1 σ = some q) : Ct l D cA bs ad yX8_blockIn cX8_blockIn 2 (some .int) 0 0 [.ref (ad x0), .int x1] σ (some (.int q.1)) q.2 := by
  unfold fX8_blockIn at h
  by_cases hx0 : xk x0 = 6
  case neg => rw [if_neg hx0] at h; cases h
  rw [if_pos hx0] at h
  exact Ct.of (by decide) (Nat.le_of_ble_eq_true rfl) (fun p e s m args below meth c C => tX8_blockIn_0 (fu := fu) C hx0 h)
noncomputable def fX8_turnOver_0 (fu : Nat) (x0 : Nat) (x1 : Int32) (σ : St) : Option (St) :=
  (ald σ (rf x0 1) 7 x1).bind fun (v101 : Int32) =>
  (ald σ (rf x0 2) 7 x1).bind fun (v102 : Int32) =>
  (ast σ (rf x0 1) 7 x1 v102).bind fun (σ103 : St) =>
  (ast σ103 (rf x0 2) 7 x1 v101).bind fun (σ104 : St) =>
  some σ104
set_option maxHeartbeats 4000000 in
set_option maxRecDepth 100000 in
theorem tX8_turnOver_0 {l : Launch} {D : va_G} {cA : ClassId} {bs : Nat} {ad : Nat → Nat} {p : Program} {e : Env} {s : State} {m : MethodId} {args : Array Value} {below : List Frame} {meth : Method} {c : Code} {fu : Nat} (C : Cx D cA bs ad RX8 cX8_turnOver 3 none p s m args meth c) {x0 : Nat} {x1 : Int32} {q : St} (hx0 : xk x0 = 6) {σ : St} (h : fX8_turnOver_0 fu x0 x1 σ = some q) : Y D cA bs ad p l e (rmY 0 0) s m args below meth c 3 0 0 (QM D cA bs ad below args s none q) σ 0 [(0, .ref (ad x0)), (1, .int x1)] [] := by
  unfold fX8_turnOver_0 at h
  refine y_aload_n (pc := 0) (q := 0) C dX8_turnOver_0 rfl rfl ?_
  refine y_getr (pc := 1) C faX8_15 rfl hx0 dX8_turnOver_1 ?_
  refine y_iload_n (pc := 4) (q := 1) C dX8_turnOver_4 rfl rfl ?_
  obtain ⟨v101, ev101, h⟩ := bdS h
  refine y_iald (pc := 5) (n := 7) C (rf_6_1 _ hx0) (by decide) ev101 dX8_turnOver_5 ?_
  refine y_istore_n (pc := 6) (lv' := [(2, .int v101), (0, .ref (ad x0)), (1, .int x1)]) C dX8_turnOver_6 rfl (by decide) rfl ?_
  refine y_aload_n (pc := 7) (q := 1) C dX8_turnOver_7 rfl rfl ?_
  refine y_getr (pc := 8) C faX8_15 rfl hx0 dX8_turnOver_8 ?_
  refine y_iload_n (pc := 11) (q := 2) C dX8_turnOver_11 rfl rfl ?_
  refine y_aload_n (pc := 12) (q := 1) C dX8_turnOver_12 rfl rfl ?_
  refine y_getr (pc := 13) C faX8_18 rfl hx0 dX8_turnOver_13 ?_
  refine y_iload_n (pc := 16) (q := 2) C dX8_turnOver_16 rfl rfl ?_
  obtain ⟨v102, ev102, h⟩ := bdS h
  refine y_iald (pc := 17) (n := 7) C (rf_6_2 _ hx0) (by decide) ev102 dX8_turnOver_17 ?_
  obtain ⟨σ103, eσ103, h⟩ := bdS h
  refine y_iast (pc := 18) (n := 7) C (rf_6_1 _ hx0) (by decide) eσ103 dX8_turnOver_18 ?_
  refine y_aload_n (pc := 19) (q := 1) C dX8_turnOver_19 rfl rfl ?_
  refine y_getr (pc := 20) C faX8_18 rfl hx0 dX8_turnOver_20 ?_
  refine y_iload_n (pc := 23) (q := 2) C dX8_turnOver_23 rfl rfl ?_
  refine y_iload_n (pc := 24) (q := 0) C dX8_turnOver_24 rfl rfl ?_
  obtain ⟨σ104, eσ104, h⟩ := bdS h
  refine y_iast (pc := 25) (n := 7) C (rf_6_2 _ hx0) (by decide) eσ104 dX8_turnOver_25 ?_
  cases h
  exact y_vret (pc := 26) C dX8_turnOver_26
noncomputable def fX8_turnOver (fu : Nat) (x0 : Nat) (x1 : Int32) (σ : St) : Option (St) := if xk x0 = 6 then fX8_turnOver_0 fu x0 x1 σ else none
theorem mX8_turnOver {l : Launch} {D : va_G} {cA : ClassId} {bs fu : Nat} {ad : Nat → Nat} {x0 : Nat} {x1 : Int32} {σ : St} {q : St} (h : fX8_turnOver fu x0 x1 σ = some q) : Ct l D cA bs ad yX8_turnOver cX8_turnOver 3 none 0 0 [.ref (ad x0), .int x1] σ none q := by
  unfold fX8_turnOver at h
  by_cases hx0 : xk x0 = 6
  case neg => rw [if_neg hx0] at h; cases h
  rw [if_pos hx0] at h
  exact Ct.of (by decide) (Nat.le_of_ble_eq_true rfl) (fun p e s m args below meth c C => tX8_turnOver_0 (fu := fu) C hx0 h)
noncomputable def fX1_swim_54 (fu : Nat) (k9 : Int32 → Int32 → St → Option (Int32 × St)) (x0 : Nat) (x1 : Int32) (x2 : Int32) (x3 : Int32) (σ : St) : Option (Int32 × St) :=
  nm (x3 + (-1 : Int32)) fun (y101 : Int32) =>
  k9 x2 y101 σ
set_option maxHeartbeats 4000000 in
set_option maxRecDepth 100000 in
theorem tX1_swim_54 {l : Launch} {D : va_G} {cA : ClassId} {bs : Nat} {ad : Nat → Nat} {p : Program} {e : Env} {s : State} {m : MethodId} {args : Array Value} {below : List Frame} {meth : Method} {c : Code} {fu : Nat} (C : Cx D cA bs ad RX1 cX1_swim 4 (some .int) p s m args meth c) {k9 : Int32 → Int32 → St → Option (Int32 × St)} {x0 : Nat} {x1 : Int32} {x2 : Int32} {x3 : Int32} {q : Int32 × St} (hx0 : xk x0 = 6) (hk9 : ∀ (x2 : Int32) (x3 : Int32) (σ : St), k9 x2 x3 σ = some q → Y D cA bs ad p l e (rmY 2 45) s m args below meth c 4 0 0 (QM D cA bs ad below args s (some (.int q.1)) q.2) σ 9 [(0, .ref (ad x0)), (1, .int x1), (2, .int x2), (3, .int x3)] []) {σ : St} (h : fX1_swim_54 fu k9 x0 x1 x2 x3 σ = some q) : Y D cA bs ad p l e (rmY 2 45) s m args below meth c 4 0 0 (QM D cA bs ad below args s (some (.int q.1)) q.2) σ 54 [(0, .ref (ad x0)), (1, .int x1), (2, .int x2), (3, .int x3)] [] := by
  unfold fX1_swim_54 at h
  obtain ⟨y101, ey101, h⟩ := nmS h
  refine y_iinc (pc := 54) (v := y101) (k := 3) (lv' := [(3, .int y101), (0, .ref (ad x0)), (1, .int x1), (2, .int x2)]) C dX1_swim_54 rfl (by rw [ey101]; rfl) (by decide) rfl ?_
  refine y_goto (pc := 57) (tgt := 9) C dX1_swim_57 (by decide) ?_
  refine y_sub [1, 2, 3, 0] (lv' := [(0, .ref (ad x0)), (1, .int x1), (2, .int x2), (3, .int y101)]) rfl ?_
  exact hk9 _ _ _ h
noncomputable def fX1_swim_9b (fu : Nat) (k9 : Int32 → Int32 → St → Option (Int32 × St)) (x0 : Nat) (x1 : Int32) (x2 : Int32) (x3 : Int32) (σ : St) : Option (Int32 × St) :=
  if x3 < (1 : Int32) then
    some (x2, σ)
  else
    (fX1_nextSeed fu x2 σ).bind fun (q102 : Int32 × St) =>
    (fX1_rest fu q102.1 (x3 + (1 : Int32)) q102.2).bind fun (q103 : Int32 × St) =>
    (fX8_exchange fu x0 x3 q103.1 q103.2).bind fun (q104 : St) =>
    (fX1_nextSeed fu q102.1 q104).bind fun (q105 : Int32 × St) =>
    (fX1_rest fu q105.1 (2 : Int32) q105.2).bind fun (q106 : Int32 × St) =>
    if q106.1 = (1 : Int32) then
      (fX8_blockIn fu x0 x3 q106.2).bind fun (q108 : Int32 × St) =>
      (fX8_turnOver fu x0 q108.1 q108.2).bind fun (q109 : St) =>
      fX1_swim_54 fu k9 x0 x1 q105.1 x3 q109
    else
      fX1_swim_54 fu k9 x0 x1 q105.1 x3 q106.2
set_option maxHeartbeats 4000000 in
set_option maxRecDepth 100000 in
theorem tX1_swim_9b {l : Launch} {D : va_G} {cA : ClassId} {bs : Nat} {ad : Nat → Nat} {p : Program} {e : Env} {s : State} {m : MethodId} {args : Array Value} {below : List Frame} {meth : Method} {c : Code} {fu : Nat} (C : Cx D cA bs ad RX1 cX1_swim 4 (some .int) p s m args meth c) {k9 : Int32 → Int32 → St → Option (Int32 × St)} {x0 : Nat} {x1 : Int32} {x2 : Int32} {x3 : Int32} {q : Int32 × St} (hx0 : xk x0 = 6) (hk9 : ∀ (x2 : Int32) (x3 : Int32) (σ : St), k9 x2 x3 σ = some q → Y D cA bs ad p l e (rmY 2 45) s m args below meth c 4 0 0 (QM D cA bs ad below args s (some (.int q.1)) q.2) σ 9 [(0, .ref (ad x0)), (1, .int x1), (2, .int x2), (3, .int x3)] []) {σ : St} (h : fX1_swim_9b fu k9 x0 x1 x2 x3 σ = some q) : Y D cA bs ad p l e (rmY 2 45) s m args below meth c 4 0 0 (QM D cA bs ad below args s (some (.int q.1)) q.2) σ 9 [(0, .ref (ad x0)), (1, .int x1), (2, .int x2), (3, .int x3)] [] := by
  unfold fX1_swim_9b at h
  refine y_iload_n (pc := 9) (q := 3) C dX1_swim_9 rfl rfl ?_
  refine y_iconst (pc := 10) (v := (1 : Int32)) C dX1_swim_10 (by decide) ?_
  refine y_icmp_lt (pc := 11) (tgt := 60) C dX1_swim_11 (by decide) (fun c101 => ?_) (fun c101 => ?_)
  · rw [if_pos c101] at h
    refine y_iload_n (pc := 60) (q := 2) C dX1_swim_60 rfl rfl ?_
    cases h
    exact y_iret (pc := 61) C dX1_swim_61
  · rw [if_neg c101] at h
    refine y_iload_n (pc := 14) (q := 2) C dX1_swim_14 rfl rfl ?_
    obtain ⟨q102, eq102, h⟩ := bdS h
    refine y_callS (pc := 15) (As := [.int x2]) (rest := []) C (mX1_nextSeed (fu := fu) eq102) vwX1_13 rfl rfl (Nat.le_of_ble_eq_true rfl) ⟨Nat.le_of_ble_eq_true rfl, Nat.le_of_ble_eq_true rfl⟩ ⟨Nat.le_refl _, Nat.le_refl _⟩ dX1_swim_15 ?_
    show Y _ _ _ _ _ _ _ _ _ _ _ _ _ _ _ _ _ _ q102.2 18 [(0, .ref (ad x0)), (1, .int x1), (2, .int x2), (3, .int x3)] [.int q102.1]
    refine y_istore_n (pc := 18) (lv' := [(2, .int q102.1), (0, .ref (ad x0)), (1, .int x1), (3, .int x3)]) C dX1_swim_18 rfl (by decide) rfl ?_
    refine y_aload_n (pc := 19) (q := 1) C dX1_swim_19 rfl rfl ?_
    refine y_iload_n (pc := 20) (q := 3) C dX1_swim_20 rfl rfl ?_
    refine y_iload_n (pc := 21) (q := 0) C dX1_swim_21 rfl rfl ?_
    refine y_iload_n (pc := 22) (q := 3) C dX1_swim_22 rfl rfl ?_
    refine y_iconst (pc := 23) (v := (1 : Int32)) C dX1_swim_23 (by decide) ?_
    refine y_iadd (pc := 24) C dX1_swim_24 ?_
    obtain ⟨q103, eq103, h⟩ := bdS h
    refine y_callS (pc := 25) (As := [.int q102.1, .int (x3 + (1 : Int32))]) (rest := [.int x3, .ref (ad x0)]) C (mX1_rest (fu := fu) eq103) vwX1_19 rfl rfl (Nat.le_of_ble_eq_true rfl) ⟨Nat.le_of_ble_eq_true rfl, Nat.le_of_ble_eq_true rfl⟩ ⟨Nat.le_refl _, Nat.le_refl _⟩ dX1_swim_25 ?_
    show Y _ _ _ _ _ _ _ _ _ _ _ _ _ _ _ _ _ _ q103.2 28 [(2, .int q102.1), (0, .ref (ad x0)), (1, .int x1), (3, .int x3)] [.int q103.1, .int x3, .ref (ad x0)]
    obtain ⟨q104, eq104, h⟩ := bdS h
    refine y_callV (pc := 28) (As := [.int x3, .int q103.1]) (rest := []) C (mX8_exchange (fu := fu) eq104) vwX1_23 rfl (by decide) hx0 rfl rfl (Nat.le_of_ble_eq_true rfl) ⟨Nat.le_of_ble_eq_true rfl, Nat.le_of_ble_eq_true rfl⟩ ⟨Nat.le_refl _, Nat.le_refl _⟩ dX1_swim_28 ?_
    show Y _ _ _ _ _ _ _ _ _ _ _ _ _ _ _ _ _ _ q104 31 [(2, .int q102.1), (0, .ref (ad x0)), (1, .int x1), (3, .int x3)] []
    refine y_iload_n (pc := 31) (q := 0) C dX1_swim_31 rfl rfl ?_
    obtain ⟨q105, eq105, h⟩ := bdS h
    refine y_callS (pc := 32) (As := [.int q102.1]) (rest := []) C (mX1_nextSeed (fu := fu) eq105) vwX1_13 rfl rfl (Nat.le_of_ble_eq_true rfl) ⟨Nat.le_of_ble_eq_true rfl, Nat.le_of_ble_eq_true rfl⟩ ⟨Nat.le_refl _, Nat.le_refl _⟩ dX1_swim_32 ?_
    show Y _ _ _ _ _ _ _ _ _ _ _ _ _ _ _ _ _ _ q105.2 35 [(2, .int q102.1), (0, .ref (ad x0)), (1, .int x1), (3, .int x3)] [.int q105.1]
    refine y_istore_n (pc := 35) (lv' := [(2, .int q105.1), (0, .ref (ad x0)), (1, .int x1), (3, .int x3)]) C dX1_swim_35 rfl (by decide) rfl ?_
    refine y_iload_n (pc := 36) (q := 0) C dX1_swim_36 rfl rfl ?_
    refine y_iconst (pc := 37) (v := (2 : Int32)) C dX1_swim_37 (by decide) ?_
    obtain ⟨q106, eq106, h⟩ := bdS h
    refine y_callS (pc := 38) (As := [.int q105.1, .int (2 : Int32)]) (rest := []) C (mX1_rest (fu := fu) eq106) vwX1_19 rfl rfl (Nat.le_of_ble_eq_true rfl) ⟨Nat.le_of_ble_eq_true rfl, Nat.le_of_ble_eq_true rfl⟩ ⟨Nat.le_refl _, Nat.le_refl _⟩ dX1_swim_38 ?_
    show Y _ _ _ _ _ _ _ _ _ _ _ _ _ _ _ _ _ _ q106.2 41 [(2, .int q105.1), (0, .ref (ad x0)), (1, .int x1), (3, .int x3)] [.int q106.1]
    refine y_iconst (pc := 41) (v := (1 : Int32)) C dX1_swim_41 (by decide) ?_
    refine y_icmp_ne (pc := 42) (tgt := 54) C dX1_swim_42 (by decide) (fun c107 => ?_) (fun c107 => ?_)
    · rw [if_neg c107] at h
      refine y_sub [1, 2, 0, 3] (lv' := [(0, .ref (ad x0)), (1, .int x1), (2, .int q105.1), (3, .int x3)]) rfl ?_
      exact tX1_swim_54 (fu := fu) C hx0 hk9 h
    · rw [if_pos c107] at h
      refine y_aload_n (pc := 45) (q := 1) C dX1_swim_45 rfl rfl ?_
      refine y_aload_n (pc := 46) (q := 1) C dX1_swim_46 rfl rfl ?_
      refine y_iload_n (pc := 47) (q := 3) C dX1_swim_47 rfl rfl ?_
      obtain ⟨q108, eq108, h⟩ := bdS h
      refine y_callV (pc := 48) (As := [.int x3]) (rest := [.ref (ad x0)]) C (mX8_blockIn (fu := fu) eq108) vwX1_27 rfl (by decide) hx0 rfl rfl (Nat.le_of_ble_eq_true rfl) ⟨Nat.le_of_ble_eq_true rfl, Nat.le_of_ble_eq_true rfl⟩ ⟨Nat.le_refl _, Nat.le_refl _⟩ dX1_swim_48 ?_
      show Y _ _ _ _ _ _ _ _ _ _ _ _ _ _ _ _ _ _ q108.2 51 [(2, .int q105.1), (0, .ref (ad x0)), (1, .int x1), (3, .int x3)] [.int q108.1, .ref (ad x0)]
      obtain ⟨q109, eq109, h⟩ := bdS h
      refine y_callV (pc := 51) (As := [.int q108.1]) (rest := []) C (mX8_turnOver (fu := fu) eq109) vwX1_30 rfl (by decide) hx0 rfl rfl (Nat.le_of_ble_eq_true rfl) ⟨Nat.le_of_ble_eq_true rfl, Nat.le_of_ble_eq_true rfl⟩ ⟨Nat.le_refl _, Nat.le_refl _⟩ dX1_swim_51 ?_
      show Y _ _ _ _ _ _ _ _ _ _ _ _ _ _ _ _ _ _ q109 54 [(2, .int q105.1), (0, .ref (ad x0)), (1, .int x1), (3, .int x3)] []
      refine y_sub [1, 2, 0, 3] (lv' := [(0, .ref (ad x0)), (1, .int x1), (2, .int q105.1), (3, .int x3)]) rfl ?_
      exact tX1_swim_54 (fu := fu) C hx0 hk9 h
noncomputable def fX1_swim_9 (fu : Nat) (x0 : Nat) (x1 : Int32) : Nat → Int32 → Int32 → St → Option (Int32 × St) := lp (fun k9 => fX1_swim_9b fu k9 x0 x1) (fun _ _ _ => none)
set_option maxHeartbeats 4000000 in
theorem tX1_swim_9 {l : Launch} {D : va_G} {cA : ClassId} {bs : Nat} {ad : Nat → Nat} {p : Program} {e : Env} {s : State} {m : MethodId} {args : Array Value} {below : List Frame} {meth : Method} {c : Code} {fu : Nat} (C : Cx D cA bs ad RX1 cX1_swim 4 (some .int) p s m args meth c) {x0 : Nat} {x1 : Int32} {q : Int32 × St} (hx0 : xk x0 = 6)  : ∀ (n : Nat) (x2 : Int32) (x3 : Int32) (σ : St), fX1_swim_9 fu  x0 x1 n x2 x3 σ = some q → Y D cA bs ad p l e (rmY 2 45) s m args below meth c 4 0 0 (QM D cA bs ad below args s (some (.int q.1)) q.2) σ 9 [(0, .ref (ad x0)), (1, .int x1), (2, .int x2), (3, .int x3)] [] := by
  intro n
  induction n with
  | zero => intro x2 x3 σ h; cases h
  | succ n ih => intro x2 x3 σ h; exact tX1_swim_9b (fu := fu) C hx0 ih h
noncomputable def fX1_swim_0 (fu : Nat) (x0 : Nat) (x1 : Int32) (σ : St) : Option (Int32 × St) :=
  (fX8_size fu x0 σ).bind fun (q101 : Int32 × St) =>
  nm (q101.1 - (1 : Int32)) fun (y102 : Int32) =>
  fX1_swim_9 fu x0 x1 fu x1 y102 q101.2
set_option maxHeartbeats 4000000 in
set_option maxRecDepth 100000 in
theorem tX1_swim_0 {l : Launch} {D : va_G} {cA : ClassId} {bs : Nat} {ad : Nat → Nat} {p : Program} {e : Env} {s : State} {m : MethodId} {args : Array Value} {below : List Frame} {meth : Method} {c : Code} {fu : Nat} (C : Cx D cA bs ad RX1 cX1_swim 4 (some .int) p s m args meth c) {x0 : Nat} {x1 : Int32} {q : Int32 × St} (hx0 : xk x0 = 6) {σ : St} (h : fX1_swim_0 fu x0 x1 σ = some q) : Y D cA bs ad p l e (rmY 2 45) s m args below meth c 4 0 0 (QM D cA bs ad below args s (some (.int q.1)) q.2) σ 0 [(0, .ref (ad x0)), (1, .int x1)] [] := by
  unfold fX1_swim_0 at h
  refine y_iload_n (pc := 0) (q := 1) C dX1_swim_0 rfl rfl ?_
  refine y_istore_n (pc := 1) (lv' := [(2, .int x1), (0, .ref (ad x0)), (1, .int x1)]) C dX1_swim_1 rfl (by decide) rfl ?_
  refine y_aload_n (pc := 2) (q := 1) C dX1_swim_2 rfl rfl ?_
  obtain ⟨q101, eq101, h⟩ := bdS h
  refine y_callV (pc := 3) (As := []) (rest := []) C (mX8_size (fu := fu) eq101) vwX1_7 rfl (by decide) hx0 rfl rfl (Nat.le_of_ble_eq_true rfl) ⟨Nat.le_of_ble_eq_true rfl, Nat.le_of_ble_eq_true rfl⟩ ⟨Nat.le_refl _, Nat.le_refl _⟩ dX1_swim_3 ?_
  show Y _ _ _ _ _ _ _ _ _ _ _ _ _ _ _ _ _ _ q101.2 6 [(2, .int x1), (0, .ref (ad x0)), (1, .int x1)] [.int q101.1]
  refine y_iconst (pc := 6) (v := (1 : Int32)) C dX1_swim_6 (by decide) ?_
  refine y_isub (pc := 7) C dX1_swim_7 ?_
  obtain ⟨y102, ey102, h⟩ := nmS h
  refine y_nmI y102 ey102 ?_
  refine y_istore_n (pc := 8) (lv' := [(3, .int y102), (2, .int x1), (0, .ref (ad x0)), (1, .int x1)]) C dX1_swim_8 rfl (by decide) rfl ?_
  refine y_sub [2, 3, 1, 0] (lv' := [(0, .ref (ad x0)), (1, .int x1), (2, .int x1), (3, .int y102)]) rfl ?_
  exact tX1_swim_9 (fu := fu) C hx0 fu _ _ _ h
noncomputable def fX1_swim (fu : Nat) (x0 : Nat) (x1 : Int32) (σ : St) : Option (Int32 × St) := if xk x0 = 6 then fX1_swim_0 fu x0 x1 σ else none
theorem mX1_swim {l : Launch} {D : va_G} {cA : ClassId} {bs fu : Nat} {ad : Nat → Nat} {x0 : Nat} {x1 : Int32} {σ : St} {q : Int32 × St} (h : fX1_swim fu x0 x1 σ = some q) : Ct l D cA bs ad yX1_swim cX1_swim 4 (some .int) 2 45 [.ref (ad x0), .int x1] σ (some (.int q.1)) q.2 := by
  unfold fX1_swim at h
  by_cases hx0 : xk x0 = 6
  case neg => rw [if_neg hx0] at h; cases h
  rw [if_pos hx0] at h
  exact Ct.of (by decide) (Nat.le_of_ble_eq_true rfl) (fun p e s m args below meth c C => tX1_swim_0 (fu := fu) C hx0 h)
noncomputable def fX8_copyFrom_0 (fu : Nat) (x0 : Nat) (x1 : Nat) (σ : St) : Option (St) :=
  nm (sc σ (rf x0 0) (va_cpy (σ.1 (rf x1 0)) (σ.1 (rf x0 0)) 0 0 7)) fun (σ101 : St) =>
  nm (sc σ101 (rf x0 1) (va_cpy (σ101.1 (rf x1 1)) (σ101.1 (rf x0 1)) 0 0 7)) fun (σ102 : St) =>
  nm (sc σ102 (rf x0 2) (va_cpy (σ102.1 (rf x1 2)) (σ102.1 (rf x0 2)) 0 0 7)) fun (σ103 : St) =>
  nm (sc σ103 (rf x0 3) (va_cpy (σ103.1 (rf x1 3)) (σ103.1 (rf x0 3)) 0 0 7)) fun (σ104 : St) =>
  nm (sc σ104 (rf x0 4) (va_cpy (σ104.1 (rf x1 4)) (σ104.1 (rf x0 4)) 0 0 7)) fun (σ105 : St) =>
  nm (sc σ105 (rf x0 5) (va_cpy (σ105.1 (rf x1 5)) (σ105.1 (rf x0 5)) 0 0 7)) fun (σ106 : St) =>
  nm (sc σ106 (rf x0 6) (va_cpy (σ106.1 (rf x1 6)) (σ106.1 (rf x0 6)) 0 0 7)) fun (σ107 : St) =>
  nm (si σ107 x0 7 (σ107.1 x1 7)) fun (σ108 : St) =>
  some σ108
set_option maxHeartbeats 4000000 in
set_option maxRecDepth 100000 in
theorem tX8_copyFrom_0 {l : Launch} {D : va_G} {cA : ClassId} {bs : Nat} {ad : Nat → Nat} {p : Program} {e : Env} {s : State} {m : MethodId} {args : Array Value} {below : List Frame} {meth : Method} {c : Code} {fu : Nat} (C : Cx D cA bs ad RX8 cX8_copyFrom 2 none p s m args meth c) {x0 : Nat} {x1 : Nat} {q : St} (hx0 : xk x0 = 6) (hx1 : xk x1 = 6) {σ : St} (h : fX8_copyFrom_0 fu x0 x1 σ = some q) : Y D cA bs ad p l e (rmY 1 18) s m args below meth c 2 0 0 (QM D cA bs ad below args s none q) σ 0 [(0, .ref (ad x0)), (1, .ref (ad x1))] [] := by
  unfold fX8_copyFrom_0 at h
  refine y_aload_n (pc := 0) (q := 1) C dX8_copyFrom_0 rfl rfl ?_
  refine y_getr (pc := 1) C faX8_9 rfl hx1 dX8_copyFrom_1 ?_
  refine y_iconst (pc := 4) (v := (0 : Int32)) C dX8_copyFrom_4 (by decide) ?_
  refine y_aload_n (pc := 5) (q := 0) C dX8_copyFrom_5 rfl rfl ?_
  refine y_getr (pc := 6) C faX8_9 rfl hx0 dX8_copyFrom_6 ?_
  refine y_iconst (pc := 9) (v := (0 : Int32)) C dX8_copyFrom_9 (by decide) ?_
  refine y_bipush (pc := 10) (v := (7 : Int32)) C dX8_copyFrom_10 (by decide) ?_
  obtain ⟨σ101, eσ101, h⟩ := nmS h
  refine y_copy (pc := 12) (n := 7) C (rf_6_0 _ hx1) (rf_6_0 _ hx0) (by decide) (by decide) (by decide) cpw (Nat.le_of_ble_eq_true rfl) (Nat.le_of_ble_eq_true rfl) dX8_copyFrom_12 ?_
  rw [← eσ101]
  refine y_aload_n (pc := 15) (q := 1) C dX8_copyFrom_15 rfl rfl ?_
  refine y_getr (pc := 16) C faX8_15 rfl hx1 dX8_copyFrom_16 ?_
  refine y_iconst (pc := 19) (v := (0 : Int32)) C dX8_copyFrom_19 (by decide) ?_
  refine y_aload_n (pc := 20) (q := 0) C dX8_copyFrom_20 rfl rfl ?_
  refine y_getr (pc := 21) C faX8_15 rfl hx0 dX8_copyFrom_21 ?_
  refine y_iconst (pc := 24) (v := (0 : Int32)) C dX8_copyFrom_24 (by decide) ?_
  refine y_bipush (pc := 25) (v := (7 : Int32)) C dX8_copyFrom_25 (by decide) ?_
  obtain ⟨σ102, eσ102, h⟩ := nmS h
  refine y_copy (pc := 27) (n := 7) C (rf_6_1 _ hx1) (rf_6_1 _ hx0) (by decide) (by decide) (by decide) cpw (Nat.le_of_ble_eq_true rfl) (Nat.le_of_ble_eq_true rfl) dX8_copyFrom_27 ?_
  rw [← eσ102]
  refine y_aload_n (pc := 30) (q := 1) C dX8_copyFrom_30 rfl rfl ?_
  refine y_getr (pc := 31) C faX8_18 rfl hx1 dX8_copyFrom_31 ?_
  refine y_iconst (pc := 34) (v := (0 : Int32)) C dX8_copyFrom_34 (by decide) ?_
  refine y_aload_n (pc := 35) (q := 0) C dX8_copyFrom_35 rfl rfl ?_
  refine y_getr (pc := 36) C faX8_18 rfl hx0 dX8_copyFrom_36 ?_
  refine y_iconst (pc := 39) (v := (0 : Int32)) C dX8_copyFrom_39 (by decide) ?_
  refine y_bipush (pc := 40) (v := (7 : Int32)) C dX8_copyFrom_40 (by decide) ?_
  obtain ⟨σ103, eσ103, h⟩ := nmS h
  refine y_copy (pc := 42) (n := 7) C (rf_6_2 _ hx1) (rf_6_2 _ hx0) (by decide) (by decide) (by decide) cpw (Nat.le_of_ble_eq_true rfl) (Nat.le_of_ble_eq_true rfl) dX8_copyFrom_42 ?_
  rw [← eσ103]
  refine y_aload_n (pc := 45) (q := 1) C dX8_copyFrom_45 rfl rfl ?_
  refine y_getr (pc := 46) C faX8_21 rfl hx1 dX8_copyFrom_46 ?_
  refine y_iconst (pc := 49) (v := (0 : Int32)) C dX8_copyFrom_49 (by decide) ?_
  refine y_aload_n (pc := 50) (q := 0) C dX8_copyFrom_50 rfl rfl ?_
  refine y_getr (pc := 51) C faX8_21 rfl hx0 dX8_copyFrom_51 ?_
  refine y_iconst (pc := 54) (v := (0 : Int32)) C dX8_copyFrom_54 (by decide) ?_
  refine y_bipush (pc := 55) (v := (7 : Int32)) C dX8_copyFrom_55 (by decide) ?_
  obtain ⟨σ104, eσ104, h⟩ := nmS h
  refine y_copy (pc := 57) (n := 7) C (rf_6_3 _ hx1) (rf_6_3 _ hx0) (by decide) (by decide) (by decide) cpw (Nat.le_of_ble_eq_true rfl) (Nat.le_of_ble_eq_true rfl) dX8_copyFrom_57 ?_
  rw [← eσ104]
  refine y_aload_n (pc := 60) (q := 1) C dX8_copyFrom_60 rfl rfl ?_
  refine y_getr (pc := 61) C faX8_24 rfl hx1 dX8_copyFrom_61 ?_
  refine y_iconst (pc := 64) (v := (0 : Int32)) C dX8_copyFrom_64 (by decide) ?_
  refine y_aload_n (pc := 65) (q := 0) C dX8_copyFrom_65 rfl rfl ?_
  refine y_getr (pc := 66) C faX8_24 rfl hx0 dX8_copyFrom_66 ?_
  refine y_iconst (pc := 69) (v := (0 : Int32)) C dX8_copyFrom_69 (by decide) ?_
  refine y_bipush (pc := 70) (v := (7 : Int32)) C dX8_copyFrom_70 (by decide) ?_
  obtain ⟨σ105, eσ105, h⟩ := nmS h
  refine y_copy (pc := 72) (n := 7) C (rf_6_4 _ hx1) (rf_6_4 _ hx0) (by decide) (by decide) (by decide) cpw (Nat.le_of_ble_eq_true rfl) (Nat.le_of_ble_eq_true rfl) dX8_copyFrom_72 ?_
  rw [← eσ105]
  refine y_aload_n (pc := 75) (q := 1) C dX8_copyFrom_75 rfl rfl ?_
  refine y_getr (pc := 76) C faX8_27 rfl hx1 dX8_copyFrom_76 ?_
  refine y_iconst (pc := 79) (v := (0 : Int32)) C dX8_copyFrom_79 (by decide) ?_
  refine y_aload_n (pc := 80) (q := 0) C dX8_copyFrom_80 rfl rfl ?_
  refine y_getr (pc := 81) C faX8_27 rfl hx0 dX8_copyFrom_81 ?_
  refine y_iconst (pc := 84) (v := (0 : Int32)) C dX8_copyFrom_84 (by decide) ?_
  refine y_bipush (pc := 85) (v := (7 : Int32)) C dX8_copyFrom_85 (by decide) ?_
  obtain ⟨σ106, eσ106, h⟩ := nmS h
  refine y_copy (pc := 87) (n := 7) C (rf_6_5 _ hx1) (rf_6_5 _ hx0) (by decide) (by decide) (by decide) cpw (Nat.le_of_ble_eq_true rfl) (Nat.le_of_ble_eq_true rfl) dX8_copyFrom_87 ?_
  rw [← eσ106]
  refine y_aload_n (pc := 90) (q := 1) C dX8_copyFrom_90 rfl rfl ?_
  refine y_getr (pc := 91) C faX8_30 rfl hx1 dX8_copyFrom_91 ?_
  refine y_iconst (pc := 94) (v := (0 : Int32)) C dX8_copyFrom_94 (by decide) ?_
  refine y_aload_n (pc := 95) (q := 0) C dX8_copyFrom_95 rfl rfl ?_
  refine y_getr (pc := 96) C faX8_30 rfl hx0 dX8_copyFrom_96 ?_
  refine y_iconst (pc := 99) (v := (0 : Int32)) C dX8_copyFrom_99 (by decide) ?_
  refine y_bipush (pc := 100) (v := (7 : Int32)) C dX8_copyFrom_100 (by decide) ?_
  obtain ⟨σ107, eσ107, h⟩ := nmS h
  refine y_copy (pc := 102) (n := 7) C (rf_6_6 _ hx1) (rf_6_6 _ hx0) (by decide) (by decide) (by decide) cpw (Nat.le_of_ble_eq_true rfl) (Nat.le_of_ble_eq_true rfl) dX8_copyFrom_102 ?_
  rw [← eσ107]
  refine y_aload_n (pc := 105) (q := 0) C dX8_copyFrom_105 rfl rfl ?_
  refine y_aload_n (pc := 106) (q := 1) C dX8_copyFrom_106 rfl rfl ?_
  refine y_geti (pc := 107) C faX8_33 rfl hx1 dX8_copyFrom_107 ?_
  obtain ⟨σ108, eσ108, h⟩ := nmS h
  refine y_puti (pc := 110) C fpX8_33 rfl hx0 rfl rfl dX8_copyFrom_110 ?_
  rw [← eσ108]
  cases h
  exact y_vret (pc := 113) C dX8_copyFrom_113
noncomputable def fX8_copyFrom (fu : Nat) (x0 : Nat) (x1 : Nat) (σ : St) : Option (St) := if xk x0 = 6 then if xk x1 = 6 then fX8_copyFrom_0 fu x0 x1 σ else none else none
theorem mX8_copyFrom {l : Launch} {D : va_G} {cA : ClassId} {bs fu : Nat} {ad : Nat → Nat} {x0 : Nat} {x1 : Nat} {σ : St} {q : St} (h : fX8_copyFrom fu x0 x1 σ = some q) : Ct l D cA bs ad yX8_copyFrom cX8_copyFrom 2 none 1 18 [.ref (ad x0), .ref (ad x1)] σ none q := by
  unfold fX8_copyFrom at h
  by_cases hx0 : xk x0 = 6
  case neg => rw [if_neg hx0] at h; cases h
  rw [if_pos hx0] at h
  by_cases hx1 : xk x1 = 6
  case neg => rw [if_neg hx1] at h; cases h
  rw [if_pos hx1] at h
  exact Ct.of (by decide) (Nat.le_of_ble_eq_true rfl) (fun p e s m args below meth c C => tX8_copyFrom_0 (fu := fu) C hx0 hx1 h)
noncomputable def fX4_turns_0 (fu : Nat) (x0 : Nat) (σ : St) : Option (Int32 × St) :=
  if (σ.1 x0 1) = 0 ∨ (σ.1 x0 1) = 1 then some ((σ.1 x0 1), σ) else none
set_option maxHeartbeats 4000000 in
set_option maxRecDepth 100000 in
theorem tX4_turns_0 {l : Launch} {D : va_G} {cA : ClassId} {bs : Nat} {ad : Nat → Nat} {p : Program} {e : Env} {s : State} {m : MethodId} {args : Array Value} {below : List Frame} {meth : Method} {c : Code} {fu : Nat} (C : Cx D cA bs ad RX4 cX4_turns 1 (some .boolean) p s m args meth c) {x0 : Nat} {q : Int32 × St} (hx0 : xk x0 = 2) {σ : St} (h : fX4_turns_0 fu x0 σ = some q) : Y D cA bs ad p l e (rmY 0 0) s m args below meth c 1 0 0 (QM D cA bs ad below args s (some (.int q.1)) q.2) σ 0 [(0, .ref (ad x0))] [] := by
  unfold fX4_turns_0 at h
  refine y_aload_n (pc := 0) (q := 0) C dX4_turns_0 rfl rfl ?_
  refine y_geti (pc := 1) C faX4_17 rfl hx0 dX4_turns_1 ?_
  by_cases c101 : (σ.1 x0 1) = 0 ∨ (σ.1 x0 1) = 1
  case neg => rw [if_neg c101] at h; cases h
  rw [if_pos c101] at h
  cases h
  exact y_zret (pc := 4) C c101 dX4_turns_4
noncomputable def fX4_turns (fu : Nat) (x0 : Nat) (σ : St) : Option (Int32 × St) := if xk x0 = 2 then fX4_turns_0 fu x0 σ else none
theorem mX4_turns {l : Launch} {D : va_G} {cA : ClassId} {bs fu : Nat} {ad : Nat → Nat} {x0 : Nat} {σ : St} {q : Int32 × St} (h : fX4_turns fu x0 σ = some q) : Ct l D cA bs ad yX4_turns cX4_turns 1 (some .boolean) 0 0 [.ref (ad x0)] σ (some (.int q.1)) q.2 := by
  unfold fX4_turns at h
  by_cases hx0 : xk x0 = 2
  case neg => rw [if_neg hx0] at h; cases h
  rw [if_pos hx0] at h
  exact Ct.of (by decide) (Nat.le_of_ble_eq_true rfl) (fun p e s m args below meth c C => tX4_turns_0 (fu := fu) C hx0 h)
noncomputable def fX8_yearlyWear_44 (fu : Nat) (x0 : Nat) (x1 : Int32) (x2 : Int32) (x3 : Int32) (σ : St) : Option (Int32 × St) :=
  some (((x3 + (1 : Int32)) / (2 : Int32)), σ)
set_option maxHeartbeats 4000000 in
set_option maxRecDepth 100000 in
theorem tX8_yearlyWear_44 {l : Launch} {D : va_G} {cA : ClassId} {bs : Nat} {ad : Nat → Nat} {p : Program} {e : Env} {s : State} {m : MethodId} {args : Array Value} {below : List Frame} {meth : Method} {c : Code} {fu : Nat} (C : Cx D cA bs ad RX8 cX8_yearlyWear 4 (some .int) p s m args meth c) {x0 : Nat} {x1 : Int32} {x2 : Int32} {x3 : Int32} {q : Int32 × St} (hx0 : xk x0 = 6) {σ : St} (h : fX8_yearlyWear_44 fu x0 x1 x2 x3 σ = some q) : Y D cA bs ad p l e (rmY 0 0) s m args below meth c 4 0 0 (QM D cA bs ad below args s (some (.int q.1)) q.2) σ 44 [(0, .ref (ad x0)), (1, .int x1), (2, .int x2), (3, .int x3)] [] := by
  unfold fX8_yearlyWear_44 at h
  refine y_iload_n (pc := 44) (q := 3) C dX8_yearlyWear_44 rfl rfl ?_
  refine y_iconst (pc := 45) (v := (1 : Int32)) C dX8_yearlyWear_45 (by decide) ?_
  refine y_iadd (pc := 46) C dX8_yearlyWear_46 ?_
  refine y_iconst (pc := 47) (v := (2 : Int32)) C dX8_yearlyWear_47 (by decide) ?_
  refine y_idiv (pc := 48) C dX8_yearlyWear_48 (by decide) ?_
  cases h
  exact y_iret (pc := 49) C dX8_yearlyWear_49
noncomputable def fX8_yearlyWear_54 (fu : Nat) (x0 : Nat) (x1 : Int32) (x2 : Int32) (x3 : Int32) (σ : St) : Option (Int32 × St) :=
  some (x3, σ)
set_option maxHeartbeats 4000000 in
set_option maxRecDepth 100000 in
theorem tX8_yearlyWear_54 {l : Launch} {D : va_G} {cA : ClassId} {bs : Nat} {ad : Nat → Nat} {p : Program} {e : Env} {s : State} {m : MethodId} {args : Array Value} {below : List Frame} {meth : Method} {c : Code} {fu : Nat} (C : Cx D cA bs ad RX8 cX8_yearlyWear 4 (some .int) p s m args meth c) {x0 : Nat} {x1 : Int32} {x2 : Int32} {x3 : Int32} {q : Int32 × St} (hx0 : xk x0 = 6) {σ : St} (h : fX8_yearlyWear_54 fu x0 x1 x2 x3 σ = some q) : Y D cA bs ad p l e (rmY 0 0) s m args below meth c 4 0 0 (QM D cA bs ad below args s (some (.int q.1)) q.2) σ 54 [(0, .ref (ad x0)), (1, .int x1), (2, .int x2), (3, .int x3)] [] := by
  unfold fX8_yearlyWear_54 at h
  refine y_iload_n (pc := 54) (q := 3) C dX8_yearlyWear_54 rfl rfl ?_
  cases h
  exact y_iret (pc := 55) C dX8_yearlyWear_55
noncomputable def fX8_yearlyWear_0 (fu : Nat) (x0 : Nat) (x1 : Int32) (x2 : Int32) (σ : St) : Option (Int32 × St) :=
  (ald σ (rf x0 6) 7 x2).bind fun (v101 : Int32) =>
  (ald σ (rf x0 0) 7 x1).bind fun (v102 : Int32) =>
  if v102 = (1 : Int32) then
    fX8_yearlyWear_44 fu x0 x1 x2 v101 σ
  else
  if v102 = (2 : Int32) then
    some ((v101 * (2 : Int32)), σ)
  else
  if v102 = (3 : Int32) then
    fX8_yearlyWear_54 fu x0 x1 x2 v101 σ
  else
  if v102 = (4 : Int32) then
    fX8_yearlyWear_44 fu x0 x1 x2 v101 σ
  else
  fX8_yearlyWear_54 fu x0 x1 x2 v101 σ
set_option maxHeartbeats 4000000 in
set_option maxRecDepth 100000 in
theorem tX8_yearlyWear_0 {l : Launch} {D : va_G} {cA : ClassId} {bs : Nat} {ad : Nat → Nat} {p : Program} {e : Env} {s : State} {m : MethodId} {args : Array Value} {below : List Frame} {meth : Method} {c : Code} {fu : Nat} (C : Cx D cA bs ad RX8 cX8_yearlyWear 4 (some .int) p s m args meth c) {x0 : Nat} {x1 : Int32} {x2 : Int32} {q : Int32 × St} (hx0 : xk x0 = 6) {σ : St} (h : fX8_yearlyWear_0 fu x0 x1 x2 σ = some q) : Y D cA bs ad p l e (rmY 0 0) s m args below meth c 4 0 0 (QM D cA bs ad below args s (some (.int q.1)) q.2) σ 0 [(0, .ref (ad x0)), (1, .int x1), (2, .int x2)] [] := by
  unfold fX8_yearlyWear_0 at h
  refine y_aload_n (pc := 0) (q := 0) C dX8_yearlyWear_0 rfl rfl ?_
  refine y_getr (pc := 1) C faX8_30 rfl hx0 dX8_yearlyWear_1 ?_
  refine y_iload_n (pc := 4) (q := 2) C dX8_yearlyWear_4 rfl rfl ?_
  obtain ⟨v101, ev101, h⟩ := bdS h
  refine y_iald (pc := 5) (n := 7) C (rf_6_6 _ hx0) (by decide) ev101 dX8_yearlyWear_5 ?_
  refine y_istore_n (pc := 6) (lv' := [(3, .int v101), (0, .ref (ad x0)), (1, .int x1), (2, .int x2)]) C dX8_yearlyWear_6 rfl (by decide) rfl ?_
  refine y_aload_n (pc := 7) (q := 1) C dX8_yearlyWear_7 rfl rfl ?_
  refine y_getr (pc := 8) C faX8_9 rfl hx0 dX8_yearlyWear_8 ?_
  refine y_iload_n (pc := 11) (q := 2) C dX8_yearlyWear_11 rfl rfl ?_
  obtain ⟨v102, ev102, h⟩ := bdS h
  refine y_iald (pc := 12) (n := 7) C (rf_6_0 _ hx0) (by decide) ev102 dX8_yearlyWear_12 ?_
  by_cases c103 : v102 = (1 : Int32)
  · rw [if_pos c103] at h
    refine y_tabI (pc := 13) (tgt := 44) (off := 31) C dX8_yearlyWear_13 (by rw [c103]; decide) (by rw [c103]; decide) (by rw [c103]; decide +kernel) (by decide) ?_
    refine y_sub [1, 2, 3, 0] (lv' := [(0, .ref (ad x0)), (1, .int x1), (2, .int x2), (3, .int v101)]) rfl ?_
    exact tX8_yearlyWear_44 (fu := fu) C hx0 h
  rw [if_neg c103] at h
  by_cases c104 : v102 = (2 : Int32)
  · rw [if_pos c104] at h
    refine y_tabI (pc := 13) (tgt := 50) (off := 37) C dX8_yearlyWear_13 (by rw [c104]; decide) (by rw [c104]; decide) (by rw [c104]; decide +kernel) (by decide) ?_
    refine y_iload_n (pc := 50) (q := 0) C dX8_yearlyWear_50 rfl rfl ?_
    refine y_iconst (pc := 51) (v := (2 : Int32)) C dX8_yearlyWear_51 (by decide) ?_
    refine y_imul (pc := 52) C dX8_yearlyWear_52 ?_
    cases h
    exact y_iret (pc := 53) C dX8_yearlyWear_53
  rw [if_neg c104] at h
  by_cases c105 : v102 = (3 : Int32)
  · rw [if_pos c105] at h
    refine y_tabI (pc := 13) (tgt := 54) (off := 41) C dX8_yearlyWear_13 (by rw [c105]; decide) (by rw [c105]; decide) (by rw [c105]; decide +kernel) (by decide) ?_
    refine y_sub [1, 2, 3, 0] (lv' := [(0, .ref (ad x0)), (1, .int x1), (2, .int x2), (3, .int v101)]) rfl ?_
    exact tX8_yearlyWear_54 (fu := fu) C hx0 h
  rw [if_neg c105] at h
  by_cases c106 : v102 = (4 : Int32)
  · rw [if_pos c106] at h
    refine y_tabI (pc := 13) (tgt := 44) (off := 31) C dX8_yearlyWear_13 (by rw [c106]; decide) (by rw [c106]; decide) (by rw [c106]; decide +kernel) (by decide) ?_
    refine y_sub [1, 2, 3, 0] (lv' := [(0, .ref (ad x0)), (1, .int x1), (2, .int x2), (3, .int v101)]) rfl ?_
    exact tX8_yearlyWear_44 (fu := fu) C hx0 h
  rw [if_neg c106] at h
  refine y_tabO (pc := 13) (tgt := 54) C dX8_yearlyWear_13 (by have := lv_neT (a := 1) c103 (by decide); have := lv_neT (a := 2) c104 (by decide); have := lv_neT (a := 3) c105 (by decide); have := lv_neT (a := 4) c106 (by decide); omega) (by decide) ?_
  refine y_sub [1, 2, 3, 0] (lv' := [(0, .ref (ad x0)), (1, .int x1), (2, .int x2), (3, .int v101)]) rfl ?_
  exact tX8_yearlyWear_54 (fu := fu) C hx0 h
noncomputable def fX8_yearlyWear (fu : Nat) (x0 : Nat) (x1 : Int32) (x2 : Int32) (σ : St) : Option (Int32 × St) := if xk x0 = 6 then fX8_yearlyWear_0 fu x0 x1 x2 σ else none
theorem mX8_yearlyWear {l : Launch} {D : va_G} {cA : ClassId} {bs fu : Nat} {ad : Nat → Nat} {x0 : Nat} {x1 : Int32} {x2 : Int32} {σ : St} {q : Int32 × St} (h : fX8_yearlyWear fu x0 x1 x2 σ = some q) : Ct l D cA bs ad yX8_yearlyWear cX8_yearlyWear 4 (some .int) 0 0 [.ref (ad x0), .int x1, .int x2] σ (some (.int q.1)) q.2 := by
  unfold fX8_yearlyWear at h
  by_cases hx0 : xk x0 = 6
  case neg => rw [if_neg hx0] at h; cases h
  rw [if_pos hx0] at h
  exact Ct.of (by decide) (Nat.le_of_ble_eq_true rfl) (fun p e s m args below meth c C => tX8_yearlyWear_0 (fu := fu) C hx0 h)
noncomputable def fX8_wornHead_0 (fu : Nat) (x0 : Nat) (x1 : Int32) (x2 : Int32) (x3 : Int32) (σ : St) : Option (Int32 × St) :=
  (fX8_yearlyWear fu x0 x2 x3 σ).bind fun (q101 : Int32 × St) =>
  some ((jmin (999 : Int32) (x1 + q101.1)), q101.2)
set_option maxHeartbeats 4000000 in
set_option maxRecDepth 100000 in
theorem tX8_wornHead_0 {l : Launch} {D : va_G} {cA : ClassId} {bs : Nat} {ad : Nat → Nat} {p : Program} {e : Env} {s : State} {m : MethodId} {args : Array Value} {below : List Frame} {meth : Method} {c : Code} {fu : Nat} (C : Cx D cA bs ad RX8 cX8_wornHead 4 (some .int) p s m args meth c) {x0 : Nat} {x1 : Int32} {x2 : Int32} {x3 : Int32} {q : Int32 × St} (hx0 : xk x0 = 6) {σ : St} (h : fX8_wornHead_0 fu x0 x1 x2 x3 σ = some q) : Y D cA bs ad p l e (rmY 1 23) s m args below meth c 4 0 0 (QM D cA bs ad below args s (some (.int q.1)) q.2) σ 0 [(0, .ref (ad x0)), (1, .int x1), (2, .int x2), (3, .int x3)] [] := by
  unfold fX8_wornHead_0 at h
  refine y_sipush (pc := 0) (v := (999 : Int32)) C dX8_wornHead_0 (by decide) ?_
  refine y_iload_n (pc := 3) (q := 1) C dX8_wornHead_3 rfl rfl ?_
  refine y_aload_n (pc := 4) (q := 0) C dX8_wornHead_4 rfl rfl ?_
  refine y_iload_n (pc := 5) (q := 2) C dX8_wornHead_5 rfl rfl ?_
  refine y_iload_n (pc := 6) (q := 3) C dX8_wornHead_6 rfl rfl ?_
  obtain ⟨q101, eq101, h⟩ := bdS h
  refine y_callV (pc := 7) (As := [.int x2, .int x3]) (rest := [.int x1, .int (999 : Int32)]) C (mX8_yearlyWear (fu := fu) eq101) vwX8_62 rfl (by decide) hx0 rfl rfl (Nat.le_of_ble_eq_true rfl) ⟨Nat.le_of_ble_eq_true rfl, Nat.le_of_ble_eq_true rfl⟩ ⟨Nat.le_refl _, Nat.le_refl _⟩ dX8_wornHead_7 ?_
  show Y _ _ _ _ _ _ _ _ _ _ _ _ _ _ _ _ _ _ q101.2 10 [(0, .ref (ad x0)), (1, .int x1), (2, .int x2), (3, .int x3)] [.int q101.1, .int x1, .int (999 : Int32)]
  refine y_iadd (pc := 10) C dX8_wornHead_10 ?_
  refine y_jmin (pc := 11) C jwX8_66 (Nat.le_of_ble_eq_true rfl) (Nat.le_of_ble_eq_true rfl) ⟨Nat.le_refl _, Nat.le_refl _⟩ dX8_wornHead_11 ?_
  cases h
  exact y_iret (pc := 14) C dX8_wornHead_14
noncomputable def fX8_wornHead (fu : Nat) (x0 : Nat) (x1 : Int32) (x2 : Int32) (x3 : Int32) (σ : St) : Option (Int32 × St) := if xk x0 = 6 then fX8_wornHead_0 fu x0 x1 x2 x3 σ else none
theorem mX8_wornHead {l : Launch} {D : va_G} {cA : ClassId} {bs fu : Nat} {ad : Nat → Nat} {x0 : Nat} {x1 : Int32} {x2 : Int32} {x3 : Int32} {σ : St} {q : Int32 × St} (h : fX8_wornHead fu x0 x1 x2 x3 σ = some q) : Ct l D cA bs ad yX8_wornHead cX8_wornHead 4 (some .int) 1 23 [.ref (ad x0), .int x1, .int x2, .int x3] σ (some (.int q.1)) q.2 := by
  unfold fX8_wornHead at h
  by_cases hx0 : xk x0 = 6
  case neg => rw [if_neg hx0] at h; cases h
  rw [if_pos hx0] at h
  exact Ct.of (by decide) (Nat.le_of_ble_eq_true rfl) (fun p e s m args below meth c C => tX8_wornHead_0 (fu := fu) C hx0 h)
noncomputable def fX8_wearIfLaid_29 (fu : Nat) (x0 : Nat) (x1 : Int32) (x2 : Int32) (x3 : Int32) (s0 : Int32) (σ : St) : Option (Int32 × St) :=
  (fX8_wornHead fu x0 s0 x1 x2 σ).bind fun (q101 : Int32 × St) =>
  some (q101.1, q101.2)
set_option maxHeartbeats 4000000 in
set_option maxRecDepth 100000 in
theorem tX8_wearIfLaid_29 {l : Launch} {D : va_G} {cA : ClassId} {bs : Nat} {ad : Nat → Nat} {p : Program} {e : Env} {s : State} {m : MethodId} {args : Array Value} {below : List Frame} {meth : Method} {c : Code} {fu : Nat} (C : Cx D cA bs ad RX8 cX8_wearIfLaid 5 (some .int) p s m args meth c) {x0 : Nat} {x1 : Int32} {x2 : Int32} {x3 : Int32} {s0 : Int32} {q : Int32 × St} (hx0 : xk x0 = 6) {σ : St} (h : fX8_wearIfLaid_29 fu x0 x1 x2 x3 s0 σ = some q) : Y D cA bs ad p l e (rmY 2 46) s m args below meth c 5 0 0 (QM D cA bs ad below args s (some (.int q.1)) q.2) σ 29 [(0, .ref (ad x0)), (1, .int x1), (2, .int x2), (3, .int x3)] [.int s0] := by
  unfold fX8_wearIfLaid_29 at h
  refine y_istore (pc := 29) (lv' := [(4, .int s0), (0, .ref (ad x0)), (1, .int x1), (2, .int x2), (3, .int x3)]) C dX8_wearIfLaid_29 (by decide) rfl ?_
  refine y_aload_n (pc := 31) (q := 1) C dX8_wearIfLaid_31 rfl rfl ?_
  refine y_iload (pc := 32) (q := 0) C dX8_wearIfLaid_32 rfl ?_
  refine y_iload_n (pc := 34) (q := 2) C dX8_wearIfLaid_34 rfl rfl ?_
  refine y_iload_n (pc := 35) (q := 3) C dX8_wearIfLaid_35 rfl rfl ?_
  obtain ⟨q101, eq101, h⟩ := bdS h
  refine y_callV (pc := 36) (As := [.int s0, .int x1, .int x2]) (rest := []) C (mX8_wornHead (fu := fu) eq101) vwX8_69 rfl (by decide) hx0 rfl rfl (Nat.le_of_ble_eq_true rfl) ⟨Nat.le_of_ble_eq_true rfl, Nat.le_of_ble_eq_true rfl⟩ ⟨Nat.le_refl _, Nat.le_refl _⟩ dX8_wearIfLaid_36 ?_
  show Y _ _ _ _ _ _ _ _ _ _ _ _ _ _ _ _ _ _ q101.2 39 [(4, .int s0), (0, .ref (ad x0)), (1, .int x1), (2, .int x2), (3, .int x3)] [.int q101.1]
  cases h
  exact y_iret (pc := 39) C dX8_wearIfLaid_39
noncomputable def fX8_wearIfLaid_23 (fu : Nat) (x0 : Nat) (x1 : Int32) (x2 : Int32) (x3 : Int32) (σ : St) : Option (Int32 × St) :=
  (ald σ (rf x0 1) 7 x1).bind fun (v101 : Int32) =>
  fX8_wearIfLaid_29 fu x0 x1 x2 x3 v101 σ
set_option maxHeartbeats 4000000 in
set_option maxRecDepth 100000 in
theorem tX8_wearIfLaid_23 {l : Launch} {D : va_G} {cA : ClassId} {bs : Nat} {ad : Nat → Nat} {p : Program} {e : Env} {s : State} {m : MethodId} {args : Array Value} {below : List Frame} {meth : Method} {c : Code} {fu : Nat} (C : Cx D cA bs ad RX8 cX8_wearIfLaid 5 (some .int) p s m args meth c) {x0 : Nat} {x1 : Int32} {x2 : Int32} {x3 : Int32} {q : Int32 × St} (hx0 : xk x0 = 6) {σ : St} (h : fX8_wearIfLaid_23 fu x0 x1 x2 x3 σ = some q) : Y D cA bs ad p l e (rmY 2 46) s m args below meth c 5 0 0 (QM D cA bs ad below args s (some (.int q.1)) q.2) σ 23 [(0, .ref (ad x0)), (1, .int x1), (2, .int x2), (3, .int x3)] [] := by
  unfold fX8_wearIfLaid_23 at h
  refine y_aload_n (pc := 23) (q := 0) C dX8_wearIfLaid_23 rfl rfl ?_
  refine y_getr (pc := 24) C faX8_15 rfl hx0 dX8_wearIfLaid_24 ?_
  refine y_iload_n (pc := 27) (q := 1) C dX8_wearIfLaid_27 rfl rfl ?_
  obtain ⟨v101, ev101, h⟩ := bdS h
  refine y_iald (pc := 28) (n := 7) C (rf_6_1 _ hx0) (by decide) ev101 dX8_wearIfLaid_28 ?_
  exact tX8_wearIfLaid_29 (fu := fu) C hx0 h
noncomputable def fX8_wearIfLaid_0 (fu : Nat) (x0 : Nat) (x1 : Int32) (x2 : Int32) (x3 : Int32) (σ : St) : Option (Int32 × St) :=
  if x3 = 0 then
    fX8_wearIfLaid_23 fu x0 x1 x2 x3 σ
  else
    (ald σ (rf x0 0) 7 x1).bind fun (v102 : Int32) =>
    if v102 = (4 : Int32) then
      fX8_wearIfLaid_23 fu x0 x1 x2 x3 σ
    else
      (ald σ (rf x0 2) 7 x1).bind fun (v104 : Int32) =>
      fX8_wearIfLaid_29 fu x0 x1 x2 x3 v104 σ
set_option maxHeartbeats 4000000 in
set_option maxRecDepth 100000 in
theorem tX8_wearIfLaid_0 {l : Launch} {D : va_G} {cA : ClassId} {bs : Nat} {ad : Nat → Nat} {p : Program} {e : Env} {s : State} {m : MethodId} {args : Array Value} {below : List Frame} {meth : Method} {c : Code} {fu : Nat} (C : Cx D cA bs ad RX8 cX8_wearIfLaid 5 (some .int) p s m args meth c) {x0 : Nat} {x1 : Int32} {x2 : Int32} {x3 : Int32} {q : Int32 × St} (hx0 : xk x0 = 6) {σ : St} (h : fX8_wearIfLaid_0 fu x0 x1 x2 x3 σ = some q) : Y D cA bs ad p l e (rmY 2 46) s m args below meth c 5 0 0 (QM D cA bs ad below args s (some (.int q.1)) q.2) σ 0 [(0, .ref (ad x0)), (1, .int x1), (2, .int x2), (3, .int x3)] [] := by
  unfold fX8_wearIfLaid_0 at h
  refine y_iload_n (pc := 0) (q := 3) C dX8_wearIfLaid_0 rfl rfl ?_
  refine y_if_eq (pc := 1) (tgt := 23) C dX8_wearIfLaid_1 (by decide) (fun c101 => ?_) (fun c101 => ?_)
  · rw [if_pos c101] at h
    exact tX8_wearIfLaid_23 (fu := fu) C hx0 h
  · rw [if_neg c101] at h
    refine y_aload_n (pc := 4) (q := 0) C dX8_wearIfLaid_4 rfl rfl ?_
    refine y_getr (pc := 5) C faX8_9 rfl hx0 dX8_wearIfLaid_5 ?_
    refine y_iload_n (pc := 8) (q := 1) C dX8_wearIfLaid_8 rfl rfl ?_
    obtain ⟨v102, ev102, h⟩ := bdS h
    refine y_iald (pc := 9) (n := 7) C (rf_6_0 _ hx0) (by decide) ev102 dX8_wearIfLaid_9 ?_
    refine y_iconst (pc := 10) (v := (4 : Int32)) C dX8_wearIfLaid_10 (by decide) ?_
    refine y_icmp_eq (pc := 11) (tgt := 23) C dX8_wearIfLaid_11 (by decide) (fun c103 => ?_) (fun c103 => ?_)
    · rw [if_pos c103] at h
      exact tX8_wearIfLaid_23 (fu := fu) C hx0 h
    · rw [if_neg c103] at h
      refine y_aload_n (pc := 14) (q := 0) C dX8_wearIfLaid_14 rfl rfl ?_
      refine y_getr (pc := 15) C faX8_18 rfl hx0 dX8_wearIfLaid_15 ?_
      refine y_iload_n (pc := 18) (q := 1) C dX8_wearIfLaid_18 rfl rfl ?_
      obtain ⟨v104, ev104, h⟩ := bdS h
      refine y_iald (pc := 19) (n := 7) C (rf_6_2 _ hx0) (by decide) ev104 dX8_wearIfLaid_19 ?_
      refine y_goto (pc := 20) (tgt := 29) C dX8_wearIfLaid_20 (by decide) ?_
      exact tX8_wearIfLaid_29 (fu := fu) C hx0 h
noncomputable def fX8_wearIfLaid (fu : Nat) (x0 : Nat) (x1 : Int32) (x2 : Int32) (x3 : Int32) (σ : St) : Option (Int32 × St) := if xk x0 = 6 then fX8_wearIfLaid_0 fu x0 x1 x2 x3 σ else none
theorem mX8_wearIfLaid {l : Launch} {D : va_G} {cA : ClassId} {bs fu : Nat} {ad : Nat → Nat} {x0 : Nat} {x1 : Int32} {x2 : Int32} {x3 : Int32} {σ : St} {q : Int32 × St} (h : fX8_wearIfLaid fu x0 x1 x2 x3 σ = some q) : Ct l D cA bs ad yX8_wearIfLaid cX8_wearIfLaid 5 (some .int) 2 46 [.ref (ad x0), .int x1, .int x2, .int x3] σ (some (.int q.1)) q.2 := by
  unfold fX8_wearIfLaid at h
  by_cases hx0 : xk x0 = 6
  case neg => rw [if_neg hx0] at h; cases h
  rw [if_pos hx0] at h
  exact Ct.of (by decide) (Nat.le_of_ble_eq_true rfl) (fun p e s m args below meth c C => tX8_wearIfLaid_0 (fu := fu) C hx0 h)
noncomputable def fX5_noteWear_13b (fu : Nat) (k2 : Int32 → St → Option (St)) (k13 : Int32 → Int32 → St → Option (St)) (x0 : Nat) (x1 : Nat) (x2 : Nat) (x3 : Int32) (x4 : Int32) (σ : St) : Option (St) :=
  if (σ.1 x0 5) ≤ x4 then
    nm (x3 + (1 : Int32)) fun (y102 : Int32) =>
    k2 y102 σ
  else
    (fX4_turns fu x2 σ).bind fun (q103 : Int32 × St) =>
    (fX8_wearIfLaid fu x1 x3 x4 q103.1 q103.2).bind fun (q104 : Int32 × St) =>
    (ast q104.2 (rf x0 2) 49 ((x3 * (7 : Int32)) + x4) q104.1).bind fun (σ105 : St) =>
    nm (x4 + (1 : Int32)) fun (y106 : Int32) =>
    k13 x3 y106 σ105
set_option maxHeartbeats 4000000 in
set_option maxRecDepth 100000 in
theorem tX5_noteWear_13b {l : Launch} {D : va_G} {cA : ClassId} {bs : Nat} {ad : Nat → Nat} {p : Program} {e : Env} {s : State} {m : MethodId} {args : Array Value} {below : List Frame} {meth : Method} {c : Code} {fu : Nat} (C : Cx D cA bs ad RX5 cX5_noteWear 5 none p s m args meth c) {k2 : Int32 → St → Option (St)} {k13 : Int32 → Int32 → St → Option (St)} {x0 : Nat} {x1 : Nat} {x2 : Nat} {x3 : Int32} {x4 : Int32} {q : St} (hx0 : xk x0 = 3) (hx1 : xk x1 = 6) (hx2 : xk x2 = 2) (hk2 : ∀ (x3 : Int32) (σ : St), k2 x3 σ = some q → Y D cA bs ad p l e (rmY 3 70) s m args below meth c 5 0 0 (QM D cA bs ad below args s none q) σ 2 [(0, .ref (ad x0)), (1, .ref (ad x1)), (2, .ref (ad x2)), (3, .int x3)] []) (hk13 : ∀ (x3 : Int32) (x4 : Int32) (σ : St), k13 x3 x4 σ = some q → Y D cA bs ad p l e (rmY 3 70) s m args below meth c 5 0 0 (QM D cA bs ad below args s none q) σ 13 [(0, .ref (ad x0)), (1, .ref (ad x1)), (2, .ref (ad x2)), (3, .int x3), (4, .int x4)] []) {σ : St} (h : fX5_noteWear_13b fu k2 k13 x0 x1 x2 x3 x4 σ = some q) : Y D cA bs ad p l e (rmY 3 70) s m args below meth c 5 0 0 (QM D cA bs ad below args s none q) σ 13 [(0, .ref (ad x0)), (1, .ref (ad x1)), (2, .ref (ad x2)), (3, .int x3), (4, .int x4)] [] := by
  unfold fX5_noteWear_13b at h
  refine y_iload (pc := 13) (q := 4) C dX5_noteWear_13 rfl ?_
  refine y_aload_n (pc := 15) (q := 0) C dX5_noteWear_15 rfl rfl ?_
  refine y_geti (pc := 16) C faX5_37 rfl hx0 dX5_noteWear_16 ?_
  refine y_icmp_ge (pc := 19) (tgt := 51) C dX5_noteWear_19 (by decide) (fun c101 => ?_) (fun c101 => ?_)
  · rw [if_pos c101] at h
    obtain ⟨y102, ey102, h⟩ := nmS h
    refine y_iinc (pc := 51) (v := y102) (k := 3) (lv' := [(3, .int y102), (0, .ref (ad x0)), (1, .ref (ad x1)), (2, .ref (ad x2)), (4, .int x4)]) C dX5_noteWear_51 rfl (by rw [ey102]; rfl) (by decide) rfl ?_
    refine y_goto (pc := 54) (tgt := 2) C dX5_noteWear_54 (by decide) ?_
    refine y_sub [1, 2, 3, 0] (lv' := [(0, .ref (ad x0)), (1, .ref (ad x1)), (2, .ref (ad x2)), (3, .int y102)]) rfl ?_
    exact hk2 _ _ h
  · rw [if_neg c101] at h
    refine y_aload_n (pc := 22) (q := 0) C dX5_noteWear_22 rfl rfl ?_
    refine y_getr (pc := 23) C faX5_18 rfl hx0 dX5_noteWear_23 ?_
    refine y_iload_n (pc := 26) (q := 3) C dX5_noteWear_26 rfl rfl ?_
    refine y_bipush (pc := 27) (v := (7 : Int32)) C dX5_noteWear_27 (by decide) ?_
    refine y_imul (pc := 29) C dX5_noteWear_29 ?_
    refine y_iload (pc := 30) (q := 4) C dX5_noteWear_30 rfl ?_
    refine y_iadd (pc := 32) C dX5_noteWear_32 ?_
    refine y_aload_n (pc := 33) (q := 1) C dX5_noteWear_33 rfl rfl ?_
    refine y_iload_n (pc := 34) (q := 3) C dX5_noteWear_34 rfl rfl ?_
    refine y_iload (pc := 35) (q := 4) C dX5_noteWear_35 rfl ?_
    refine y_aload_n (pc := 37) (q := 2) C dX5_noteWear_37 rfl rfl ?_
    obtain ⟨q103, eq103, h⟩ := bdS h
    refine y_callV (pc := 38) (As := []) (rest := [.int x4, .int x3, .ref (ad x1), .int ((x3 * (7 : Int32)) + x4), .ref (ad (rf x0 2))]) C (mX4_turns (fu := fu) eq103) vwX5_89 rfl (by decide) hx2 rfl rfl (Nat.le_of_ble_eq_true rfl) ⟨Nat.le_of_ble_eq_true rfl, Nat.le_of_ble_eq_true rfl⟩ ⟨Nat.le_refl _, Nat.le_refl _⟩ dX5_noteWear_38 ?_
    show Y _ _ _ _ _ _ _ _ _ _ _ _ _ _ _ _ _ _ q103.2 41 [(0, .ref (ad x0)), (1, .ref (ad x1)), (2, .ref (ad x2)), (3, .int x3), (4, .int x4)] [.int q103.1, .int x4, .int x3, .ref (ad x1), .int ((x3 * (7 : Int32)) + x4), .ref (ad (rf x0 2))]
    obtain ⟨q104, eq104, h⟩ := bdS h
    refine y_callV (pc := 41) (As := [.int x3, .int x4, .int q103.1]) (rest := [.int ((x3 * (7 : Int32)) + x4), .ref (ad (rf x0 2))]) C (mX8_wearIfLaid (fu := fu) eq104) vwX5_95 rfl (by decide) hx1 rfl rfl (Nat.le_of_ble_eq_true rfl) ⟨Nat.le_of_ble_eq_true rfl, Nat.le_of_ble_eq_true rfl⟩ ⟨Nat.le_refl _, Nat.le_refl _⟩ dX5_noteWear_41 ?_
    show Y _ _ _ _ _ _ _ _ _ _ _ _ _ _ _ _ _ _ q104.2 44 [(0, .ref (ad x0)), (1, .ref (ad x1)), (2, .ref (ad x2)), (3, .int x3), (4, .int x4)] [.int q104.1, .int ((x3 * (7 : Int32)) + x4), .ref (ad (rf x0 2))]
    obtain ⟨σ105, eσ105, h⟩ := bdS h
    refine y_iast (pc := 44) (n := 49) C (rf_3_2 _ hx0) (by decide) eσ105 dX5_noteWear_44 ?_
    obtain ⟨y106, ey106, h⟩ := nmS h
    refine y_iinc (pc := 45) (v := y106) (k := 4) (lv' := [(4, .int y106), (0, .ref (ad x0)), (1, .ref (ad x1)), (2, .ref (ad x2)), (3, .int x3)]) C dX5_noteWear_45 rfl (by rw [ey106]; rfl) (by decide) rfl ?_
    refine y_goto (pc := 48) (tgt := 13) C dX5_noteWear_48 (by decide) ?_
    refine y_sub [1, 2, 3, 4, 0] (lv' := [(0, .ref (ad x0)), (1, .ref (ad x1)), (2, .ref (ad x2)), (3, .int x3), (4, .int y106)]) rfl ?_
    exact hk13 _ _ _ h
noncomputable def fX5_noteWear_13 (fu : Nat) (k2 : Int32 → St → Option (St)) (x0 : Nat) (x1 : Nat) (x2 : Nat) : Nat → Int32 → Int32 → St → Option (St) := lp (fun k13 => fX5_noteWear_13b fu k2 k13 x0 x1 x2) (fun _ _ _ => none)
set_option maxHeartbeats 4000000 in
theorem tX5_noteWear_13 {l : Launch} {D : va_G} {cA : ClassId} {bs : Nat} {ad : Nat → Nat} {p : Program} {e : Env} {s : State} {m : MethodId} {args : Array Value} {below : List Frame} {meth : Method} {c : Code} {fu : Nat} (C : Cx D cA bs ad RX5 cX5_noteWear 5 none p s m args meth c) {k2 : Int32 → St → Option (St)} {x0 : Nat} {x1 : Nat} {x2 : Nat} {q : St} (hx0 : xk x0 = 3) (hx1 : xk x1 = 6) (hx2 : xk x2 = 2) (hk2 : ∀ (x3 : Int32) (σ : St), k2 x3 σ = some q → Y D cA bs ad p l e (rmY 3 70) s m args below meth c 5 0 0 (QM D cA bs ad below args s none q) σ 2 [(0, .ref (ad x0)), (1, .ref (ad x1)), (2, .ref (ad x2)), (3, .int x3)] []) : ∀ (n : Nat) (x3 : Int32) (x4 : Int32) (σ : St), fX5_noteWear_13 fu k2 x0 x1 x2 n x3 x4 σ = some q → Y D cA bs ad p l e (rmY 3 70) s m args below meth c 5 0 0 (QM D cA bs ad below args s none q) σ 13 [(0, .ref (ad x0)), (1, .ref (ad x1)), (2, .ref (ad x2)), (3, .int x3), (4, .int x4)] [] := by
  intro n
  induction n with
  | zero => intro x3 x4 σ h; cases h
  | succ n ih => intro x3 x4 σ h; exact tX5_noteWear_13b (fu := fu) C hx0 hx1 hx2 hk2 ih h
noncomputable def fX5_noteWear_2b (fu : Nat) (k2 : Int32 → St → Option (St)) (x0 : Nat) (x1 : Nat) (x2 : Nat) (x3 : Int32) (σ : St) : Option (St) :=
  if (σ.1 x0 5) ≤ x3 then
    some σ
  else
    fX5_noteWear_13 fu k2 x0 x1 x2 fu x3 (0 : Int32) σ
set_option maxHeartbeats 4000000 in
set_option maxRecDepth 100000 in
theorem tX5_noteWear_2b {l : Launch} {D : va_G} {cA : ClassId} {bs : Nat} {ad : Nat → Nat} {p : Program} {e : Env} {s : State} {m : MethodId} {args : Array Value} {below : List Frame} {meth : Method} {c : Code} {fu : Nat} (C : Cx D cA bs ad RX5 cX5_noteWear 5 none p s m args meth c) {k2 : Int32 → St → Option (St)} {x0 : Nat} {x1 : Nat} {x2 : Nat} {x3 : Int32} {q : St} (hx0 : xk x0 = 3) (hx1 : xk x1 = 6) (hx2 : xk x2 = 2) (hk2 : ∀ (x3 : Int32) (σ : St), k2 x3 σ = some q → Y D cA bs ad p l e (rmY 3 70) s m args below meth c 5 0 0 (QM D cA bs ad below args s none q) σ 2 [(0, .ref (ad x0)), (1, .ref (ad x1)), (2, .ref (ad x2)), (3, .int x3)] []) {σ : St} (h : fX5_noteWear_2b fu k2 x0 x1 x2 x3 σ = some q) : Y D cA bs ad p l e (rmY 3 70) s m args below meth c 5 0 0 (QM D cA bs ad below args s none q) σ 2 [(0, .ref (ad x0)), (1, .ref (ad x1)), (2, .ref (ad x2)), (3, .int x3)] [] := by
  unfold fX5_noteWear_2b at h
  refine y_iload_n (pc := 2) (q := 3) C dX5_noteWear_2 rfl rfl ?_
  refine y_aload_n (pc := 3) (q := 0) C dX5_noteWear_3 rfl rfl ?_
  refine y_geti (pc := 4) C faX5_37 rfl hx0 dX5_noteWear_4 ?_
  refine y_icmp_ge (pc := 7) (tgt := 57) C dX5_noteWear_7 (by decide) (fun c101 => ?_) (fun c101 => ?_)
  · rw [if_pos c101] at h
    cases h
    exact y_vret (pc := 57) C dX5_noteWear_57
  · rw [if_neg c101] at h
    refine y_iconst (pc := 10) (v := (0 : Int32)) C dX5_noteWear_10 (by decide) ?_
    refine y_istore (pc := 11) (lv' := [(4, .int (0 : Int32)), (0, .ref (ad x0)), (1, .ref (ad x1)), (2, .ref (ad x2)), (3, .int x3)]) C dX5_noteWear_11 (by decide) rfl ?_
    refine y_sub [1, 2, 3, 4, 0] (lv' := [(0, .ref (ad x0)), (1, .ref (ad x1)), (2, .ref (ad x2)), (3, .int x3), (4, .int (0 : Int32))]) rfl ?_
    exact tX5_noteWear_13 (fu := fu) C hx0 hx1 hx2 hk2 fu _ _ _ h
noncomputable def fX5_noteWear_2 (fu : Nat) (x0 : Nat) (x1 : Nat) (x2 : Nat) : Nat → Int32 → St → Option (St) := lp (fun k2 => fX5_noteWear_2b fu k2 x0 x1 x2) (fun _ _ => none)
set_option maxHeartbeats 4000000 in
theorem tX5_noteWear_2 {l : Launch} {D : va_G} {cA : ClassId} {bs : Nat} {ad : Nat → Nat} {p : Program} {e : Env} {s : State} {m : MethodId} {args : Array Value} {below : List Frame} {meth : Method} {c : Code} {fu : Nat} (C : Cx D cA bs ad RX5 cX5_noteWear 5 none p s m args meth c) {x0 : Nat} {x1 : Nat} {x2 : Nat} {q : St} (hx0 : xk x0 = 3) (hx1 : xk x1 = 6) (hx2 : xk x2 = 2)  : ∀ (n : Nat) (x3 : Int32) (σ : St), fX5_noteWear_2 fu  x0 x1 x2 n x3 σ = some q → Y D cA bs ad p l e (rmY 3 70) s m args below meth c 5 0 0 (QM D cA bs ad below args s none q) σ 2 [(0, .ref (ad x0)), (1, .ref (ad x1)), (2, .ref (ad x2)), (3, .int x3)] [] := by
  intro n
  induction n with
  | zero => intro x3 σ h; cases h
  | succ n ih => intro x3 σ h; exact tX5_noteWear_2b (fu := fu) C hx0 hx1 hx2 ih h
noncomputable def fX5_noteWear_0 (fu : Nat) (x0 : Nat) (x1 : Nat) (x2 : Nat) (σ : St) : Option (St) :=
  fX5_noteWear_2 fu x0 x1 x2 fu (0 : Int32) σ
set_option maxHeartbeats 4000000 in
set_option maxRecDepth 100000 in
theorem tX5_noteWear_0 {l : Launch} {D : va_G} {cA : ClassId} {bs : Nat} {ad : Nat → Nat} {p : Program} {e : Env} {s : State} {m : MethodId} {args : Array Value} {below : List Frame} {meth : Method} {c : Code} {fu : Nat} (C : Cx D cA bs ad RX5 cX5_noteWear 5 none p s m args meth c) {x0 : Nat} {x1 : Nat} {x2 : Nat} {q : St} (hx0 : xk x0 = 3) (hx1 : xk x1 = 6) (hx2 : xk x2 = 2) {σ : St} (h : fX5_noteWear_0 fu x0 x1 x2 σ = some q) : Y D cA bs ad p l e (rmY 3 70) s m args below meth c 5 0 0 (QM D cA bs ad below args s none q) σ 0 [(0, .ref (ad x0)), (1, .ref (ad x1)), (2, .ref (ad x2))] [] := by
  unfold fX5_noteWear_0 at h
  refine y_iconst (pc := 0) (v := (0 : Int32)) C dX5_noteWear_0 (by decide) ?_
  refine y_istore_n (pc := 1) (lv' := [(3, .int (0 : Int32)), (0, .ref (ad x0)), (1, .ref (ad x1)), (2, .ref (ad x2))]) C dX5_noteWear_1 rfl (by decide) rfl ?_
  refine y_sub [1, 2, 3, 0] (lv' := [(0, .ref (ad x0)), (1, .ref (ad x1)), (2, .ref (ad x2)), (3, .int (0 : Int32))]) rfl ?_
  exact tX5_noteWear_2 (fu := fu) C hx0 hx1 hx2 fu _ _ h
noncomputable def fX5_noteWear (fu : Nat) (x0 : Nat) (x1 : Nat) (x2 : Nat) (σ : St) : Option (St) := if xk x0 = 3 then if xk x1 = 6 then if xk x2 = 2 then fX5_noteWear_0 fu x0 x1 x2 σ else none else none else none
theorem mX5_noteWear {l : Launch} {D : va_G} {cA : ClassId} {bs fu : Nat} {ad : Nat → Nat} {x0 : Nat} {x1 : Nat} {x2 : Nat} {σ : St} {q : St} (h : fX5_noteWear fu x0 x1 x2 σ = some q) : Ct l D cA bs ad yX5_noteWear cX5_noteWear 5 none 3 70 [.ref (ad x0), .ref (ad x1), .ref (ad x2)] σ none q := by
  unfold fX5_noteWear at h
  by_cases hx0 : xk x0 = 3
  case neg => rw [if_neg hx0] at h; cases h
  rw [if_pos hx0] at h
  by_cases hx1 : xk x1 = 6
  case neg => rw [if_neg hx1] at h; cases h
  rw [if_pos hx1] at h
  by_cases hx2 : xk x2 = 2
  case neg => rw [if_neg hx2] at h; cases h
  rw [if_pos hx2] at h
  exact Ct.of (by decide) (Nat.le_of_ble_eq_true rfl) (fun p e s m args below meth c C => tX5_noteWear_0 (fu := fu) C hx0 hx1 hx2 h)
noncomputable def fX4_wantsTwinsTogether_0 (fu : Nat) (x0 : Nat) (σ : St) : Option (Int32 × St) :=
  if (σ.1 x0 2) = 0 ∨ (σ.1 x0 2) = 1 then some ((σ.1 x0 2), σ) else none
set_option maxHeartbeats 4000000 in
set_option maxRecDepth 100000 in
theorem tX4_wantsTwinsTogether_0 {l : Launch} {D : va_G} {cA : ClassId} {bs : Nat} {ad : Nat → Nat} {p : Program} {e : Env} {s : State} {m : MethodId} {args : Array Value} {below : List Frame} {meth : Method} {c : Code} {fu : Nat} (C : Cx D cA bs ad RX4 cX4_wantsTwinsTogether 1 (some .boolean) p s m args meth c) {x0 : Nat} {q : Int32 × St} (hx0 : xk x0 = 2) {σ : St} (h : fX4_wantsTwinsTogether_0 fu x0 σ = some q) : Y D cA bs ad p l e (rmY 0 0) s m args below meth c 1 0 0 (QM D cA bs ad below args s (some (.int q.1)) q.2) σ 0 [(0, .ref (ad x0))] [] := by
  unfold fX4_wantsTwinsTogether_0 at h
  refine y_aload_n (pc := 0) (q := 0) C dX4_wantsTwinsTogether_0 rfl rfl ?_
  refine y_geti (pc := 1) C faX4_20 rfl hx0 dX4_wantsTwinsTogether_1 ?_
  by_cases c101 : (σ.1 x0 2) = 0 ∨ (σ.1 x0 2) = 1
  case neg => rw [if_neg c101] at h; cases h
  rw [if_pos c101] at h
  cases h
  exact y_zret (pc := 4) C c101 dX4_wantsTwinsTogether_4
noncomputable def fX4_wantsTwinsTogether (fu : Nat) (x0 : Nat) (σ : St) : Option (Int32 × St) := if xk x0 = 2 then fX4_wantsTwinsTogether_0 fu x0 σ else none
theorem mX4_wantsTwinsTogether {l : Launch} {D : va_G} {cA : ClassId} {bs fu : Nat} {ad : Nat → Nat} {x0 : Nat} {σ : St} {q : Int32 × St} (h : fX4_wantsTwinsTogether fu x0 σ = some q) : Ct l D cA bs ad yX4_wantsTwinsTogether cX4_wantsTwinsTogether 1 (some .boolean) 0 0 [.ref (ad x0)] σ (some (.int q.1)) q.2 := by
  unfold fX4_wantsTwinsTogether at h
  by_cases hx0 : xk x0 = 2
  case neg => rw [if_neg hx0] at h; cases h
  rw [if_pos hx0] at h
  exact Ct.of (by decide) (Nat.le_of_ble_eq_true rfl) (fun p e s m args below meth c C => tX4_wantsTwinsTogether_0 (fu := fu) C hx0 h)
noncomputable def fX8_isTwin_15 (fu : Nat) (x0 : Nat) (x1 : Int32) (s0 : Int32) (σ : St) : Option (Int32 × St) :=
  if s0 = 0 ∨ s0 = 1 then some (s0, σ) else none
set_option maxHeartbeats 4000000 in
set_option maxRecDepth 100000 in
theorem tX8_isTwin_15 {l : Launch} {D : va_G} {cA : ClassId} {bs : Nat} {ad : Nat → Nat} {p : Program} {e : Env} {s : State} {m : MethodId} {args : Array Value} {below : List Frame} {meth : Method} {c : Code} {fu : Nat} (C : Cx D cA bs ad RX8 cX8_isTwin 2 (some .boolean) p s m args meth c) {x0 : Nat} {x1 : Int32} {s0 : Int32} {q : Int32 × St} (hx0 : xk x0 = 6) {σ : St} (h : fX8_isTwin_15 fu x0 x1 s0 σ = some q) : Y D cA bs ad p l e (rmY 0 0) s m args below meth c 2 0 0 (QM D cA bs ad below args s (some (.int q.1)) q.2) σ 15 [(0, .ref (ad x0)), (1, .int x1)] [.int s0] := by
  unfold fX8_isTwin_15 at h
  by_cases c101 : s0 = 0 ∨ s0 = 1
  case neg => rw [if_neg c101] at h; cases h
  rw [if_pos c101] at h
  cases h
  exact y_zret (pc := 15) C c101 dX8_isTwin_15
noncomputable def fX8_isTwin_0 (fu : Nat) (x0 : Nat) (x1 : Int32) (σ : St) : Option (Int32 × St) :=
  (ald σ (rf x0 0) 7 x1).bind fun (v101 : Int32) =>
  if v101 = (3 : Int32) then
    fX8_isTwin_15 fu x0 x1 (1 : Int32) σ
  else
    fX8_isTwin_15 fu x0 x1 (0 : Int32) σ
set_option maxHeartbeats 4000000 in
set_option maxRecDepth 100000 in
theorem tX8_isTwin_0 {l : Launch} {D : va_G} {cA : ClassId} {bs : Nat} {ad : Nat → Nat} {p : Program} {e : Env} {s : State} {m : MethodId} {args : Array Value} {below : List Frame} {meth : Method} {c : Code} {fu : Nat} (C : Cx D cA bs ad RX8 cX8_isTwin 2 (some .boolean) p s m args meth c) {x0 : Nat} {x1 : Int32} {q : Int32 × St} (hx0 : xk x0 = 6) {σ : St} (h : fX8_isTwin_0 fu x0 x1 σ = some q) : Y D cA bs ad p l e (rmY 0 0) s m args below meth c 2 0 0 (QM D cA bs ad below args s (some (.int q.1)) q.2) σ 0 [(0, .ref (ad x0)), (1, .int x1)] [] := by
  unfold fX8_isTwin_0 at h
  refine y_aload_n (pc := 0) (q := 0) C dX8_isTwin_0 rfl rfl ?_
  refine y_getr (pc := 1) C faX8_9 rfl hx0 dX8_isTwin_1 ?_
  refine y_iload_n (pc := 4) (q := 1) C dX8_isTwin_4 rfl rfl ?_
  obtain ⟨v101, ev101, h⟩ := bdS h
  refine y_iald (pc := 5) (n := 7) C (rf_6_0 _ hx0) (by decide) ev101 dX8_isTwin_5 ?_
  refine y_iconst (pc := 6) (v := (3 : Int32)) C dX8_isTwin_6 (by decide) ?_
  refine y_icmp_ne (pc := 7) (tgt := 14) C dX8_isTwin_7 (by decide) (fun c102 => ?_) (fun c102 => ?_)
  · rw [if_neg c102] at h
    refine y_iconst (pc := 14) (v := (0 : Int32)) C dX8_isTwin_14 (by decide) ?_
    exact tX8_isTwin_15 (fu := fu) C hx0 h
  · rw [if_pos c102] at h
    refine y_iconst (pc := 10) (v := (1 : Int32)) C dX8_isTwin_10 (by decide) ?_
    refine y_goto (pc := 11) (tgt := 15) C dX8_isTwin_11 (by decide) ?_
    exact tX8_isTwin_15 (fu := fu) C hx0 h
noncomputable def fX8_isTwin (fu : Nat) (x0 : Nat) (x1 : Int32) (σ : St) : Option (Int32 × St) := if xk x0 = 6 then fX8_isTwin_0 fu x0 x1 σ else none
theorem mX8_isTwin {l : Launch} {D : va_G} {cA : ClassId} {bs fu : Nat} {ad : Nat → Nat} {x0 : Nat} {x1 : Int32} {σ : St} {q : Int32 × St} (h : fX8_isTwin fu x0 x1 σ = some q) : Ct l D cA bs ad yX8_isTwin cX8_isTwin 2 (some .boolean) 0 0 [.ref (ad x0), .int x1] σ (some (.int q.1)) q.2 := by
  unfold fX8_isTwin at h
  by_cases hx0 : xk x0 = 6
  case neg => rw [if_neg hx0] at h; cases h
  rw [if_pos hx0] at h
  exact Ct.of (by decide) (Nat.le_of_ble_eq_true rfl) (fun p e s m args below meth c C => tX8_isTwin_0 (fu := fu) C hx0 h)
noncomputable def fX8_lieTogether_25 (fu : Nat) (x0 : Nat) (x1 : Int32) (x2 : Int32) (s0 : Int32) (σ : St) : Option (Int32 × St) :=
  if s0 = 0 ∨ s0 = 1 then some (s0, σ) else none
set_option maxHeartbeats 4000000 in
set_option maxRecDepth 100000 in
theorem tX8_lieTogether_25 {l : Launch} {D : va_G} {cA : ClassId} {bs : Nat} {ad : Nat → Nat} {p : Program} {e : Env} {s : State} {m : MethodId} {args : Array Value} {below : List Frame} {meth : Method} {c : Code} {fu : Nat} (C : Cx D cA bs ad RX8 cX8_lieTogether 3 (some .boolean) p s m args meth c) {x0 : Nat} {x1 : Int32} {x2 : Int32} {s0 : Int32} {q : Int32 × St} (hx0 : xk x0 = 6) {σ : St} (h : fX8_lieTogether_25 fu x0 x1 x2 s0 σ = some q) : Y D cA bs ad p l e (rmY 1 21) s m args below meth c 3 0 0 (QM D cA bs ad below args s (some (.int q.1)) q.2) σ 25 [(0, .ref (ad x0)), (1, .int x1), (2, .int x2)] [.int s0] := by
  unfold fX8_lieTogether_25 at h
  by_cases c101 : s0 = 0 ∨ s0 = 1
  case neg => rw [if_neg c101] at h; cases h
  rw [if_pos c101] at h
  cases h
  exact y_zret (pc := 25) C c101 dX8_lieTogether_25
noncomputable def fX8_lieTogether_0 (fu : Nat) (x0 : Nat) (x1 : Int32) (x2 : Int32) (σ : St) : Option (Int32 × St) :=
  (ald σ (rf x0 4) 7 x1).bind fun (v101 : Int32) =>
  (ald σ (rf x0 4) 7 x2).bind fun (v102 : Int32) =>
  if (jabs (v101 - v102)) = (1 : Int32) then
    fX8_lieTogether_25 fu x0 x1 x2 (1 : Int32) σ
  else
    fX8_lieTogether_25 fu x0 x1 x2 (0 : Int32) σ
set_option maxHeartbeats 4000000 in
set_option maxRecDepth 100000 in
theorem tX8_lieTogether_0 {l : Launch} {D : va_G} {cA : ClassId} {bs : Nat} {ad : Nat → Nat} {p : Program} {e : Env} {s : State} {m : MethodId} {args : Array Value} {below : List Frame} {meth : Method} {c : Code} {fu : Nat} (C : Cx D cA bs ad RX8 cX8_lieTogether 3 (some .boolean) p s m args meth c) {x0 : Nat} {x1 : Int32} {x2 : Int32} {q : Int32 × St} (hx0 : xk x0 = 6) {σ : St} (h : fX8_lieTogether_0 fu x0 x1 x2 σ = some q) : Y D cA bs ad p l e (rmY 1 21) s m args below meth c 3 0 0 (QM D cA bs ad below args s (some (.int q.1)) q.2) σ 0 [(0, .ref (ad x0)), (1, .int x1), (2, .int x2)] [] := by
  unfold fX8_lieTogether_0 at h
  refine y_aload_n (pc := 0) (q := 0) C dX8_lieTogether_0 rfl rfl ?_
  refine y_getr (pc := 1) C faX8_24 rfl hx0 dX8_lieTogether_1 ?_
  refine y_iload_n (pc := 4) (q := 1) C dX8_lieTogether_4 rfl rfl ?_
  obtain ⟨v101, ev101, h⟩ := bdS h
  refine y_iald (pc := 5) (n := 7) C (rf_6_4 _ hx0) (by decide) ev101 dX8_lieTogether_5 ?_
  refine y_aload_n (pc := 6) (q := 0) C dX8_lieTogether_6 rfl rfl ?_
  refine y_getr (pc := 7) C faX8_24 rfl hx0 dX8_lieTogether_7 ?_
  refine y_iload_n (pc := 10) (q := 2) C dX8_lieTogether_10 rfl rfl ?_
  obtain ⟨v102, ev102, h⟩ := bdS h
  refine y_iald (pc := 11) (n := 7) C (rf_6_4 _ hx0) (by decide) ev102 dX8_lieTogether_11 ?_
  refine y_isub (pc := 12) C dX8_lieTogether_12 ?_
  refine y_jabs (pc := 13) C jwX8_57 (Nat.le_of_ble_eq_true rfl) (Nat.le_of_ble_eq_true rfl) ⟨Nat.le_refl _, Nat.le_refl _⟩ dX8_lieTogether_13 ?_
  refine y_iconst (pc := 16) (v := (1 : Int32)) C dX8_lieTogether_16 (by decide) ?_
  refine y_icmp_ne (pc := 17) (tgt := 24) C dX8_lieTogether_17 (by decide) (fun c103 => ?_) (fun c103 => ?_)
  · rw [if_neg c103] at h
    refine y_iconst (pc := 24) (v := (0 : Int32)) C dX8_lieTogether_24 (by decide) ?_
    exact tX8_lieTogether_25 (fu := fu) C hx0 h
  · rw [if_pos c103] at h
    refine y_iconst (pc := 20) (v := (1 : Int32)) C dX8_lieTogether_20 (by decide) ?_
    refine y_goto (pc := 21) (tgt := 25) C dX8_lieTogether_21 (by decide) ?_
    exact tX8_lieTogether_25 (fu := fu) C hx0 h
noncomputable def fX8_lieTogether (fu : Nat) (x0 : Nat) (x1 : Int32) (x2 : Int32) (σ : St) : Option (Int32 × St) := if xk x0 = 6 then fX8_lieTogether_0 fu x0 x1 x2 σ else none
theorem mX8_lieTogether {l : Launch} {D : va_G} {cA : ClassId} {bs fu : Nat} {ad : Nat → Nat} {x0 : Nat} {x1 : Int32} {x2 : Int32} {σ : St} {q : Int32 × St} (h : fX8_lieTogether fu x0 x1 x2 σ = some q) : Ct l D cA bs ad yX8_lieTogether cX8_lieTogether 3 (some .boolean) 1 21 [.ref (ad x0), .int x1, .int x2] σ (some (.int q.1)) q.2 := by
  unfold fX8_lieTogether at h
  by_cases hx0 : xk x0 = 6
  case neg => rw [if_neg hx0] at h; cases h
  rw [if_pos hx0] at h
  exact Ct.of (by decide) (Nat.le_of_ble_eq_true rfl) (fun p e s m args below meth c C => tX8_lieTogether_0 (fu := fu) C hx0 h)
noncomputable def fX4_letsLieTogether_21 (fu : Nat) (x0 : Nat) (x1 : Nat) (x2 : Int32) (x3 : Int32) (s0 : Int32) (σ : St) : Option (Int32 × St) :=
  if s0 = 0 ∨ s0 = 1 then some (s0, σ) else none
set_option maxHeartbeats 4000000 in
set_option maxRecDepth 100000 in
theorem tX4_letsLieTogether_21 {l : Launch} {D : va_G} {cA : ClassId} {bs : Nat} {ad : Nat → Nat} {p : Program} {e : Env} {s : State} {m : MethodId} {args : Array Value} {below : List Frame} {meth : Method} {c : Code} {fu : Nat} (C : Cx D cA bs ad RX4 cX4_letsLieTogether 4 (some .boolean) p s m args meth c) {x0 : Nat} {x1 : Nat} {x2 : Int32} {x3 : Int32} {s0 : Int32} {q : Int32 × St} (hx0 : xk x0 = 2) (hx1 : xk x1 = 6) {σ : St} (h : fX4_letsLieTogether_21 fu x0 x1 x2 x3 s0 σ = some q) : Y D cA bs ad p l e (rmY 2 43) s m args below meth c 4 0 0 (QM D cA bs ad below args s (some (.int q.1)) q.2) σ 21 [(0, .ref (ad x0)), (1, .ref (ad x1)), (2, .int x2), (3, .int x3)] [.int s0] := by
  unfold fX4_letsLieTogether_21 at h
  by_cases c101 : s0 = 0 ∨ s0 = 1
  case neg => rw [if_neg c101] at h; cases h
  rw [if_pos c101] at h
  cases h
  exact y_zret (pc := 21) C c101 dX4_letsLieTogether_21
noncomputable def fX4_letsLieTogether_16 (fu : Nat) (x0 : Nat) (x1 : Nat) (x2 : Int32) (x3 : Int32) (σ : St) : Option (Int32 × St) :=
  fX4_letsLieTogether_21 fu x0 x1 x2 x3 (1 : Int32) σ
set_option maxHeartbeats 4000000 in
set_option maxRecDepth 100000 in
theorem tX4_letsLieTogether_16 {l : Launch} {D : va_G} {cA : ClassId} {bs : Nat} {ad : Nat → Nat} {p : Program} {e : Env} {s : State} {m : MethodId} {args : Array Value} {below : List Frame} {meth : Method} {c : Code} {fu : Nat} (C : Cx D cA bs ad RX4 cX4_letsLieTogether 4 (some .boolean) p s m args meth c) {x0 : Nat} {x1 : Nat} {x2 : Int32} {x3 : Int32} {q : Int32 × St} (hx0 : xk x0 = 2) (hx1 : xk x1 = 6) {σ : St} (h : fX4_letsLieTogether_16 fu x0 x1 x2 x3 σ = some q) : Y D cA bs ad p l e (rmY 2 43) s m args below meth c 4 0 0 (QM D cA bs ad below args s (some (.int q.1)) q.2) σ 16 [(0, .ref (ad x0)), (1, .ref (ad x1)), (2, .int x2), (3, .int x3)] [] := by
  unfold fX4_letsLieTogether_16 at h
  refine y_iconst (pc := 16) (v := (1 : Int32)) C dX4_letsLieTogether_16 (by decide) ?_
  refine y_goto (pc := 17) (tgt := 21) C dX4_letsLieTogether_17 (by decide) ?_
  exact tX4_letsLieTogether_21 (fu := fu) C hx0 hx1 h
noncomputable def fX4_letsLieTogether_0 (fu : Nat) (x0 : Nat) (x1 : Nat) (x2 : Int32) (x3 : Int32) (σ : St) : Option (Int32 × St) :=
  if (σ.1 x0 0) = 0 then
    fX4_letsLieTogether_16 fu x0 x1 x2 x3 σ
  else
    (fX8_lieTogether fu x1 x2 x3 σ).bind fun (q102 : Int32 × St) =>
    if q102.1 = 0 then
      fX4_letsLieTogether_16 fu x0 x1 x2 x3 q102.2
    else
      fX4_letsLieTogether_21 fu x0 x1 x2 x3 (0 : Int32) q102.2
set_option maxHeartbeats 4000000 in
set_option maxRecDepth 100000 in
theorem tX4_letsLieTogether_0 {l : Launch} {D : va_G} {cA : ClassId} {bs : Nat} {ad : Nat → Nat} {p : Program} {e : Env} {s : State} {m : MethodId} {args : Array Value} {below : List Frame} {meth : Method} {c : Code} {fu : Nat} (C : Cx D cA bs ad RX4 cX4_letsLieTogether 4 (some .boolean) p s m args meth c) {x0 : Nat} {x1 : Nat} {x2 : Int32} {x3 : Int32} {q : Int32 × St} (hx0 : xk x0 = 2) (hx1 : xk x1 = 6) {σ : St} (h : fX4_letsLieTogether_0 fu x0 x1 x2 x3 σ = some q) : Y D cA bs ad p l e (rmY 2 43) s m args below meth c 4 0 0 (QM D cA bs ad below args s (some (.int q.1)) q.2) σ 0 [(0, .ref (ad x0)), (1, .ref (ad x1)), (2, .int x2), (3, .int x3)] [] := by
  unfold fX4_letsLieTogether_0 at h
  refine y_aload_n (pc := 0) (q := 0) C dX4_letsLieTogether_0 rfl rfl ?_
  refine y_geti (pc := 1) C faX4_13 rfl hx0 dX4_letsLieTogether_1 ?_
  refine y_if_eq (pc := 4) (tgt := 16) C dX4_letsLieTogether_4 (by decide) (fun c101 => ?_) (fun c101 => ?_)
  · rw [if_pos c101] at h
    exact tX4_letsLieTogether_16 (fu := fu) C hx0 hx1 h
  · rw [if_neg c101] at h
    refine y_aload_n (pc := 7) (q := 1) C dX4_letsLieTogether_7 rfl rfl ?_
    refine y_iload_n (pc := 8) (q := 2) C dX4_letsLieTogether_8 rfl rfl ?_
    refine y_iload_n (pc := 9) (q := 3) C dX4_letsLieTogether_9 rfl rfl ?_
    obtain ⟨q102, eq102, h⟩ := bdS h
    refine y_callV (pc := 10) (As := [.int x2, .int x3]) (rest := []) C (mX8_lieTogether (fu := fu) eq102) vwX4_41 rfl (by decide) hx1 rfl rfl (Nat.le_of_ble_eq_true rfl) ⟨Nat.le_of_ble_eq_true rfl, Nat.le_of_ble_eq_true rfl⟩ ⟨Nat.le_refl _, Nat.le_refl _⟩ dX4_letsLieTogether_10 ?_
    show Y _ _ _ _ _ _ _ _ _ _ _ _ _ _ _ _ _ _ q102.2 13 [(0, .ref (ad x0)), (1, .ref (ad x1)), (2, .int x2), (3, .int x3)] [.int q102.1]
    refine y_if_ne (pc := 13) (tgt := 20) C dX4_letsLieTogether_13 (by decide) (fun c103 => ?_) (fun c103 => ?_)
    · rw [if_neg c103] at h
      refine y_iconst (pc := 20) (v := (0 : Int32)) C dX4_letsLieTogether_20 (by decide) ?_
      exact tX4_letsLieTogether_21 (fu := fu) C hx0 hx1 h
    · rw [if_pos c103] at h
      exact tX4_letsLieTogether_16 (fu := fu) C hx0 hx1 h
noncomputable def fX4_letsLieTogether (fu : Nat) (x0 : Nat) (x1 : Nat) (x2 : Int32) (x3 : Int32) (σ : St) : Option (Int32 × St) := if xk x0 = 2 then if xk x1 = 6 then fX4_letsLieTogether_0 fu x0 x1 x2 x3 σ else none else none
theorem mX4_letsLieTogether {l : Launch} {D : va_G} {cA : ClassId} {bs fu : Nat} {ad : Nat → Nat} {x0 : Nat} {x1 : Nat} {x2 : Int32} {x3 : Int32} {σ : St} {q : Int32 × St} (h : fX4_letsLieTogether fu x0 x1 x2 x3 σ = some q) : Ct l D cA bs ad yX4_letsLieTogether cX4_letsLieTogether 4 (some .boolean) 2 43 [.ref (ad x0), .ref (ad x1), .int x2, .int x3] σ (some (.int q.1)) q.2 := by
  unfold fX4_letsLieTogether at h
  by_cases hx0 : xk x0 = 2
  case neg => rw [if_neg hx0] at h; cases h
  rw [if_pos hx0] at h
  by_cases hx1 : xk x1 = 6
  case neg => rw [if_neg hx1] at h; cases h
  rw [if_pos hx1] at h
  exact Ct.of (by decide) (Nat.le_of_ble_eq_true rfl) (fun p e s m args below meth c C => tX4_letsLieTogether_0 (fu := fu) C hx0 hx1 h)
noncomputable def fX5_noteNeighbours_85 (fu : Nat) (k7 : Int32 → St → Option (St)) (k52 : Int32 → Int32 → St → Option (St)) (x0 : Nat) (x1 : Nat) (x2 : Nat) (x3 : Int32) (x4 : Int32) (σ : St) : Option (St) :=
  nm (x4 + (1 : Int32)) fun (y101 : Int32) =>
  k52 x3 y101 σ
set_option maxHeartbeats 4000000 in
set_option maxRecDepth 100000 in
theorem tX5_noteNeighbours_85 {l : Launch} {D : va_G} {cA : ClassId} {bs : Nat} {ad : Nat → Nat} {p : Program} {e : Env} {s : State} {m : MethodId} {args : Array Value} {below : List Frame} {meth : Method} {c : Code} {fu : Nat} (C : Cx D cA bs ad RX5 cX5_noteNeighbours 5 none p s m args meth c) {k7 : Int32 → St → Option (St)} {k52 : Int32 → Int32 → St → Option (St)} {x0 : Nat} {x1 : Nat} {x2 : Nat} {x3 : Int32} {x4 : Int32} {q : St} (hx0 : xk x0 = 3) (hx1 : xk x1 = 6) (hx2 : xk x2 = 2) (hk7 : ∀ (x3 : Int32) (σ : St), k7 x3 σ = some q → Y D cA bs ad p l e (rmY 3 66) s m args below meth c 5 0 0 (QM D cA bs ad below args s none q) σ 7 [(0, .ref (ad x0)), (1, .ref (ad x1)), (2, .ref (ad x2)), (3, .int x3)] []) (hk52 : ∀ (x3 : Int32) (x4 : Int32) (σ : St), k52 x3 x4 σ = some q → Y D cA bs ad p l e (rmY 3 66) s m args below meth c 5 0 0 (QM D cA bs ad below args s none q) σ 52 [(0, .ref (ad x0)), (1, .ref (ad x1)), (2, .ref (ad x2)), (3, .int x3), (4, .int x4)] []) {σ : St} (h : fX5_noteNeighbours_85 fu k7 k52 x0 x1 x2 x3 x4 σ = some q) : Y D cA bs ad p l e (rmY 3 66) s m args below meth c 5 0 0 (QM D cA bs ad below args s none q) σ 85 [(0, .ref (ad x0)), (1, .ref (ad x1)), (2, .ref (ad x2)), (3, .int x3), (4, .int x4)] [] := by
  unfold fX5_noteNeighbours_85 at h
  obtain ⟨y101, ey101, h⟩ := nmS h
  refine y_iinc (pc := 85) (v := y101) (k := 4) (lv' := [(4, .int y101), (0, .ref (ad x0)), (1, .ref (ad x1)), (2, .ref (ad x2)), (3, .int x3)]) C dX5_noteNeighbours_85 rfl (by rw [ey101]; rfl) (by decide) rfl ?_
  refine y_goto (pc := 88) (tgt := 52) C dX5_noteNeighbours_88 (by decide) ?_
  refine y_sub [1, 2, 3, 4, 0] (lv' := [(0, .ref (ad x0)), (1, .ref (ad x1)), (2, .ref (ad x2)), (3, .int x3), (4, .int y101)]) rfl ?_
  exact hk52 _ _ _ h
noncomputable def fX5_noteNeighbours_52b (fu : Nat) (k7 : Int32 → St → Option (St)) (k52 : Int32 → Int32 → St → Option (St)) (x0 : Nat) (x1 : Nat) (x2 : Nat) (x3 : Int32) (x4 : Int32) (σ : St) : Option (St) :=
  if (σ.1 x0 5) ≤ x4 then
    nm (x3 + (1 : Int32)) fun (y102 : Int32) =>
    k7 y102 σ
  else
    (fX4_letsLieTogether fu x2 x1 x3 x4 σ).bind fun (q103 : Int32 × St) =>
    if q103.1 = 0 then
      fX5_noteNeighbours_85 fu k7 k52 x0 x1 x2 x3 x4 q103.2
    else
      (ald q103.2 (rf x0 3) 8 x3).bind fun (v105 : Int32) =>
      (ast q103.2 (rf x0 3) 8 x3 (v105 ||| ((1 : Int32) <<< (x4 &&& 31)))).bind fun (σ106 : St) =>
      fX5_noteNeighbours_85 fu k7 k52 x0 x1 x2 x3 x4 σ106
set_option maxHeartbeats 4000000 in
set_option maxRecDepth 100000 in
theorem tX5_noteNeighbours_52b {l : Launch} {D : va_G} {cA : ClassId} {bs : Nat} {ad : Nat → Nat} {p : Program} {e : Env} {s : State} {m : MethodId} {args : Array Value} {below : List Frame} {meth : Method} {c : Code} {fu : Nat} (C : Cx D cA bs ad RX5 cX5_noteNeighbours 5 none p s m args meth c) {k7 : Int32 → St → Option (St)} {k52 : Int32 → Int32 → St → Option (St)} {x0 : Nat} {x1 : Nat} {x2 : Nat} {x3 : Int32} {x4 : Int32} {q : St} (hx0 : xk x0 = 3) (hx1 : xk x1 = 6) (hx2 : xk x2 = 2) (hk7 : ∀ (x3 : Int32) (σ : St), k7 x3 σ = some q → Y D cA bs ad p l e (rmY 3 66) s m args below meth c 5 0 0 (QM D cA bs ad below args s none q) σ 7 [(0, .ref (ad x0)), (1, .ref (ad x1)), (2, .ref (ad x2)), (3, .int x3)] []) (hk52 : ∀ (x3 : Int32) (x4 : Int32) (σ : St), k52 x3 x4 σ = some q → Y D cA bs ad p l e (rmY 3 66) s m args below meth c 5 0 0 (QM D cA bs ad below args s none q) σ 52 [(0, .ref (ad x0)), (1, .ref (ad x1)), (2, .ref (ad x2)), (3, .int x3), (4, .int x4)] []) {σ : St} (h : fX5_noteNeighbours_52b fu k7 k52 x0 x1 x2 x3 x4 σ = some q) : Y D cA bs ad p l e (rmY 3 66) s m args below meth c 5 0 0 (QM D cA bs ad below args s none q) σ 52 [(0, .ref (ad x0)), (1, .ref (ad x1)), (2, .ref (ad x2)), (3, .int x3), (4, .int x4)] [] := by
  unfold fX5_noteNeighbours_52b at h
  refine y_iload (pc := 52) (q := 4) C dX5_noteNeighbours_52 rfl ?_
  refine y_aload_n (pc := 54) (q := 0) C dX5_noteNeighbours_54 rfl rfl ?_
  refine y_geti (pc := 55) C faX5_37 rfl hx0 dX5_noteNeighbours_55 ?_
  refine y_icmp_ge (pc := 58) (tgt := 91) C dX5_noteNeighbours_58 (by decide) (fun c101 => ?_) (fun c101 => ?_)
  · rw [if_pos c101] at h
    obtain ⟨y102, ey102, h⟩ := nmS h
    refine y_iinc (pc := 91) (v := y102) (k := 3) (lv' := [(3, .int y102), (0, .ref (ad x0)), (1, .ref (ad x1)), (2, .ref (ad x2)), (4, .int x4)]) C dX5_noteNeighbours_91 rfl (by rw [ey102]; rfl) (by decide) rfl ?_
    refine y_goto (pc := 94) (tgt := 7) C dX5_noteNeighbours_94 (by decide) ?_
    refine y_sub [1, 2, 3, 0] (lv' := [(0, .ref (ad x0)), (1, .ref (ad x1)), (2, .ref (ad x2)), (3, .int y102)]) rfl ?_
    exact hk7 _ _ h
  · rw [if_neg c101] at h
    refine y_aload_n (pc := 61) (q := 2) C dX5_noteNeighbours_61 rfl rfl ?_
    refine y_aload_n (pc := 62) (q := 1) C dX5_noteNeighbours_62 rfl rfl ?_
    refine y_iload_n (pc := 63) (q := 3) C dX5_noteNeighbours_63 rfl rfl ?_
    refine y_iload (pc := 64) (q := 4) C dX5_noteNeighbours_64 rfl ?_
    obtain ⟨q103, eq103, h⟩ := bdS h
    refine y_callV (pc := 66) (As := [.ref (ad x1), .int x3, .int x4]) (rest := []) C (mX4_letsLieTogether (fu := fu) eq103) vwX5_106 rfl (by decide) hx2 rfl rfl (Nat.le_of_ble_eq_true rfl) ⟨Nat.le_of_ble_eq_true rfl, Nat.le_of_ble_eq_true rfl⟩ ⟨Nat.le_refl _, Nat.le_refl _⟩ dX5_noteNeighbours_66 ?_
    show Y _ _ _ _ _ _ _ _ _ _ _ _ _ _ _ _ _ _ q103.2 69 [(0, .ref (ad x0)), (1, .ref (ad x1)), (2, .ref (ad x2)), (3, .int x3), (4, .int x4)] [.int q103.1]
    refine y_if_eq (pc := 69) (tgt := 85) C dX5_noteNeighbours_69 (by decide) (fun c104 => ?_) (fun c104 => ?_)
    · rw [if_pos c104] at h
      exact tX5_noteNeighbours_85 (fu := fu) C hx0 hx1 hx2 hk7 hk52 h
    · rw [if_neg c104] at h
      refine y_aload_n (pc := 72) (q := 0) C dX5_noteNeighbours_72 rfl rfl ?_
      refine y_getr (pc := 73) C faX5_21 rfl hx0 dX5_noteNeighbours_73 ?_
      refine y_iload_n (pc := 76) (q := 3) C dX5_noteNeighbours_76 rfl rfl ?_
      refine y_dup2 (pc := 77) C dX5_noteNeighbours_77 rfl rfl ?_
      obtain ⟨v105, ev105, h⟩ := bdS h
      refine y_iald (pc := 78) (n := 8) C (rf_3_3 _ hx0) (by decide) ev105 dX5_noteNeighbours_78 ?_
      refine y_iconst (pc := 79) (v := (1 : Int32)) C dX5_noteNeighbours_79 (by decide) ?_
      refine y_iload (pc := 80) (q := 4) C dX5_noteNeighbours_80 rfl ?_
      refine y_ishl (pc := 82) C dX5_noteNeighbours_82 ?_
      refine y_ior (pc := 83) C dX5_noteNeighbours_83 ?_
      obtain ⟨σ106, eσ106, h⟩ := bdS h
      refine y_iast (pc := 84) (n := 8) C (rf_3_3 _ hx0) (by decide) eσ106 dX5_noteNeighbours_84 ?_
      exact tX5_noteNeighbours_85 (fu := fu) C hx0 hx1 hx2 hk7 hk52 h
noncomputable def fX5_noteNeighbours_52 (fu : Nat) (k7 : Int32 → St → Option (St)) (x0 : Nat) (x1 : Nat) (x2 : Nat) : Nat → Int32 → Int32 → St → Option (St) := lp (fun k52 => fX5_noteNeighbours_52b fu k7 k52 x0 x1 x2) (fun _ _ _ => none)
set_option maxHeartbeats 4000000 in
theorem tX5_noteNeighbours_52 {l : Launch} {D : va_G} {cA : ClassId} {bs : Nat} {ad : Nat → Nat} {p : Program} {e : Env} {s : State} {m : MethodId} {args : Array Value} {below : List Frame} {meth : Method} {c : Code} {fu : Nat} (C : Cx D cA bs ad RX5 cX5_noteNeighbours 5 none p s m args meth c) {k7 : Int32 → St → Option (St)} {x0 : Nat} {x1 : Nat} {x2 : Nat} {q : St} (hx0 : xk x0 = 3) (hx1 : xk x1 = 6) (hx2 : xk x2 = 2) (hk7 : ∀ (x3 : Int32) (σ : St), k7 x3 σ = some q → Y D cA bs ad p l e (rmY 3 66) s m args below meth c 5 0 0 (QM D cA bs ad below args s none q) σ 7 [(0, .ref (ad x0)), (1, .ref (ad x1)), (2, .ref (ad x2)), (3, .int x3)] []) : ∀ (n : Nat) (x3 : Int32) (x4 : Int32) (σ : St), fX5_noteNeighbours_52 fu k7 x0 x1 x2 n x3 x4 σ = some q → Y D cA bs ad p l e (rmY 3 66) s m args below meth c 5 0 0 (QM D cA bs ad below args s none q) σ 52 [(0, .ref (ad x0)), (1, .ref (ad x1)), (2, .ref (ad x2)), (3, .int x3), (4, .int x4)] [] := by
  intro n
  induction n with
  | zero => intro x3 x4 σ h; cases h
  | succ n ih => intro x3 x4 σ h; exact tX5_noteNeighbours_52b (fu := fu) C hx0 hx1 hx2 hk7 ih h
noncomputable def fX5_noteNeighbours_42 (fu : Nat) (k7 : Int32 → St → Option (St)) (x0 : Nat) (x1 : Nat) (x2 : Nat) (x3 : Int32) (σ : St) : Option (St) :=
  (ast σ (rf x0 3) 8 x3 (0 : Int32)).bind fun (σ101 : St) =>
  fX5_noteNeighbours_52 fu k7 x0 x1 x2 fu x3 (0 : Int32) σ101
set_option maxHeartbeats 4000000 in
set_option maxRecDepth 100000 in
theorem tX5_noteNeighbours_42 {l : Launch} {D : va_G} {cA : ClassId} {bs : Nat} {ad : Nat → Nat} {p : Program} {e : Env} {s : State} {m : MethodId} {args : Array Value} {below : List Frame} {meth : Method} {c : Code} {fu : Nat} (C : Cx D cA bs ad RX5 cX5_noteNeighbours 5 none p s m args meth c) {k7 : Int32 → St → Option (St)} {x0 : Nat} {x1 : Nat} {x2 : Nat} {x3 : Int32} {q : St} (hx0 : xk x0 = 3) (hx1 : xk x1 = 6) (hx2 : xk x2 = 2) (hk7 : ∀ (x3 : Int32) (σ : St), k7 x3 σ = some q → Y D cA bs ad p l e (rmY 3 66) s m args below meth c 5 0 0 (QM D cA bs ad below args s none q) σ 7 [(0, .ref (ad x0)), (1, .ref (ad x1)), (2, .ref (ad x2)), (3, .int x3)] []) {σ : St} (h : fX5_noteNeighbours_42 fu k7 x0 x1 x2 x3 σ = some q) : Y D cA bs ad p l e (rmY 3 66) s m args below meth c 5 0 0 (QM D cA bs ad below args s none q) σ 42 [(0, .ref (ad x0)), (1, .ref (ad x1)), (2, .ref (ad x2)), (3, .int x3)] [] := by
  unfold fX5_noteNeighbours_42 at h
  refine y_aload_n (pc := 42) (q := 0) C dX5_noteNeighbours_42 rfl rfl ?_
  refine y_getr (pc := 43) C faX5_21 rfl hx0 dX5_noteNeighbours_43 ?_
  refine y_iload_n (pc := 46) (q := 3) C dX5_noteNeighbours_46 rfl rfl ?_
  refine y_iconst (pc := 47) (v := (0 : Int32)) C dX5_noteNeighbours_47 (by decide) ?_
  obtain ⟨σ101, eσ101, h⟩ := bdS h
  refine y_iast (pc := 48) (n := 8) C (rf_3_3 _ hx0) (by decide) eσ101 dX5_noteNeighbours_48 ?_
  refine y_iconst (pc := 49) (v := (0 : Int32)) C dX5_noteNeighbours_49 (by decide) ?_
  refine y_istore (pc := 50) (lv' := [(4, .int (0 : Int32)), (0, .ref (ad x0)), (1, .ref (ad x1)), (2, .ref (ad x2)), (3, .int x3)]) C dX5_noteNeighbours_50 (by decide) rfl ?_
  refine y_sub [1, 2, 3, 4, 0] (lv' := [(0, .ref (ad x0)), (1, .ref (ad x1)), (2, .ref (ad x2)), (3, .int x3), (4, .int (0 : Int32))]) rfl ?_
  exact tX5_noteNeighbours_52 (fu := fu) C hx0 hx1 hx2 hk7 fu _ _ _ h
noncomputable def fX5_noteNeighbours_7b (fu : Nat) (k7 : Int32 → St → Option (St)) (x0 : Nat) (x1 : Nat) (x2 : Nat) (x3 : Int32) (σ : St) : Option (St) :=
  if (σ.1 x0 5) ≤ x3 then
    (ast σ (rf x0 3) 8 (7 : Int32) (((1 : Int32) <<< ((σ.1 x0 5) &&& 31)) - (1 : Int32))).bind fun (σ102 : St) =>
    some σ102
  else
    (fX4_wantsTwinsTogether fu x2 σ).bind fun (q103 : Int32 × St) =>
    if q103.1 = 0 then
      fX5_noteNeighbours_42 fu k7 x0 x1 x2 x3 q103.2
    else
      (fX8_isTwin fu x1 x3 q103.2).bind fun (q105 : Int32 × St) =>
      if q105.1 = 0 then
        fX5_noteNeighbours_42 fu k7 x0 x1 x2 x3 q105.2
      else
        nm (si q105.2 x0 6 ((q105.2.1 x0 6) ||| ((1 : Int32) <<< (x3 &&& 31)))) fun (σ107 : St) =>
        fX5_noteNeighbours_42 fu k7 x0 x1 x2 x3 σ107
set_option maxHeartbeats 4000000 in
set_option maxRecDepth 100000 in
theorem tX5_noteNeighbours_7b {l : Launch} {D : va_G} {cA : ClassId} {bs : Nat} {ad : Nat → Nat} {p : Program} {e : Env} {s : State} {m : MethodId} {args : Array Value} {below : List Frame} {meth : Method} {c : Code} {fu : Nat} (C : Cx D cA bs ad RX5 cX5_noteNeighbours 5 none p s m args meth c) {k7 : Int32 → St → Option (St)} {x0 : Nat} {x1 : Nat} {x2 : Nat} {x3 : Int32} {q : St} (hx0 : xk x0 = 3) (hx1 : xk x1 = 6) (hx2 : xk x2 = 2) (hk7 : ∀ (x3 : Int32) (σ : St), k7 x3 σ = some q → Y D cA bs ad p l e (rmY 3 66) s m args below meth c 5 0 0 (QM D cA bs ad below args s none q) σ 7 [(0, .ref (ad x0)), (1, .ref (ad x1)), (2, .ref (ad x2)), (3, .int x3)] []) {σ : St} (h : fX5_noteNeighbours_7b fu k7 x0 x1 x2 x3 σ = some q) : Y D cA bs ad p l e (rmY 3 66) s m args below meth c 5 0 0 (QM D cA bs ad below args s none q) σ 7 [(0, .ref (ad x0)), (1, .ref (ad x1)), (2, .ref (ad x2)), (3, .int x3)] [] := by
  unfold fX5_noteNeighbours_7b at h
  refine y_iload_n (pc := 7) (q := 3) C dX5_noteNeighbours_7 rfl rfl ?_
  refine y_aload_n (pc := 8) (q := 0) C dX5_noteNeighbours_8 rfl rfl ?_
  refine y_geti (pc := 9) C faX5_37 rfl hx0 dX5_noteNeighbours_9 ?_
  refine y_icmp_ge (pc := 12) (tgt := 97) C dX5_noteNeighbours_12 (by decide) (fun c101 => ?_) (fun c101 => ?_)
  · rw [if_pos c101] at h
    refine y_aload_n (pc := 97) (q := 0) C dX5_noteNeighbours_97 rfl rfl ?_
    refine y_getr (pc := 98) C faX5_21 rfl hx0 dX5_noteNeighbours_98 ?_
    refine y_bipush (pc := 101) (v := (7 : Int32)) C dX5_noteNeighbours_101 (by decide) ?_
    refine y_iconst (pc := 103) (v := (1 : Int32)) C dX5_noteNeighbours_103 (by decide) ?_
    refine y_aload_n (pc := 104) (q := 0) C dX5_noteNeighbours_104 rfl rfl ?_
    refine y_geti (pc := 105) C faX5_37 rfl hx0 dX5_noteNeighbours_105 ?_
    refine y_ishl (pc := 108) C dX5_noteNeighbours_108 ?_
    refine y_iconst (pc := 109) (v := (1 : Int32)) C dX5_noteNeighbours_109 (by decide) ?_
    refine y_isub (pc := 110) C dX5_noteNeighbours_110 ?_
    obtain ⟨σ102, eσ102, h⟩ := bdS h
    refine y_iast (pc := 111) (n := 8) C (rf_3_3 _ hx0) (by decide) eσ102 dX5_noteNeighbours_111 ?_
    cases h
    exact y_vret (pc := 112) C dX5_noteNeighbours_112
  · rw [if_neg c101] at h
    refine y_aload_n (pc := 15) (q := 2) C dX5_noteNeighbours_15 rfl rfl ?_
    obtain ⟨q103, eq103, h⟩ := bdS h
    refine y_callV (pc := 16) (As := []) (rest := []) C (mX4_wantsTwinsTogether (fu := fu) eq103) vwX5_99 rfl (by decide) hx2 rfl rfl (Nat.le_of_ble_eq_true rfl) ⟨Nat.le_of_ble_eq_true rfl, Nat.le_of_ble_eq_true rfl⟩ ⟨Nat.le_refl _, Nat.le_refl _⟩ dX5_noteNeighbours_16 ?_
    show Y _ _ _ _ _ _ _ _ _ _ _ _ _ _ _ _ _ _ q103.2 19 [(0, .ref (ad x0)), (1, .ref (ad x1)), (2, .ref (ad x2)), (3, .int x3)] [.int q103.1]
    refine y_if_eq (pc := 19) (tgt := 42) C dX5_noteNeighbours_19 (by decide) (fun c104 => ?_) (fun c104 => ?_)
    · rw [if_pos c104] at h
      exact tX5_noteNeighbours_42 (fu := fu) C hx0 hx1 hx2 hk7 h
    · rw [if_neg c104] at h
      refine y_aload_n (pc := 22) (q := 1) C dX5_noteNeighbours_22 rfl rfl ?_
      refine y_iload_n (pc := 23) (q := 3) C dX5_noteNeighbours_23 rfl rfl ?_
      obtain ⟨q105, eq105, h⟩ := bdS h
      refine y_callV (pc := 24) (As := [.int x3]) (rest := []) C (mX8_isTwin (fu := fu) eq105) vwX5_102 rfl (by decide) hx1 rfl rfl (Nat.le_of_ble_eq_true rfl) ⟨Nat.le_of_ble_eq_true rfl, Nat.le_of_ble_eq_true rfl⟩ ⟨Nat.le_refl _, Nat.le_refl _⟩ dX5_noteNeighbours_24 ?_
      show Y _ _ _ _ _ _ _ _ _ _ _ _ _ _ _ _ _ _ q105.2 27 [(0, .ref (ad x0)), (1, .ref (ad x1)), (2, .ref (ad x2)), (3, .int x3)] [.int q105.1]
      refine y_if_eq (pc := 27) (tgt := 42) C dX5_noteNeighbours_27 (by decide) (fun c106 => ?_) (fun c106 => ?_)
      · rw [if_pos c106] at h
        exact tX5_noteNeighbours_42 (fu := fu) C hx0 hx1 hx2 hk7 h
      · rw [if_neg c106] at h
        refine y_aload_n (pc := 30) (q := 0) C dX5_noteNeighbours_30 rfl rfl ?_
        refine y_dup (pc := 31) C dX5_noteNeighbours_31 rfl ?_
        refine y_geti (pc := 32) C faX5_55 rfl hx0 dX5_noteNeighbours_32 ?_
        refine y_iconst (pc := 35) (v := (1 : Int32)) C dX5_noteNeighbours_35 (by decide) ?_
        refine y_iload_n (pc := 36) (q := 3) C dX5_noteNeighbours_36 rfl rfl ?_
        refine y_ishl (pc := 37) C dX5_noteNeighbours_37 ?_
        refine y_ior (pc := 38) C dX5_noteNeighbours_38 ?_
        obtain ⟨σ107, eσ107, h⟩ := nmS h
        refine y_puti (pc := 39) C fpX5_55 rfl hx0 rfl rfl dX5_noteNeighbours_39 ?_
        rw [← eσ107]
        exact tX5_noteNeighbours_42 (fu := fu) C hx0 hx1 hx2 hk7 h
noncomputable def fX5_noteNeighbours_7 (fu : Nat) (x0 : Nat) (x1 : Nat) (x2 : Nat) : Nat → Int32 → St → Option (St) := lp (fun k7 => fX5_noteNeighbours_7b fu k7 x0 x1 x2) (fun _ _ => none)
set_option maxHeartbeats 4000000 in
theorem tX5_noteNeighbours_7 {l : Launch} {D : va_G} {cA : ClassId} {bs : Nat} {ad : Nat → Nat} {p : Program} {e : Env} {s : State} {m : MethodId} {args : Array Value} {below : List Frame} {meth : Method} {c : Code} {fu : Nat} (C : Cx D cA bs ad RX5 cX5_noteNeighbours 5 none p s m args meth c) {x0 : Nat} {x1 : Nat} {x2 : Nat} {q : St} (hx0 : xk x0 = 3) (hx1 : xk x1 = 6) (hx2 : xk x2 = 2)  : ∀ (n : Nat) (x3 : Int32) (σ : St), fX5_noteNeighbours_7 fu  x0 x1 x2 n x3 σ = some q → Y D cA bs ad p l e (rmY 3 66) s m args below meth c 5 0 0 (QM D cA bs ad below args s none q) σ 7 [(0, .ref (ad x0)), (1, .ref (ad x1)), (2, .ref (ad x2)), (3, .int x3)] [] := by
  intro n
  induction n with
  | zero => intro x3 σ h; cases h
  | succ n ih => intro x3 σ h; exact tX5_noteNeighbours_7b (fu := fu) C hx0 hx1 hx2 ih h
noncomputable def fX5_noteNeighbours_0 (fu : Nat) (x0 : Nat) (x1 : Nat) (x2 : Nat) (σ : St) : Option (St) :=
  nm (si σ x0 6 (0 : Int32)) fun (σ101 : St) =>
  fX5_noteNeighbours_7 fu x0 x1 x2 fu (0 : Int32) σ101
set_option maxHeartbeats 4000000 in
set_option maxRecDepth 100000 in
theorem tX5_noteNeighbours_0 {l : Launch} {D : va_G} {cA : ClassId} {bs : Nat} {ad : Nat → Nat} {p : Program} {e : Env} {s : State} {m : MethodId} {args : Array Value} {below : List Frame} {meth : Method} {c : Code} {fu : Nat} (C : Cx D cA bs ad RX5 cX5_noteNeighbours 5 none p s m args meth c) {x0 : Nat} {x1 : Nat} {x2 : Nat} {q : St} (hx0 : xk x0 = 3) (hx1 : xk x1 = 6) (hx2 : xk x2 = 2) {σ : St} (h : fX5_noteNeighbours_0 fu x0 x1 x2 σ = some q) : Y D cA bs ad p l e (rmY 3 66) s m args below meth c 5 0 0 (QM D cA bs ad below args s none q) σ 0 [(0, .ref (ad x0)), (1, .ref (ad x1)), (2, .ref (ad x2))] [] := by
  unfold fX5_noteNeighbours_0 at h
  refine y_aload_n (pc := 0) (q := 0) C dX5_noteNeighbours_0 rfl rfl ?_
  refine y_iconst (pc := 1) (v := (0 : Int32)) C dX5_noteNeighbours_1 (by decide) ?_
  obtain ⟨σ101, eσ101, h⟩ := nmS h
  refine y_puti (pc := 2) C fpX5_55 rfl hx0 rfl rfl dX5_noteNeighbours_2 ?_
  rw [← eσ101]
  refine y_iconst (pc := 5) (v := (0 : Int32)) C dX5_noteNeighbours_5 (by decide) ?_
  refine y_istore_n (pc := 6) (lv' := [(3, .int (0 : Int32)), (0, .ref (ad x0)), (1, .ref (ad x1)), (2, .ref (ad x2))]) C dX5_noteNeighbours_6 rfl (by decide) rfl ?_
  refine y_sub [1, 2, 3, 0] (lv' := [(0, .ref (ad x0)), (1, .ref (ad x1)), (2, .ref (ad x2)), (3, .int (0 : Int32))]) rfl ?_
  exact tX5_noteNeighbours_7 (fu := fu) C hx0 hx1 hx2 fu _ _ h
noncomputable def fX5_noteNeighbours (fu : Nat) (x0 : Nat) (x1 : Nat) (x2 : Nat) (σ : St) : Option (St) := if xk x0 = 3 then if xk x1 = 6 then if xk x2 = 2 then fX5_noteNeighbours_0 fu x0 x1 x2 σ else none else none else none
theorem mX5_noteNeighbours {l : Launch} {D : va_G} {cA : ClassId} {bs fu : Nat} {ad : Nat → Nat} {x0 : Nat} {x1 : Nat} {x2 : Nat} {σ : St} {q : St} (h : fX5_noteNeighbours fu x0 x1 x2 σ = some q) : Ct l D cA bs ad yX5_noteNeighbours cX5_noteNeighbours 5 none 3 66 [.ref (ad x0), .ref (ad x1), .ref (ad x2)] σ none q := by
  unfold fX5_noteNeighbours at h
  by_cases hx0 : xk x0 = 3
  case neg => rw [if_neg hx0] at h; cases h
  rw [if_pos hx0] at h
  by_cases hx1 : xk x1 = 6
  case neg => rw [if_neg hx1] at h; cases h
  rw [if_pos hx1] at h
  by_cases hx2 : xk x2 = 2
  case neg => rw [if_neg hx2] at h; cases h
  rw [if_pos hx2] at h
  exact Ct.of (by decide) (Nat.le_of_ble_eq_true rfl) (fun p e s m args below meth c C => tX5_noteNeighbours_0 (fu := fu) C hx0 hx1 hx2 h)
