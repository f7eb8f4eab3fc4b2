noncomputable def fX8_changeWheels_0 (fu : Nat) (x0 : Nat) (x1 : Int32) (x2 : Int32) (σ : St) : Option (Int32 × St) :=
  (ald σ (rf x0 6) 7 x1).bind fun (v101 : Int32) =>
  (ast σ (rf x0 6) 7 x1 x2).bind fun (σ102 : St) =>
  some (v101, σ102)
set_option maxHeartbeats 4000000 in
set_option maxRecDepth 100000 in
theorem tX8_changeWheels_0 {l : Launch} {D : va_G} {cA : ClassId} {bs : Nat} {ad : Nat → Nat} {p : Program} {e : Env} {s : State} {m : MethodId} {args : Array Value} {below : List Frame} {meth : Method} {c : Code} {fu : Nat} (C : Cx D cA bs ad RX8 cX8_changeWheels 4 (some .int) p s m args meth c) {x0 : Nat} {x1 : Int32} {x2 : Int32} {q : Int32 × St} (hx0 : xk x0 = 6) {σ : St} (h : fX8_changeWheels_0 fu x0 x1 x2 σ = some q) : Y D cA bs ad p l e (rmY 0 0) s m args below meth c 4 0 0 (QM D cA bs ad below args s (some (.int q.1)) q.2) σ 0 [(0, .ref (ad x0)), (1, .int x1), (2, .int x2)] [] := by
  unfold fX8_changeWheels_0 at h
  refine y_aload_n (pc := 0) (q := 0) C dX8_changeWheels_0 rfl rfl ?_
  refine y_getr (pc := 1) C faX8_30 rfl hx0 dX8_changeWheels_1 ?_
  refine y_iload_n (pc := 4) (q := 1) C dX8_changeWheels_4 rfl rfl ?_
  obtain ⟨v101, ev101, h⟩ := bdS h
  refine y_iald (pc := 5) (n := 7) C (rf_6_6 _ hx0) (by decide) ev101 dX8_changeWheels_5 ?_
  refine y_istore_n (pc := 6) (lv' := [(3, .int v101), (0, .ref (ad x0)), (1, .int x1), (2, .int x2)]) C dX8_changeWheels_6 rfl (by decide) rfl ?_
  refine y_aload_n (pc := 7) (q := 1) C dX8_changeWheels_7 rfl rfl ?_
  refine y_getr (pc := 8) C faX8_30 rfl hx0 dX8_changeWheels_8 ?_
  refine y_iload_n (pc := 11) (q := 2) C dX8_changeWheels_11 rfl rfl ?_
  refine y_iload_n (pc := 12) (q := 3) C dX8_changeWheels_12 rfl rfl ?_
  obtain ⟨σ102, eσ102, h⟩ := bdS h
  refine y_iast (pc := 13) (n := 7) C (rf_6_6 _ hx0) (by decide) eσ102 dX8_changeWheels_13 ?_
  refine y_iload_n (pc := 14) (q := 0) C dX8_changeWheels_14 rfl rfl ?_
  cases h
  exact y_iret (pc := 15) C dX8_changeWheels_15
noncomputable def fX8_changeWheels (fu : Nat) (x0 : Nat) (x1 : Int32) (x2 : Int32) (σ : St) : Option (Int32 × St) := if xk x0 = 6 then fX8_changeWheels_0 fu x0 x1 x2 σ else none
theorem mX8_changeWheels {l : Launch} {D : va_G} {cA : ClassId} {bs fu : Nat} {ad : Nat → Nat} {x0 : Nat} {x1 : Int32} {x2 : Int32} {σ : St} {q : Int32 × St} (h : fX8_changeWheels fu x0 x1 x2 σ = some q) : Ct l D cA bs ad yX8_changeWheels cX8_changeWheels 4 (some .int) 0 0 [.ref (ad x0), .int x1, .int x2] σ (some (.int q.1)) q.2 := by
  unfold fX8_changeWheels at h
  by_cases hx0 : xk x0 = 6
  case neg => rw [if_neg hx0] at h; cases h
  rw [if_pos hx0] at h
  exact Ct.of (by decide) (Nat.le_of_ble_eq_true rfl) (fun p e s m args below meth c C => tX8_changeWheels_0 (fu := fu) C hx0 h)
noncomputable def fX8_changeWas_0 (fu : Nat) (x0 : Nat) (x1 : Int32) (x2 : Int32) (σ : St) : Option (Int32 × St) :=
  (ald σ (rf x0 3) 7 x1).bind fun (v101 : Int32) =>
  (ast σ (rf x0 3) 7 x1 x2).bind fun (σ102 : St) =>
  some (v101, σ102)
set_option maxHeartbeats 4000000 in
set_option maxRecDepth 100000 in
theorem tX8_changeWas_0 {l : Launch} {D : va_G} {cA : ClassId} {bs : Nat} {ad : Nat → Nat} {p : Program} {e : Env} {s : State} {m : MethodId} {args : Array Value} {below : List Frame} {meth : Method} {c : Code} {fu : Nat} (C : Cx D cA bs ad RX8 cX8_changeWas 4 (some .int) p s m args meth c) {x0 : Nat} {x1 : Int32} {x2 : Int32} {q : Int32 × St} (hx0 : xk x0 = 6) {σ : St} (h : fX8_changeWas_0 fu x0 x1 x2 σ = some q) : Y D cA bs ad p l e (rmY 0 0) s m args below meth c 4 0 0 (QM D cA bs ad below args s (some (.int q.1)) q.2) σ 0 [(0, .ref (ad x0)), (1, .int x1), (2, .int x2)] [] := by
  unfold fX8_changeWas_0 at h
  refine y_aload_n (pc := 0) (q := 0) C dX8_changeWas_0 rfl rfl ?_
  refine y_getr (pc := 1) C faX8_21 rfl hx0 dX8_changeWas_1 ?_
  refine y_iload_n (pc := 4) (q := 1) C dX8_changeWas_4 rfl rfl ?_
  obtain ⟨v101, ev101, h⟩ := bdS h
  refine y_iald (pc := 5) (n := 7) C (rf_6_3 _ hx0) (by decide) ev101 dX8_changeWas_5 ?_
  refine y_istore_n (pc := 6) (lv' := [(3, .int v101), (0, .ref (ad x0)), (1, .int x1), (2, .int x2)]) C dX8_changeWas_6 rfl (by decide) rfl ?_
  refine y_aload_n (pc := 7) (q := 1) C dX8_changeWas_7 rfl rfl ?_
  refine y_getr (pc := 8) C faX8_21 rfl hx0 dX8_changeWas_8 ?_
  refine y_iload_n (pc := 11) (q := 2) C dX8_changeWas_11 rfl rfl ?_
  refine y_iload_n (pc := 12) (q := 3) C dX8_changeWas_12 rfl rfl ?_
  obtain ⟨σ102, eσ102, h⟩ := bdS h
  refine y_iast (pc := 13) (n := 7) C (rf_6_3 _ hx0) (by decide) eσ102 dX8_changeWas_13 ?_
  refine y_iload_n (pc := 14) (q := 0) C dX8_changeWas_14 rfl rfl ?_
  cases h
  exact y_iret (pc := 15) C dX8_changeWas_15
noncomputable def fX8_changeWas (fu : Nat) (x0 : Nat) (x1 : Int32) (x2 : Int32) (σ : St) : Option (Int32 × St) := if xk x0 = 6 then fX8_changeWas_0 fu x0 x1 x2 σ else none
theorem mX8_changeWas {l : Launch} {D : va_G} {cA : ClassId} {bs fu : Nat} {ad : Nat → Nat} {x0 : Nat} {x1 : Int32} {x2 : Int32} {σ : St} {q : Int32 × St} (h : fX8_changeWas fu x0 x1 x2 σ = some q) : Ct l D cA bs ad yX8_changeWas cX8_changeWas 4 (some .int) 0 0 [.ref (ad x0), .int x1, .int x2] σ (some (.int q.1)) q.2 := by
  unfold fX8_changeWas at h
  by_cases hx0 : xk x0 = 6
  case neg => rw [if_neg hx0] at h; cases h
  rw [if_pos hx0] at h
  exact Ct.of (by decide) (Nat.le_of_ble_eq_true rfl) (fun p e s m args below meth c C => tX8_changeWas_0 (fu := fu) C hx0 h)
noncomputable def fX8_looksNeeded_4b (fu : Nat) (k4 : Int32 → Int32 → St → Option (Int32 × St)) (x0 : Nat) (x1 : Int32) (x2 : Int32) (σ : St) : Option (Int32 × St) :=
  if (σ.1 x0 7) ≤ x2 then
    (fJ6_bitCount_0f7a4 fu x1 σ).bind fun (q102 : Int32 × St) =>
    some (((σ.1 x0 7) - q102.1), q102.2)
  else
    (ald σ (rf x0 0) 7 x2).bind fun (v103 : Int32) =>
    nm (x1 ||| ((1 : Int32) <<< (v103 &&& 31))) fun (y104 : Int32) =>
    nm (x2 + (1 : Int32)) fun (y105 : Int32) =>
    k4 y104 y105 σ
set_option maxHeartbeats 4000000 in
set_option maxRecDepth 100000 in
theorem tX8_looksNeeded_4b {l : Launch} {D : va_G} {cA : ClassId} {bs : Nat} {ad : Nat → Nat} {p : Program} {e : Env} {s : State} {m : MethodId} {args : Array Value} {below : List Frame} {meth : Method} {c : Code} {fu : Nat} (C : Cx D cA bs ad RX8 cX8_looksNeeded 3 (some .int) p s m args meth c) {k4 : Int32 → Int32 → St → Option (Int32 × St)} {x0 : Nat} {x1 : Int32} {x2 : Int32} {q : Int32 × St} (hx0 : xk x0 = 6) (hk4 : ∀ (x1 : Int32) (x2 : Int32) (σ : St), k4 x1 x2 σ = some q → Y D cA bs ad p l e (rmY 1 20) s m args below meth c 3 0 0 (QM D cA bs ad below args s (some (.int q.1)) q.2) σ 4 [(0, .ref (ad x0)), (1, .int x1), (2, .int x2)] []) {σ : St} (h : fX8_looksNeeded_4b fu k4 x0 x1 x2 σ = some q) : Y D cA bs ad p l e (rmY 1 20) s m args below meth c 3 0 0 (QM D cA bs ad below args s (some (.int q.1)) q.2) σ 4 [(0, .ref (ad x0)), (1, .int x1), (2, .int x2)] [] := by
  unfold fX8_looksNeeded_4b at h
  refine y_iload_n (pc := 4) (q := 2) C dX8_looksNeeded_4 rfl rfl ?_
  refine y_aload_n (pc := 5) (q := 0) C dX8_looksNeeded_5 rfl rfl ?_
  refine y_geti (pc := 6) C faX8_33 rfl hx0 dX8_looksNeeded_6 ?_
  refine y_icmp_ge (pc := 9) (tgt := 29) C dX8_looksNeeded_9 (by decide) (fun c101 => ?_) (fun c101 => ?_)
  · rw [if_pos c101] at h
    refine y_aload_n (pc := 29) (q := 0) C dX8_looksNeeded_29 rfl rfl ?_
    refine y_geti (pc := 30) C faX8_33 rfl hx0 dX8_looksNeeded_30 ?_
    refine y_iload_n (pc := 33) (q := 1) C dX8_looksNeeded_33 rfl rfl ?_
    obtain ⟨q102, eq102, h⟩ := bdS h
    refine y_callS (pc := 34) (As := [.int x1]) (rest := [.int (σ.1 x0 7)]) C (mJ6_bitCount_0f7a4 (fu := fu) eq102) vwX8_76 rfl rfl (Nat.le_of_ble_eq_true rfl) ⟨Nat.le_of_ble_eq_true rfl, Nat.le_of_ble_eq_true rfl⟩ ⟨Nat.le_refl _, Nat.le_refl _⟩ dX8_looksNeeded_34 ?_
    show Y _ _ _ _ _ _ _ _ _ _ _ _ _ _ _ _ _ _ q102.2 37 [(0, .ref (ad x0)), (1, .int x1), (2, .int x2)] [.int q102.1, .int (σ.1 x0 7)]
    refine y_isub (pc := 37) C dX8_looksNeeded_37 ?_
    cases h
    exact y_iret (pc := 38) C dX8_looksNeeded_38
  · rw [if_neg c101] at h
    refine y_iload_n (pc := 12) (q := 1) C dX8_looksNeeded_12 rfl rfl ?_
    refine y_iconst (pc := 13) (v := (1 : Int32)) C dX8_looksNeeded_13 (by decide) ?_
    refine y_aload_n (pc := 14) (q := 0) C dX8_looksNeeded_14 rfl rfl ?_
    refine y_getr (pc := 15) C faX8_9 rfl hx0 dX8_looksNeeded_15 ?_
    refine y_iload_n (pc := 18) (q := 2) C dX8_looksNeeded_18 rfl rfl ?_
    obtain ⟨v103, ev103, h⟩ := bdS h
    refine y_iald (pc := 19) (n := 7) C (rf_6_0 _ hx0) (by decide) ev103 dX8_looksNeeded_19 ?_
    refine y_ishl (pc := 20) C dX8_looksNeeded_20 ?_
    refine y_ior (pc := 21) C dX8_looksNeeded_21 ?_
    obtain ⟨y104, ey104, h⟩ := nmS h
    refine y_nmI y104 ey104 ?_
    refine y_istore_n (pc := 22) (lv' := [(1, .int y104), (0, .ref (ad x0)), (2, .int x2)]) C dX8_looksNeeded_22 rfl (by decide) rfl ?_
    obtain ⟨y105, ey105, h⟩ := nmS h
    refine y_iinc (pc := 23) (v := y105) (k := 2) (lv' := [(2, .int y105), (1, .int y104), (0, .ref (ad x0))]) C dX8_looksNeeded_23 rfl (by rw [ey105]; rfl) (by decide) rfl ?_
    refine y_goto (pc := 26) (tgt := 4) C dX8_looksNeeded_26 (by decide) ?_
    refine y_sub [2, 1, 0] (lv' := [(0, .ref (ad x0)), (1, .int y104), (2, .int y105)]) rfl ?_
    exact hk4 _ _ _ h
noncomputable def fX8_looksNeeded_4 (fu : Nat) (x0 : Nat) : Nat → Int32 → Int32 → St → Option (Int32 × St) := lp (fun k4 => fX8_looksNeeded_4b fu k4 x0) (fun _ _ _ => none)
set_option maxHeartbeats 4000000 in
theorem tX8_looksNeeded_4 {l : Launch} {D : va_G} {cA : ClassId} {bs : Nat} {ad : Nat → Nat} {p : Program} {e : Env} {s : State} {m : MethodId} {args : Array Value} {below : List Frame} {meth : Method} {c : Code} {fu : Nat} (C : Cx D cA bs ad RX8 cX8_looksNeeded 3 (some .int) p s m args meth c) {x0 : Nat} {q : Int32 × St} (hx0 : xk x0 = 6)  : ∀ (n : Nat) (x1 : Int32) (x2 : Int32) (σ : St), fX8_looksNeeded_4 fu  x0 n x1 x2 σ = some q → Y D cA bs ad p l e (rmY 1 20) s m args below meth c 3 0 0 (QM D cA bs ad below args s (some (.int q.1)) q.2) σ 4 [(0, .ref (ad x0)), (1, .int x1), (2, .int x2)] [] := by
  intro n
  induction n with
  | zero => intro x1 x2 σ h; cases h
  | succ n ih => intro x1 x2 σ h; exact tX8_looksNeeded_4b (fu := fu) C hx0 ih h
noncomputable def fX8_looksNeeded_0 (fu : Nat) (x0 : Nat) (σ : St) : Option (Int32 × St) :=
  fX8_looksNeeded_4 fu x0 fu (0 : Int32) (0 : Int32) σ
set_option maxHeartbeats 4000000 in
set_option maxRecDepth 100000 in
theorem tX8_looksNeeded_0 {l : Launch} {D : va_G} {cA : ClassId} {bs : Nat} {ad : Nat → Nat} {p : Program} {e : Env} {s : State} {m : MethodId} {args : Array Value} {below : List Frame} {meth : Method} {c : Code} {fu : Nat} (C : Cx D cA bs ad RX8 cX8_looksNeeded 3 (some .int) p s m args meth c) {x0 : Nat} {q : Int32 × St} (hx0 : xk x0 = 6) {σ : St} (h : fX8_looksNeeded_0 fu x0 σ = some q) : Y D cA bs ad p l e (rmY 1 20) s m args below meth c 3 0 0 (QM D cA bs ad below args s (some (.int q.1)) q.2) σ 0 [(0, .ref (ad x0))] [] := by
  unfold fX8_looksNeeded_0 at h
  refine y_iconst (pc := 0) (v := (0 : Int32)) C dX8_looksNeeded_0 (by decide) ?_
  refine y_istore_n (pc := 1) (lv' := [(1, .int (0 : Int32)), (0, .ref (ad x0))]) C dX8_looksNeeded_1 rfl (by decide) rfl ?_
  refine y_iconst (pc := 2) (v := (0 : Int32)) C dX8_looksNeeded_2 (by decide) ?_
  refine y_istore_n (pc := 3) (lv' := [(2, .int (0 : Int32)), (1, .int (0 : Int32)), (0, .ref (ad x0))]) C dX8_looksNeeded_3 rfl (by decide) rfl ?_
  refine y_sub [2, 1, 0] (lv' := [(0, .ref (ad x0)), (1, .int (0 : Int32)), (2, .int (0 : Int32))]) rfl ?_
  exact tX8_looksNeeded_4 (fu := fu) C hx0 fu _ _ _ h
noncomputable def fX8_looksNeeded (fu : Nat) (x0 : Nat) (σ : St) : Option (Int32 × St) := if xk x0 = 6 then fX8_looksNeeded_0 fu x0 σ else none
theorem mX8_looksNeeded {l : Launch} {D : va_G} {cA : ClassId} {bs fu : Nat} {ad : Nat → Nat} {x0 : Nat} {σ : St} {q : Int32 × St} (h : fX8_looksNeeded fu x0 σ = some q) : Ct l D cA bs ad yX8_looksNeeded cX8_looksNeeded 3 (some .int) 1 20 [.ref (ad x0)] σ (some (.int q.1)) q.2 := by
  unfold fX8_looksNeeded at h
  by_cases hx0 : xk x0 = 6
  case neg => rw [if_neg hx0] at h; cases h
  rw [if_pos hx0] at h
  exact Ct.of (by decide) (Nat.le_of_ble_eq_true rfl) (fun p e s m args below meth c C => tX8_looksNeeded_0 (fu := fu) C hx0 h)
noncomputable def fX8_wheelsInUse_4b (fu : Nat) (k4 : Int32 → Int32 → St → Option (Int32 × St)) (x0 : Nat) (x1 : Int32) (x2 : Int32) (σ : St) : Option (Int32 × St) :=
  if (σ.1 x0 7) ≤ x2 then
    some (x1, σ)
  else
    (ald σ (rf x0 6) 7 x2).bind fun (v102 : Int32) =>
    nm (x1 + v102) fun (y103 : Int32) =>
    nm (x2 + (1 : Int32)) fun (y104 : Int32) =>
    k4 y103 y104 σ
set_option maxHeartbeats 4000000 in
set_option maxRecDepth 100000 in
theorem tX8_wheelsInUse_4b {l : Launch} {D : va_G} {cA : ClassId} {bs : Nat} {ad : Nat → Nat} {p : Program} {e : Env} {s : State} {m : MethodId} {args : Array Value} {below : List Frame} {meth : Method} {c : Code} {fu : Nat} (C : Cx D cA bs ad RX8 cX8_wheelsInUse 3 (some .int) p s m args meth c) {k4 : Int32 → Int32 → St → Option (Int32 × St)} {x0 : Nat} {x1 : Int32} {x2 : Int32} {q : Int32 × St} (hx0 : xk x0 = 6) (hk4 : ∀ (x1 : Int32) (x2 : Int32) (σ : St), k4 x1 x2 σ = some q → Y D cA bs ad p l e (rmY 0 0) s m args below meth c 3 0 0 (QM D cA bs ad below args s (some (.int q.1)) q.2) σ 4 [(0, .ref (ad x0)), (1, .int x1), (2, .int x2)] []) {σ : St} (h : fX8_wheelsInUse_4b fu k4 x0 x1 x2 σ = some q) : Y D cA bs ad p l e (rmY 0 0) s m args below meth c 3 0 0 (QM D cA bs ad below args s (some (.int q.1)) q.2) σ 4 [(0, .ref (ad x0)), (1, .int x1), (2, .int x2)] [] := by
  unfold fX8_wheelsInUse_4b at h
  refine y_iload_n (pc := 4) (q := 2) C dX8_wheelsInUse_4 rfl rfl ?_
  refine y_aload_n (pc := 5) (q := 0) C dX8_wheelsInUse_5 rfl rfl ?_
  refine y_geti (pc := 6) C faX8_33 rfl hx0 dX8_wheelsInUse_6 ?_
  refine y_icmp_ge (pc := 9) (tgt := 27) C dX8_wheelsInUse_9 (by decide) (fun c101 => ?_) (fun c101 => ?_)
  · rw [if_pos c101] at h
    refine y_iload_n (pc := 27) (q := 1) C dX8_wheelsInUse_27 rfl rfl ?_
    cases h
    exact y_iret (pc := 28) C dX8_wheelsInUse_28
  · rw [if_neg c101] at h
    refine y_iload_n (pc := 12) (q := 1) C dX8_wheelsInUse_12 rfl rfl ?_
    refine y_aload_n (pc := 13) (q := 0) C dX8_wheelsInUse_13 rfl rfl ?_
    refine y_getr (pc := 14) C faX8_30 rfl hx0 dX8_wheelsInUse_14 ?_
    refine y_iload_n (pc := 17) (q := 2) C dX8_wheelsInUse_17 rfl rfl ?_
    obtain ⟨v102, ev102, h⟩ := bdS h
    refine y_iald (pc := 18) (n := 7) C (rf_6_6 _ hx0) (by decide) ev102 dX8_wheelsInUse_18 ?_
    refine y_iadd (pc := 19) C dX8_wheelsInUse_19 ?_
    obtain ⟨y103, ey103, h⟩ := nmS h
    refine y_nmI y103 ey103 ?_
    refine y_istore_n (pc := 20) (lv' := [(1, .int y103), (0, .ref (ad x0)), (2, .int x2)]) C dX8_wheelsInUse_20 rfl (by decide) rfl ?_
    obtain ⟨y104, ey104, h⟩ := nmS h
    refine y_iinc (pc := 21) (v := y104) (k := 2) (lv' := [(2, .int y104), (1, .int y103), (0, .ref (ad x0))]) C dX8_wheelsInUse_21 rfl (by rw [ey104]; rfl) (by decide) rfl ?_
    refine y_goto (pc := 24) (tgt := 4) C dX8_wheelsInUse_24 (by decide) ?_
    refine y_sub [2, 1, 0] (lv' := [(0, .ref (ad x0)), (1, .int y103), (2, .int y104)]) rfl ?_
    exact hk4 _ _ _ h
noncomputable def fX8_wheelsInUse_4 (fu : Nat) (x0 : Nat) : Nat → Int32 → Int32 → St → Option (Int32 × St) := lp (fun k4 => fX8_wheelsInUse_4b fu k4 x0) (fun _ _ _ => none)
set_option maxHeartbeats 4000000 in
theorem tX8_wheelsInUse_4 {l : Launch} {D : va_G} {cA : ClassId} {bs : Nat} {ad : Nat → Nat} {p : Program} {e : Env} {s : State} {m : MethodId} {args : Array Value} {below : List Frame} {meth : Method} {c : Code} {fu : Nat} (C : Cx D cA bs ad RX8 cX8_wheelsInUse 3 (some .int) p s m args meth c) {x0 : Nat} {q : Int32 × St} (hx0 : xk x0 = 6)  : ∀ (n : Nat) (x1 : Int32) (x2 : Int32) (σ : St), fX8_wheelsInUse_4 fu  x0 n x1 x2 σ = some q → Y D cA bs ad p l e (rmY 0 0) s m args below meth c 3 0 0 (QM D cA bs ad below args s (some (.int q.1)) q.2) σ 4 [(0, .ref (ad x0)), (1, .int x1), (2, .int x2)] [] := by
  intro n
  induction n with
  | zero => intro x1 x2 σ h; cases h
  | succ n ih => intro x1 x2 σ h; exact tX8_wheelsInUse_4b (fu := fu) C hx0 ih h
noncomputable def fX8_wheelsInUse_0 (fu : Nat) (x0 : Nat) (σ : St) : Option (Int32 × St) :=
  fX8_wheelsInUse_4 fu x0 fu (0 : Int32) (0 : Int32) σ
set_option maxHeartbeats 4000000 in
set_option maxRecDepth 100000 in
theorem tX8_wheelsInUse_0 {l : Launch} {D : va_G} {cA : ClassId} {bs : Nat} {ad : Nat → Nat} {p : Program} {e : Env} {s : State} {m : MethodId} {args : Array Value} {below : List Frame} {meth : Method} {c : Code} {fu : Nat} (C : Cx D cA bs ad RX8 cX8_wheelsInUse 3 (some .int) p s m args meth c) {x0 : Nat} {q : Int32 × St} (hx0 : xk x0 = 6) {σ : St} (h : fX8_wheelsInUse_0 fu x0 σ = some q) : Y D cA bs ad p l e (rmY 0 0) s m args below meth c 3 0 0 (QM D cA bs ad below args s (some (.int q.1)) q.2) σ 0 [(0, .ref (ad x0))] [] := by
  unfold fX8_wheelsInUse_0 at h
  refine y_iconst (pc := 0) (v := (0 : Int32)) C dX8_wheelsInUse_0 (by decide) ?_
  refine y_istore_n (pc := 1) (lv' := [(1, .int (0 : Int32)), (0, .ref (ad x0))]) C dX8_wheelsInUse_1 rfl (by decide) rfl ?_
  refine y_iconst (pc := 2) (v := (0 : Int32)) C dX8_wheelsInUse_2 (by decide) ?_
  refine y_istore_n (pc := 3) (lv' := [(2, .int (0 : Int32)), (1, .int (0 : Int32)), (0, .ref (ad x0))]) C dX8_wheelsInUse_3 rfl (by decide) rfl ?_
  refine y_sub [2, 1, 0] (lv' := [(0, .ref (ad x0)), (1, .int (0 : Int32)), (2, .int (0 : Int32))]) rfl ?_
  exact tX8_wheelsInUse_4 (fu := fu) C hx0 fu _ _ _ h
noncomputable def fX8_wheelsInUse (fu : Nat) (x0 : Nat) (σ : St) : Option (Int32 × St) := if xk x0 = 6 then fX8_wheelsInUse_0 fu x0 σ else none
theorem mX8_wheelsInUse {l : Launch} {D : va_G} {cA : ClassId} {bs fu : Nat} {ad : Nat → Nat} {x0 : Nat} {σ : St} {q : Int32 × St} (h : fX8_wheelsInUse fu x0 σ = some q) : Ct l D cA bs ad yX8_wheelsInUse cX8_wheelsInUse 3 (some .int) 0 0 [.ref (ad x0)] σ (some (.int q.1)) q.2 := by
  unfold fX8_wheelsInUse at h
  by_cases hx0 : xk x0 = 6
  case neg => rw [if_neg hx0] at h; cases h
  rw [if_pos hx0] at h
  exact Ct.of (by decide) (Nat.le_of_ble_eq_true rfl) (fun p e s m args below meth c C => tX8_wheelsInUse_0 (fu := fu) C hx0 h)
noncomputable def fX9_letters_0 (fu : Nat) (x0 : Nat) (x1 : Int64) (σ : St) : Option (Int32 × St) :=
  (fX7_lettersIn fu x1 σ).bind fun (q101 : Int32 × St) =>
  if q101.1 = (-1 : Int32) then
    some ((-102 : Int32), q101.2)
  else
    (fX7_length fu (rf x0 0) q101.2).bind fun (q103 : Int32 × St) =>
    if (q103.1 + q101.1) ≤ (16 : Int32) then
      (fX7_append fu (rf x0 0) x1 q101.1 q103.2).bind fun (q105 : St) =>
      (fX7_length fu (rf x0 0) q105).bind fun (q106 : Int32 × St) =>
      some (q106.1, q106.2)
    else
      some ((-104 : Int32), q103.2)
set_option maxHeartbeats 4000000 in
set_option maxRecDepth 100000 in
theorem tX9_letters_0 {l : Launch} {D : va_G} {cA : ClassId} {bs : Nat} {ad : Nat → Nat} {p : Program} {e : Env} {s : State} {m : MethodId} {args : Array Value} {below : List Frame} {meth : Method} {c : Code} {fu : Nat} (C : Cx D cA bs ad RX9 cX9_letters 4 (some .int) p s m args meth c) {x0 : Nat} {x1 : Int64} {q : Int32 × St} (hx0 : xk x0 = 7) {σ : St} (h : fX9_letters_0 fu x0 x1 σ = some q) : Y D cA bs ad p l e (rmY 2 47) s m args below meth c 4 0 0 (QM D cA bs ad below args s (some (.int q.1)) q.2) σ 0 [(0, .ref (ad x0)), (1, .long x1)] [] := by
  unfold fX9_letters_0 at h
  refine y_lload_n (pc := 0) (q := 1) C dX9_letters_0 rfl rfl ?_
  obtain ⟨q101, eq101, h⟩ := bdS h
  refine y_callS (pc := 1) (As := [.long x1]) (rest := []) C (mX7_lettersIn (fu := fu) eq101) vwX9_61 rfl rfl (Nat.le_of_ble_eq_true rfl) ⟨Nat.le_of_ble_eq_true rfl, Nat.le_of_ble_eq_true rfl⟩ ⟨Nat.le_refl _, Nat.le_refl _⟩ dX9_letters_1 ?_
  show Y _ _ _ _ _ _ _ _ _ _ _ _ _ _ _ _ _ _ q101.2 4 [(0, .ref (ad x0)), (1, .long x1)] [.int q101.1]
  refine y_istore_n (pc := 4) (lv' := [(3, .int q101.1), (0, .ref (ad x0)), (1, .long x1)]) C dX9_letters_4 rfl (by decide) rfl ?_
  refine y_iload_n (pc := 5) (q := 0) C dX9_letters_5 rfl rfl ?_
  refine y_iconst (pc := 6) (v := (-1 : Int32)) C dX9_letters_6 (by decide) ?_
  refine y_icmp_ne (pc := 7) (tgt := 13) C dX9_letters_7 (by decide) (fun c102 => ?_) (fun c102 => ?_)
  · rw [if_neg c102] at h
    refine y_aload_n (pc := 13) (q := 1) C dX9_letters_13 rfl rfl ?_
    refine y_getr (pc := 14) C faX9_10 rfl hx0 dX9_letters_14 ?_
    obtain ⟨q103, eq103, h⟩ := bdS h
    refine y_callV (pc := 17) (As := []) (rest := []) C (mX7_length (fu := fu) eq103) vwX9_65 rfl (by decide) (rf_7_0 _ hx0) rfl rfl (Nat.le_of_ble_eq_true rfl) ⟨Nat.le_of_ble_eq_true rfl, Nat.le_of_ble_eq_true rfl⟩ ⟨Nat.le_refl _, Nat.le_refl _⟩ dX9_letters_17 ?_
    show Y _ _ _ _ _ _ _ _ _ _ _ _ _ _ _ _ _ _ q103.2 20 [(3, .int q101.1), (0, .ref (ad x0)), (1, .long x1)] [.int q103.1]
    refine y_iload_n (pc := 20) (q := 0) C dX9_letters_20 rfl rfl ?_
    refine y_iadd (pc := 21) C dX9_letters_21 ?_
    refine y_bipush (pc := 22) (v := (16 : Int32)) C dX9_letters_22 (by decide) ?_
    refine y_icmp_le (pc := 24) (tgt := 30) C dX9_letters_24 (by decide) (fun c104 => ?_) (fun c104 => ?_)
    · rw [if_pos c104] at h
      refine y_aload_n (pc := 30) (q := 1) C dX9_letters_30 rfl rfl ?_
      refine y_getr (pc := 31) C faX9_10 rfl hx0 dX9_letters_31 ?_
      refine y_lload_n (pc := 34) (q := 2) C dX9_letters_34 rfl rfl ?_
      refine y_iload_n (pc := 35) (q := 0) C dX9_letters_35 rfl rfl ?_
      obtain ⟨q105, eq105, h⟩ := bdS h
      refine y_callV (pc := 36) (As := [.long x1, .int q101.1]) (rest := []) C (mX7_append (fu := fu) eq105) vwX9_69 rfl (by decide) (rf_7_0 _ hx0) rfl rfl (Nat.le_of_ble_eq_true rfl) ⟨Nat.le_of_ble_eq_true rfl, Nat.le_of_ble_eq_true rfl⟩ ⟨Nat.le_refl _, Nat.le_refl _⟩ dX9_letters_36 ?_
      show Y _ _ _ _ _ _ _ _ _ _ _ _ _ _ _ _ _ _ q105 39 [(3, .int q101.1), (0, .ref (ad x0)), (1, .long x1)] []
      refine y_aload_n (pc := 39) (q := 1) C dX9_letters_39 rfl rfl ?_
      refine y_getr (pc := 40) C faX9_10 rfl hx0 dX9_letters_40 ?_
      obtain ⟨q106, eq106, h⟩ := bdS h
      refine y_callV (pc := 43) (As := []) (rest := []) C (mX7_length (fu := fu) eq106) vwX9_65 rfl (by decide) (rf_7_0 _ hx0) rfl rfl (Nat.le_of_ble_eq_true rfl) ⟨Nat.le_of_ble_eq_true rfl, Nat.le_of_ble_eq_true rfl⟩ ⟨Nat.le_refl _, Nat.le_refl _⟩ dX9_letters_43 ?_
      show Y _ _ _ _ _ _ _ _ _ _ _ _ _ _ _ _ _ _ q106.2 46 [(3, .int q101.1), (0, .ref (ad x0)), (1, .long x1)] [.int q106.1]
      cases h
      exact y_iret (pc := 46) C dX9_letters_46
    · rw [if_neg c104] at h
      refine y_bipush (pc := 27) (v := (-104 : Int32)) C dX9_letters_27 (by decide) ?_
      cases h
      exact y_iret (pc := 29) C dX9_letters_29
  · rw [if_pos c102] at h
    refine y_bipush (pc := 10) (v := (-102 : Int32)) C dX9_letters_10 (by decide) ?_
    cases h
    exact y_iret (pc := 12) C dX9_letters_12
noncomputable def fX9_letters (fu : Nat) (x0 : Nat) (x1 : Int64) (σ : St) : Option (Int32 × St) := if xk x0 = 7 then fX9_letters_0 fu x0 x1 σ else none
theorem mX9_letters {l : Launch} {D : va_G} {cA : ClassId} {bs fu : Nat} {ad : Nat → Nat} {x0 : Nat} {x1 : Int64} {σ : St} {q : Int32 × St} (h : fX9_letters fu x0 x1 σ = some q) : Ct l D cA bs ad yX9_letters cX9_letters 4 (some .int) 2 47 [.ref (ad x0), .long x1] σ (some (.int q.1)) q.2 := by
  unfold fX9_letters at h
  by_cases hx0 : xk x0 = 7
  case neg => rw [if_neg hx0] at h; cases h
  rw [if_pos hx0] at h
  exact Ct.of (by decide) (Nat.le_of_ble_eq_true rfl) (fun p e s m args below meth c C => tX9_letters_0 (fu := fu) C hx0 h)
noncomputable def fX9_blank_0 (fu : Nat) (x0 : Nat) (σ : St) : Option (Int32 × St) :=
  (fX7_length fu (rf x0 0) σ).bind fun (q101 : Int32 × St) =>
  (fX7_clear fu (rf x0 0) q101.2).bind fun (q102 : St) =>
  some (q101.1, q102)
set_option maxHeartbeats 4000000 in
set_option maxRecDepth 100000 in
theorem tX9_blank_0 {l : Launch} {D : va_G} {cA : ClassId} {bs : Nat} {ad : Nat → Nat} {p : Program} {e : Env} {s : State} {m : MethodId} {args : Array Value} {below : List Frame} {meth : Method} {c : Code} {fu : Nat} (C : Cx D cA bs ad RX9 cX9_blank 2 (some .int) p s m args meth c) {x0 : Nat} {q : Int32 × St} (hx0 : xk x0 = 7) {σ : St} (h : fX9_blank_0 fu x0 σ = some q) : Y D cA bs ad p l e (rmY 1 20) s m args below meth c 2 0 0 (QM D cA bs ad below args s (some (.int q.1)) q.2) σ 0 [(0, .ref (ad x0))] [] := by
  unfold fX9_blank_0 at h
  refine y_aload_n (pc := 0) (q := 0) C dX9_blank_0 rfl rfl ?_
  refine y_getr (pc := 1) C faX9_10 rfl hx0 dX9_blank_1 ?_
  obtain ⟨q101, eq101, h⟩ := bdS h
  refine y_callV (pc := 4) (As := []) (rest := []) C (mX7_length (fu := fu) eq101) vwX9_65 rfl (by decide) (rf_7_0 _ hx0) rfl rfl (Nat.le_of_ble_eq_true rfl) ⟨Nat.le_of_ble_eq_true rfl, Nat.le_of_ble_eq_true rfl⟩ ⟨Nat.le_refl _, Nat.le_refl _⟩ dX9_blank_4 ?_
  show Y _ _ _ _ _ _ _ _ _ _ _ _ _ _ _ _ _ _ q101.2 7 [(0, .ref (ad x0))] [.int q101.1]
  refine y_istore_n (pc := 7) (lv' := [(1, .int q101.1), (0, .ref (ad x0))]) C dX9_blank_7 rfl (by decide) rfl ?_
  refine y_aload_n (pc := 8) (q := 1) C dX9_blank_8 rfl rfl ?_
  refine y_getr (pc := 9) C faX9_10 rfl hx0 dX9_blank_9 ?_
  obtain ⟨q102, eq102, h⟩ := bdS h
  refine y_callV (pc := 12) (As := []) (rest := []) C (mX7_clear (fu := fu) eq102) vwX9_73 rfl (by decide) (rf_7_0 _ hx0) rfl rfl (Nat.le_of_ble_eq_true rfl) ⟨Nat.le_of_ble_eq_true rfl, Nat.le_of_ble_eq_true rfl⟩ ⟨Nat.le_refl _, Nat.le_refl _⟩ dX9_blank_12 ?_
  show Y _ _ _ _ _ _ _ _ _ _ _ _ _ _ _ _ _ _ q102 15 [(1, .int q101.1), (0, .ref (ad x0))] []
  refine y_iload_n (pc := 15) (q := 0) C dX9_blank_15 rfl rfl ?_
  cases h
  exact y_iret (pc := 16) C dX9_blank_16
noncomputable def fX9_blank (fu : Nat) (x0 : Nat) (σ : St) : Option (Int32 × St) := if xk x0 = 7 then fX9_blank_0 fu x0 σ else none
theorem mX9_blank {l : Launch} {D : va_G} {cA : ClassId} {bs fu : Nat} {ad : Nat → Nat} {x0 : Nat} {σ : St} {q : Int32 × St} (h : fX9_blank fu x0 σ = some q) : Ct l D cA bs ad yX9_blank cX9_blank 2 (some .int) 1 20 [.ref (ad x0)] σ (some (.int q.1)) q.2 := by
  unfold fX9_blank at h
  by_cases hx0 : xk x0 = 7
  case neg => rw [if_neg hx0] at h; cases h
  rw [if_pos hx0] at h
  exact Ct.of (by decide) (Nat.le_of_ble_eq_true rfl) (fun p e s m args below meth c C => tX9_blank_0 (fu := fu) C hx0 h)
noncomputable def fX9_fault_0 (fu : Nat) (x0 : Nat) (σ : St) : Option (Int32 × St) :=
  (fX7_firstWrong fu (rf x0 0) σ).bind fun (q101 : Int32 × St) =>
  some (q101.1, q101.2)
set_option maxHeartbeats 4000000 in
set_option maxRecDepth 100000 in
theorem tX9_fault_0 {l : Launch} {D : va_G} {cA : ClassId} {bs : Nat} {ad : Nat → Nat} {p : Program} {e : Env} {s : State} {m : MethodId} {args : Array Value} {below : List Frame} {meth : Method} {c : Code} {fu : Nat} (C : Cx D cA bs ad RX9 cX9_fault 1 (some .int) p s m args meth c) {x0 : Nat} {q : Int32 × St} (hx0 : xk x0 = 7) {σ : St} (h : fX9_fault_0 fu x0 σ = some q) : Y D cA bs ad p l e (rmY 3 66) s m args below meth c 1 0 0 (QM D cA bs ad below args s (some (.int q.1)) q.2) σ 0 [(0, .ref (ad x0))] [] := by
  unfold fX9_fault_0 at h
  refine y_aload_n (pc := 0) (q := 0) C dX9_fault_0 rfl rfl ?_
  refine y_getr (pc := 1) C faX9_10 rfl hx0 dX9_fault_1 ?_
  obtain ⟨q101, eq101, h⟩ := bdS h
  refine y_callV (pc := 4) (As := []) (rest := []) C (mX7_firstWrong (fu := fu) eq101) vwX9_76 rfl (by decide) (rf_7_0 _ hx0) rfl rfl (Nat.le_of_ble_eq_true rfl) ⟨Nat.le_of_ble_eq_true rfl, Nat.le_of_ble_eq_true rfl⟩ ⟨Nat.le_refl _, Nat.le_refl _⟩ dX9_fault_4 ?_
  show Y _ _ _ _ _ _ _ _ _ _ _ _ _ _ _ _ _ _ q101.2 7 [(0, .ref (ad x0))] [.int q101.1]
  cases h
  exact y_iret (pc := 7) C dX9_fault_7
noncomputable def fX9_fault (fu : Nat) (x0 : Nat) (σ : St) : Option (Int32 × St) := if xk x0 = 7 then fX9_fault_0 fu x0 σ else none
theorem mX9_fault {l : Launch} {D : va_G} {cA : ClassId} {bs fu : Nat} {ad : Nat → Nat} {x0 : Nat} {σ : St} {q : Int32 × St} (h : fX9_fault fu x0 σ = some q) : Ct l D cA bs ad yX9_fault cX9_fault 1 (some .int) 3 66 [.ref (ad x0)] σ (some (.int q.1)) q.2 := by
  unfold fX9_fault at h
  by_cases hx0 : xk x0 = 7
  case neg => rw [if_neg hx0] at h; cases h
  rw [if_pos hx0] at h
  exact Ct.of (by decide) (Nat.le_of_ble_eq_true rfl) (fun p e s m args below meth c C => tX9_fault_0 (fu := fu) C hx0 h)
noncomputable def fX9_law_0 (fu : Nat) (x0 : Nat) (σ : St) : Option (Int32 × St) :=
  (fX7_isLaw fu (rf x0 0) σ).bind fun (q101 : Int32 × St) =>
  if q101.1 = 0 then
    some ((-103 : Int32), q101.2)
  else
    (fX4_readFrom fu (rf x0 1) (rf x0 0) q101.2).bind fun (q103 : St) =>
    (fX7_clear fu (rf x0 0) q103).bind fun (q104 : St) =>
    nm (si q104 x0 9 ((q104.1 x0 9) + (1 : Int32))) fun (σ105 : St) =>
    some ((σ105.1 x0 9), σ105)
set_option maxHeartbeats 4000000 in
set_option maxRecDepth 100000 in
theorem tX9_law_0 {l : Launch} {D : va_G} {cA : ClassId} {bs : Nat} {ad : Nat → Nat} {p : Program} {e : Env} {s : State} {m : MethodId} {args : Array Value} {below : List Frame} {meth : Method} {c : Code} {fu : Nat} (C : Cx D cA bs ad RX9 cX9_law 1 (some .int) p s m args meth c) {x0 : Nat} {q : Int32 × St} (hx0 : xk x0 = 7) {σ : St} (h : fX9_law_0 fu x0 σ = some q) : Y D cA bs ad p l e (rmY 3 67) s m args below meth c 1 0 0 (QM D cA bs ad below args s (some (.int q.1)) q.2) σ 0 [(0, .ref (ad x0))] [] := by
  unfold fX9_law_0 at h
  refine y_aload_n (pc := 0) (q := 0) C dX9_law_0 rfl rfl ?_
  refine y_getr (pc := 1) C faX9_10 rfl hx0 dX9_law_1 ?_
  obtain ⟨q101, eq101, h⟩ := bdS h
  refine y_callV (pc := 4) (As := []) (rest := []) C (mX7_isLaw (fu := fu) eq101) vwX9_79 rfl (by decide) (rf_7_0 _ hx0) rfl rfl (Nat.le_of_ble_eq_true rfl) ⟨Nat.le_of_ble_eq_true rfl, Nat.le_of_ble_eq_true rfl⟩ ⟨Nat.le_refl _, Nat.le_refl _⟩ dX9_law_4 ?_
  show Y _ _ _ _ _ _ _ _ _ _ _ _ _ _ _ _ _ _ q101.2 7 [(0, .ref (ad x0))] [.int q101.1]
  refine y_if_ne (pc := 7) (tgt := 13) C dX9_law_7 (by decide) (fun c102 => ?_) (fun c102 => ?_)
  · rw [if_neg c102] at h
    refine y_aload_n (pc := 13) (q := 0) C dX9_law_13 rfl rfl ?_
    refine y_getr (pc := 14) C faX9_19 rfl hx0 dX9_law_14 ?_
    refine y_aload_n (pc := 17) (q := 0) C dX9_law_17 rfl rfl ?_
    refine y_getr (pc := 18) C faX9_10 rfl hx0 dX9_law_18 ?_
    obtain ⟨q103, eq103, h⟩ := bdS h
    refine y_callV (pc := 21) (As := [.ref (ad (rf x0 0))]) (rest := []) C (mX4_readFrom (fu := fu) eq103) vwX9_83 rfl (by decide) (rf_7_1 _ hx0) rfl rfl (Nat.le_of_ble_eq_true rfl) ⟨Nat.le_of_ble_eq_true rfl, Nat.le_of_ble_eq_true rfl⟩ ⟨Nat.le_refl _, Nat.le_refl _⟩ dX9_law_21 ?_
    show Y _ _ _ _ _ _ _ _ _ _ _ _ _ _ _ _ _ _ q103 24 [(0, .ref (ad x0))] []
    refine y_aload_n (pc := 24) (q := 0) C dX9_law_24 rfl rfl ?_
    refine y_getr (pc := 25) C faX9_10 rfl hx0 dX9_law_25 ?_
    obtain ⟨q104, eq104, h⟩ := bdS h
    refine y_callV (pc := 28) (As := []) (rest := []) C (mX7_clear (fu := fu) eq104) vwX9_73 rfl (by decide) (rf_7_0 _ hx0) rfl rfl (Nat.le_of_ble_eq_true rfl) ⟨Nat.le_of_ble_eq_true rfl, Nat.le_of_ble_eq_true rfl⟩ ⟨Nat.le_refl _, Nat.le_refl _⟩ dX9_law_28 ?_
    show Y _ _ _ _ _ _ _ _ _ _ _ _ _ _ _ _ _ _ q104 31 [(0, .ref (ad x0))] []
    refine y_aload_n (pc := 31) (q := 0) C dX9_law_31 rfl rfl ?_
    refine y_dup (pc := 32) C dX9_law_32 rfl ?_
    refine y_geti (pc := 33) C faX9_87 rfl hx0 dX9_law_33 ?_
    refine y_iconst (pc := 36) (v := (1 : Int32)) C dX9_law_36 (by decide) ?_
    refine y_iadd (pc := 37) C dX9_law_37 ?_
    obtain ⟨σ105, eσ105, h⟩ := nmS h
    refine y_puti (pc := 38) C fpX9_87 rfl hx0 rfl rfl dX9_law_38 ?_
    rw [← eσ105]
    refine y_aload_n (pc := 41) (q := 0) C dX9_law_41 rfl rfl ?_
    refine y_geti (pc := 42) C faX9_87 rfl hx0 dX9_law_42 ?_
    cases h
    exact y_iret (pc := 45) C dX9_law_45
  · rw [if_pos c102] at h
    refine y_bipush (pc := 10) (v := (-103 : Int32)) C dX9_law_10 (by decide) ?_
    cases h
    exact y_iret (pc := 12) C dX9_law_12
noncomputable def fX9_law (fu : Nat) (x0 : Nat) (σ : St) : Option (Int32 × St) := if xk x0 = 7 then fX9_law_0 fu x0 σ else none
theorem mX9_law {l : Launch} {D : va_G} {cA : ClassId} {bs fu : Nat} {ad : Nat → Nat} {x0 : Nat} {σ : St} {q : Int32 × St} (h : fX9_law fu x0 σ = some q) : Ct l D cA bs ad yX9_law cX9_law 1 (some .int) 3 67 [.ref (ad x0)] σ (some (.int q.1)) q.2 := by
  unfold fX9_law at h
  by_cases hx0 : xk x0 = 7
  case neg => rw [if_neg hx0] at h; cases h
  rw [if_pos hx0] at h
  exact Ct.of (by decide) (Nat.le_of_ble_eq_true rfl) (fun p e s m args below meth c C => tX9_law_0 (fu := fu) C hx0 h)
noncomputable def fX9_lawTold_22 (fu : Nat) (x0 : Nat) (x1 : Int32) (s0 : Int32) (σ : St) : Option (Int32 × St) :=
  some (s0, σ)
set_option maxHeartbeats 4000000 in
set_option maxRecDepth 100000 in
theorem tX9_lawTold_22 {l : Launch} {D : va_G} {cA : ClassId} {bs : Nat} {ad : Nat → Nat} {p : Program} {e : Env} {s : State} {m : MethodId} {args : Array Value} {below : List Frame} {meth : Method} {c : Code} {fu : Nat} (C : Cx D cA bs ad RX9 cX9_lawTold 2 (some .int) p s m args meth c) {x0 : Nat} {x1 : Int32} {s0 : Int32} {q : Int32 × St} (hx0 : xk x0 = 7) {σ : St} (h : fX9_lawTold_22 fu x0 x1 s0 σ = some q) : Y D cA bs ad p l e (rmY 1 22) s m args below meth c 2 0 0 (QM D cA bs ad below args s (some (.int q.1)) q.2) σ 22 [(0, .ref (ad x0)), (1, .int x1)] [.int s0] := by
  unfold fX9_lawTold_22 at h
  cases h
  exact y_iret (pc := 22) C dX9_lawTold_22
noncomputable def fX9_lawTold_0 (fu : Nat) (x0 : Nat) (x1 : Int32) (σ : St) : Option (Int32 × St) :=
  (fX9_isWithin fu x1 (0 : Int32) (3 : Int32) σ).bind fun (q101 : Int32 × St) =>
  if q101.1 = 0 then
    fX9_lawTold_22 fu x0 x1 (-102 : Int32) q101.2
  else
    (fX4_told fu (rf x0 1) x1 q101.2).bind fun (q103 : Int32 × St) =>
    fX9_lawTold_22 fu x0 x1 q103.1 q103.2
set_option maxHeartbeats 4000000 in
set_option maxRecDepth 100000 in
theorem tX9_lawTold_0 {l : Launch} {D : va_G} {cA : ClassId} {bs : Nat} {ad : Nat → Nat} {p : Program} {e : Env} {s : State} {m : MethodId} {args : Array Value} {below : List Frame} {meth : Method} {c : Code} {fu : Nat} (C : Cx D cA bs ad RX9 cX9_lawTold 2 (some .int) p s m args meth c) {x0 : Nat} {x1 : Int32} {q : Int32 × St} (hx0 : xk x0 = 7) {σ : St} (h : fX9_lawTold_0 fu x0 x1 σ = some q) : Y D cA bs ad p l e (rmY 1 22) s m args below meth c 2 0 0 (QM D cA bs ad below args s (some (.int q.1)) q.2) σ 0 [(0, .ref (ad x0)), (1, .int x1)] [] := by
  unfold fX9_lawTold_0 at h
  refine y_iload_n (pc := 0) (q := 1) C dX9_lawTold_0 rfl rfl ?_
  refine y_iconst (pc := 1) (v := (0 : Int32)) C dX9_lawTold_1 (by decide) ?_
  refine y_iconst (pc := 2) (v := (3 : Int32)) C dX9_lawTold_2 (by decide) ?_
  obtain ⟨q101, eq101, h⟩ := bdS h
  refine y_callS (pc := 3) (As := [.int x1, .int (0 : Int32), .int (3 : Int32)]) (rest := []) C (mX9_isWithin (fu := fu) eq101) vwX9_91 rfl rfl (Nat.le_of_ble_eq_true rfl) ⟨Nat.le_of_ble_eq_true rfl, Nat.le_of_ble_eq_true rfl⟩ ⟨Nat.le_refl _, Nat.le_refl _⟩ dX9_lawTold_3 ?_
  show Y _ _ _ _ _ _ _ _ _ _ _ _ _ _ _ _ _ _ q101.2 6 [(0, .ref (ad x0)), (1, .int x1)] [.int q101.1]
  refine y_if_eq (pc := 6) (tgt := 20) C dX9_lawTold_6 (by decide) (fun c102 => ?_) (fun c102 => ?_)
  · rw [if_pos c102] at h
    refine y_bipush (pc := 20) (v := (-102 : Int32)) C dX9_lawTold_20 (by decide) ?_
    exact tX9_lawTold_22 (fu := fu) C hx0 h
  · rw [if_neg c102] at h
    refine y_aload_n (pc := 9) (q := 0) C dX9_lawTold_9 rfl rfl ?_
    refine y_getr (pc := 10) C faX9_19 rfl hx0 dX9_lawTold_10 ?_
    refine y_iload_n (pc := 13) (q := 1) C dX9_lawTold_13 rfl rfl ?_
    obtain ⟨q103, eq103, h⟩ := bdS h
    refine y_callV (pc := 14) (As := [.int x1]) (rest := []) C (mX4_told (fu := fu) eq103) vwX9_95 rfl (by decide) (rf_7_1 _ hx0) rfl rfl (Nat.le_of_ble_eq_true rfl) ⟨Nat.le_of_ble_eq_true rfl, Nat.le_of_ble_eq_true rfl⟩ ⟨Nat.le_refl _, Nat.le_refl _⟩ dX9_lawTold_14 ?_
    show Y _ _ _ _ _ _ _ _ _ _ _ _ _ _ _ _ _ _ q103.2 17 [(0, .ref (ad x0)), (1, .int x1)] [.int q103.1]
    refine y_goto (pc := 17) (tgt := 22) C dX9_lawTold_17 (by decide) ?_
    exact tX9_lawTold_22 (fu := fu) C hx0 h
noncomputable def fX9_lawTold (fu : Nat) (x0 : Nat) (x1 : Int32) (σ : St) : Option (Int32 × St) := if xk x0 = 7 then fX9_lawTold_0 fu x0 x1 σ else none
theorem mX9_lawTold {l : Launch} {D : va_G} {cA : ClassId} {bs fu : Nat} {ad : Nat → Nat} {x0 : Nat} {x1 : Int32} {σ : St} {q : Int32 × St} (h : fX9_lawTold fu x0 x1 σ = some q) : Ct l D cA bs ad yX9_lawTold cX9_lawTold 2 (some .int) 1 22 [.ref (ad x0), .int x1] σ (some (.int q.1)) q.2 := by
  unfold fX9_lawTold at h
  by_cases hx0 : xk x0 = 7
  case neg => rw [if_neg hx0] at h; cases h
  rw [if_pos hx0] at h
  exact Ct.of (by decide) (Nat.le_of_ble_eq_true rfl) (fun p e s m args below meth c C => tX9_lawTold_0 (fu := fu) C hx0 h)
noncomputable def fX9_isKind_0 (fu : Nat) (x0 : Int32) (σ : St) : Option (Int32 × St) :=
  (fX9_isWithin fu x0 (0 : Int32) (4 : Int32) σ).bind fun (q101 : Int32 × St) =>
  if q101.1 = 0 ∨ q101.1 = 1 then some (q101.1, q101.2) else none
set_option maxHeartbeats 4000000 in
set_option maxRecDepth 100000 in
theorem tX9_isKind_0 {l : Launch} {D : va_G} {cA : ClassId} {bs : Nat} {ad : Nat → Nat} {p : Program} {e : Env} {s : State} {m : MethodId} {args : Array Value} {below : List Frame} {meth : Method} {c : Code} {fu : Nat} (C : Cx D cA bs ad RX9 cX9_isKind 1 (some .boolean) p s m args meth c) {x0 : Int32} {q : Int32 × St} {σ : St} (h : fX9_isKind_0 fu x0 σ = some q) : Y D cA bs ad p l e (rmY 1 22) s m args below meth c 1 0 0 (QM D cA bs ad below args s (some (.int q.1)) q.2) σ 0 [(0, .int x0)] [] := by
  unfold fX9_isKind_0 at h
  refine y_iload_n (pc := 0) (q := 0) C dX9_isKind_0 rfl rfl ?_
  refine y_iconst (pc := 1) (v := (0 : Int32)) C dX9_isKind_1 (by decide) ?_
  refine y_iconst (pc := 2) (v := (4 : Int32)) C dX9_isKind_2 (by decide) ?_
  obtain ⟨q101, eq101, h⟩ := bdS h
  refine y_callS (pc := 3) (As := [.int x0, .int (0 : Int32), .int (4 : Int32)]) (rest := []) C (mX9_isWithin (fu := fu) eq101) vwX9_91 rfl rfl (Nat.le_of_ble_eq_true rfl) ⟨Nat.le_of_ble_eq_true rfl, Nat.le_of_ble_eq_true rfl⟩ ⟨Nat.le_refl _, Nat.le_refl _⟩ dX9_isKind_3 ?_
  show Y _ _ _ _ _ _ _ _ _ _ _ _ _ _ _ _ _ _ q101.2 6 [(0, .int x0)] [.int q101.1]
  by_cases c102 : q101.1 = 0 ∨ q101.1 = 1
  case neg => rw [if_neg c102] at h; cases h
  rw [if_pos c102] at h
  cases h
  exact y_zret (pc := 6) C c102 dX9_isKind_6
noncomputable def fX9_isKind (fu : Nat) (x0 : Int32) (σ : St) : Option (Int32 × St) := fX9_isKind_0 fu x0 σ
theorem mX9_isKind {l : Launch} {D : va_G} {cA : ClassId} {bs fu : Nat} {ad : Nat → Nat} {x0 : Int32} {σ : St} {q : Int32 × St} (h : fX9_isKind fu x0 σ = some q) : Ct l D cA bs ad yX9_isKind cX9_isKind 1 (some .boolean) 1 22 [.int x0] σ (some (.int q.1)) q.2 := by
  unfold fX9_isKind at h
  exact Ct.of (by decide) (Nat.le_of_ble_eq_true rfl) (fun p e s m args below meth c C => tX9_isKind_0 (fu := fu) C h)
noncomputable def fX9_block_29 (fu : Nat) (x0 : Nat) (x1 : Int32) (x2 : Int32) (x3 : Int32) (σ : St) : Option (Int32 × St) :=
  some ((-102 : Int32), σ)
set_option maxHeartbeats 4000000 in
set_option maxRecDepth 100000 in
theorem tX9_block_29 {l : Launch} {D : va_G} {cA : ClassId} {bs : Nat} {ad : Nat → Nat} {p : Program} {e : Env} {s : State} {m : MethodId} {args : Array Value} {below : List Frame} {meth : Method} {c : Code} {fu : Nat} (C : Cx D cA bs ad RX9 cX9_block 4 (some .int) p s m args meth c) {x0 : Nat} {x1 : Int32} {x2 : Int32} {x3 : Int32} {q : Int32 × St} (hx0 : xk x0 = 7) {σ : St} (h : fX9_block_29 fu x0 x1 x2 x3 σ = some q) : Y D cA bs ad p l e (rmY 2 46) s m args below meth c 4 0 0 (QM D cA bs ad below args s (some (.int q.1)) q.2) σ 29 [(0, .ref (ad x0)), (1, .int x1), (2, .int x2), (3, .int x3)] [] := by
  unfold fX9_block_29 at h
  refine y_bipush (pc := 29) (v := (-102 : Int32)) C dX9_block_29 (by decide) ?_
  cases h
  exact y_iret (pc := 31) C dX9_block_31
noncomputable def fX9_block_0 (fu : Nat) (x0 : Nat) (x1 : Int32) (x2 : Int32) (x3 : Int32) (σ : St) : Option (Int32 × St) :=
  (fX9_isKind fu x1 σ).bind fun (q101 : Int32 × St) =>
  if q101.1 = 0 then
    fX9_block_29 fu x0 x1 x2 x3 q101.2
  else
    (fX9_isWithin fu x2 (0 : Int32) (999 : Int32) q101.2).bind fun (q103 : Int32 × St) =>
    if q103.1 = 0 then
      fX9_block_29 fu x0 x1 x2 x3 q103.2
    else
      (fX9_isWithin fu x3 (0 : Int32) (999 : Int32) q103.2).bind fun (q105 : Int32 × St) =>
      if q105.1 = 0 then
        fX9_block_29 fu x0 x1 x2 x3 q105.2
      else
        (fX8_add fu (rf x0 2) x1 x2 x3 q105.2).bind fun (q107 : Int32 × St) =>
        some (q107.1, q107.2)
set_option maxHeartbeats 4000000 in
set_option maxRecDepth 100000 in
theorem tX9_block_0 {l : Launch} {D : va_G} {cA : ClassId} {bs : Nat} {ad : Nat → Nat} {p : Program} {e : Env} {s : State} {m : MethodId} {args : Array Value} {below : List Frame} {meth : Method} {c : Code} {fu : Nat} (C : Cx D cA bs ad RX9 cX9_block 4 (some .int) p s m args meth c) {x0 : Nat} {x1 : Int32} {x2 : Int32} {x3 : Int32} {q : Int32 × St} (hx0 : xk x0 = 7) {σ : St} (h : fX9_block_0 fu x0 x1 x2 x3 σ = some q) : Y D cA bs ad p l e (rmY 2 46) s m args below meth c 4 0 0 (QM D cA bs ad below args s (some (.int q.1)) q.2) σ 0 [(0, .ref (ad x0)), (1, .int x1), (2, .int x2), (3, .int x3)] [] := by
  unfold fX9_block_0 at h
  refine y_iload_n (pc := 0) (q := 1) C dX9_block_0 rfl rfl ?_
  obtain ⟨q101, eq101, h⟩ := bdS h
  refine y_callS (pc := 1) (As := [.int x1]) (rest := []) C (mX9_isKind (fu := fu) eq101) vwX9_99 rfl rfl (Nat.le_of_ble_eq_true rfl) ⟨Nat.le_of_ble_eq_true rfl, Nat.le_of_ble_eq_true rfl⟩ ⟨Nat.le_refl _, Nat.le_refl _⟩ dX9_block_1 ?_
  show Y _ _ _ _ _ _ _ _ _ _ _ _ _ _ _ _ _ _ q101.2 4 [(0, .ref (ad x0)), (1, .int x1), (2, .int x2), (3, .int x3)] [.int q101.1]
  refine y_if_eq (pc := 4) (tgt := 29) C dX9_block_4 (by decide) (fun c102 => ?_) (fun c102 => ?_)
  · rw [if_pos c102] at h
    exact tX9_block_29 (fu := fu) C hx0 h
  · rw [if_neg c102] at h
    refine y_iload_n (pc := 7) (q := 2) C dX9_block_7 rfl rfl ?_
    refine y_iconst (pc := 8) (v := (0 : Int32)) C dX9_block_8 (by decide) ?_
    refine y_sipush (pc := 9) (v := (999 : Int32)) C dX9_block_9 (by decide) ?_
    obtain ⟨q103, eq103, h⟩ := bdS h
    refine y_callS (pc := 12) (As := [.int x2, .int (0 : Int32), .int (999 : Int32)]) (rest := []) C (mX9_isWithin (fu := fu) eq103) vwX9_91 rfl rfl (Nat.le_of_ble_eq_true rfl) ⟨Nat.le_of_ble_eq_true rfl, Nat.le_of_ble_eq_true rfl⟩ ⟨Nat.le_refl _, Nat.le_refl _⟩ dX9_block_12 ?_
    show Y _ _ _ _ _ _ _ _ _ _ _ _ _ _ _ _ _ _ q103.2 15 [(0, .ref (ad x0)), (1, .int x1), (2, .int x2), (3, .int x3)] [.int q103.1]
    refine y_if_eq (pc := 15) (tgt := 29) C dX9_block_15 (by decide) (fun c104 => ?_) (fun c104 => ?_)
    · rw [if_pos c104] at h
      exact tX9_block_29 (fu := fu) C hx0 h
    · rw [if_neg c104] at h
      refine y_iload_n (pc := 18) (q := 3) C dX9_block_18 rfl rfl ?_
      refine y_iconst (pc := 19) (v := (0 : Int32)) C dX9_block_19 (by decide) ?_
      refine y_sipush (pc := 20) (v := (999 : Int32)) C dX9_block_20 (by decide) ?_
      obtain ⟨q105, eq105, h⟩ := bdS h
      refine y_callS (pc := 23) (As := [.int x3, .int (0 : Int32), .int (999 : Int32)]) (rest := []) C (mX9_isWithin (fu := fu) eq105) vwX9_91 rfl rfl (Nat.le_of_ble_eq_true rfl) ⟨Nat.le_of_ble_eq_true rfl, Nat.le_of_ble_eq_true rfl⟩ ⟨Nat.le_refl _, Nat.le_refl _⟩ dX9_block_23 ?_
      show Y _ _ _ _ _ _ _ _ _ _ _ _ _ _ _ _ _ _ q105.2 26 [(0, .ref (ad x0)), (1, .int x1), (2, .int x2), (3, .int x3)] [.int q105.1]
      refine y_if_ne (pc := 26) (tgt := 32) C dX9_block_26 (by decide) (fun c106 => ?_) (fun c106 => ?_)
      · rw [if_neg c106] at h
        refine y_aload_n (pc := 32) (q := 0) C dX9_block_32 rfl rfl ?_
        refine y_getr (pc := 33) C faX9_26 rfl hx0 dX9_block_33 ?_
        refine y_iload_n (pc := 36) (q := 1) C dX9_block_36 rfl rfl ?_
        refine y_iload_n (pc := 37) (q := 2) C dX9_block_37 rfl rfl ?_
        refine y_iload_n (pc := 38) (q := 3) C dX9_block_38 rfl rfl ?_
        obtain ⟨q107, eq107, h⟩ := bdS h
        refine y_callV (pc := 39) (As := [.int x1, .int x2, .int x3]) (rest := []) C (mX8_add (fu := fu) eq107) vwX9_103 rfl (by decide) (rf_7_2 _ hx0) rfl rfl (Nat.le_of_ble_eq_true rfl) ⟨Nat.le_of_ble_eq_true rfl, Nat.le_of_ble_eq_true rfl⟩ ⟨Nat.le_refl _, Nat.le_refl _⟩ dX9_block_39 ?_
        show Y _ _ _ _ _ _ _ _ _ _ _ _ _ _ _ _ _ _ q107.2 42 [(0, .ref (ad x0)), (1, .int x1), (2, .int x2), (3, .int x3)] [.int q107.1]
        cases h
        exact y_iret (pc := 42) C dX9_block_42
      · rw [if_pos c106] at h
        exact tX9_block_29 (fu := fu) C hx0 h
noncomputable def fX9_block (fu : Nat) (x0 : Nat) (x1 : Int32) (x2 : Int32) (x3 : Int32) (σ : St) : Option (Int32 × St) := if xk x0 = 7 then fX9_block_0 fu x0 x1 x2 x3 σ else none
theorem mX9_block {l : Launch} {D : va_G} {cA : ClassId} {bs fu : Nat} {ad : Nat → Nat} {x0 : Nat} {x1 : Int32} {x2 : Int32} {x3 : Int32} {σ : St} {q : Int32 × St} (h : fX9_block fu x0 x1 x2 x3 σ = some q) : Ct l D cA bs ad yX9_block cX9_block 4 (some .int) 2 46 [.ref (ad x0), .int x1, .int x2, .int x3] σ (some (.int q.1)) q.2 := by
  unfold fX9_block at h
  by_cases hx0 : xk x0 = 7
  case neg => rw [if_neg hx0] at h; cases h
  rw [if_pos hx0] at h
  exact Ct.of (by decide) (Nat.le_of_ble_eq_true rfl) (fun p e s m args below meth c C => tX9_block_0 (fu := fu) C hx0 h)
noncomputable def fX9_about_37 (fu : Nat) (x0 : Nat) (x1 : Int32) (x2 : Int32) (s0 : Int32) (σ : St) : Option (Int32 × St) :=
  some (s0, σ)
set_option maxHeartbeats 4000000 in
set_option maxRecDepth 100000 in
theorem tX9_about_37 {l : Launch} {D : va_G} {cA : ClassId} {bs : Nat} {ad : Nat → Nat} {p : Program} {e : Env} {s : State} {m : MethodId} {args : Array Value} {below : List Frame} {meth : Method} {c : Code} {fu : Nat} (C : Cx D cA bs ad RX9 cX9_about 3 (some .int) p s m args meth c) {x0 : Nat} {x1 : Int32} {x2 : Int32} {s0 : Int32} {q : Int32 × St} (hx0 : xk x0 = 7) {σ : St} (h : fX9_about_37 fu x0 x1 x2 s0 σ = some q) : Y D cA bs ad p l e (rmY 1 22) s m args below meth c 3 0 0 (QM D cA bs ad below args s (some (.int q.1)) q.2) σ 37 [(0, .ref (ad x0)), (1, .int x1), (2, .int x2)] [.int s0] := by
  unfold fX9_about_37 at h
  cases h
  exact y_iret (pc := 37) C dX9_about_37
noncomputable def fX9_about_0 (fu : Nat) (x0 : Nat) (x1 : Int32) (x2 : Int32) (σ : St) : Option (Int32 × St) :=
  (fX8_hasBlock fu (rf x0 2) x1 σ).bind fun (q101 : Int32 × St) =>
  if q101.1 = 0 then
    some ((-101 : Int32), q101.2)
  else
    (fX9_isWithin fu x2 (0 : Int32) (4 : Int32) q101.2).bind fun (q103 : Int32 × St) =>
    if q103.1 = 0 then
      fX9_about_37 fu x0 x1 x2 (-102 : Int32) q103.2
    else
      (fX8_told fu (rf x0 2) x1 x2 q103.2).bind fun (q105 : Int32 × St) =>
      fX9_about_37 fu x0 x1 x2 q105.1 q105.2
set_option maxHeartbeats 4000000 in
set_option maxRecDepth 100000 in
theorem tX9_about_0 {l : Launch} {D : va_G} {cA : ClassId} {bs : Nat} {ad : Nat → Nat} {p : Program} {e : Env} {s : State} {m : MethodId} {args : Array Value} {below : List Frame} {meth : Method} {c : Code} {fu : Nat} (C : Cx D cA bs ad RX9 cX9_about 3 (some .int) p s m args meth c) {x0 : Nat} {x1 : Int32} {x2 : Int32} {q : Int32 × St} (hx0 : xk x0 = 7) {σ : St} (h : fX9_about_0 fu x0 x1 x2 σ = some q) : Y D cA bs ad p l e (rmY 1 22) s m args below meth c 3 0 0 (QM D cA bs ad below args s (some (.int q.1)) q.2) σ 0 [(0, .ref (ad x0)), (1, .int x1), (2, .int x2)] [] := by
  unfold fX9_about_0 at h
  refine y_aload_n (pc := 0) (q := 0) C dX9_about_0 rfl rfl ?_
  refine y_getr (pc := 1) C faX9_26 rfl hx0 dX9_about_1 ?_
  refine y_iload_n (pc := 4) (q := 1) C dX9_about_4 rfl rfl ?_
  obtain ⟨q101, eq101, h⟩ := bdS h
  refine y_callV (pc := 5) (As := [.int x1]) (rest := []) C (mX8_hasBlock (fu := fu) eq101) vwX9_107 rfl (by decide) (rf_7_2 _ hx0) rfl rfl (Nat.le_of_ble_eq_true rfl) ⟨Nat.le_of_ble_eq_true rfl, Nat.le_of_ble_eq_true rfl⟩ ⟨Nat.le_refl _, Nat.le_refl _⟩ dX9_about_5 ?_
  show Y _ _ _ _ _ _ _ _ _ _ _ _ _ _ _ _ _ _ q101.2 8 [(0, .ref (ad x0)), (1, .int x1), (2, .int x2)] [.int q101.1]
  refine y_if_ne (pc := 8) (tgt := 14) C dX9_about_8 (by decide) (fun c102 => ?_) (fun c102 => ?_)
  · rw [if_neg c102] at h
    refine y_iload_n (pc := 14) (q := 2) C dX9_about_14 rfl rfl ?_
    refine y_iconst (pc := 15) (v := (0 : Int32)) C dX9_about_15 (by decide) ?_
    refine y_iconst (pc := 16) (v := (4 : Int32)) C dX9_about_16 (by decide) ?_
    obtain ⟨q103, eq103, h⟩ := bdS h
    refine y_callS (pc := 17) (As := [.int x2, .int (0 : Int32), .int (4 : Int32)]) (rest := []) C (mX9_isWithin (fu := fu) eq103) vwX9_91 rfl rfl (Nat.le_of_ble_eq_true rfl) ⟨Nat.le_of_ble_eq_true rfl, Nat.le_of_ble_eq_true rfl⟩ ⟨Nat.le_refl _, Nat.le_refl _⟩ dX9_about_17 ?_
    show Y _ _ _ _ _ _ _ _ _ _ _ _ _ _ _ _ _ _ q103.2 20 [(0, .ref (ad x0)), (1, .int x1), (2, .int x2)] [.int q103.1]
    refine y_if_eq (pc := 20) (tgt := 35) C dX9_about_20 (by decide) (fun c104 => ?_) (fun c104 => ?_)
    · rw [if_pos c104] at h
      refine y_bipush (pc := 35) (v := (-102 : Int32)) C dX9_about_35 (by decide) ?_
      exact tX9_about_37 (fu := fu) C hx0 h
    · rw [if_neg c104] at h
      refine y_aload_n (pc := 23) (q := 0) C dX9_about_23 rfl rfl ?_
      refine y_getr (pc := 24) C faX9_26 rfl hx0 dX9_about_24 ?_
      refine y_iload_n (pc := 27) (q := 1) C dX9_about_27 rfl rfl ?_
      refine y_iload_n (pc := 28) (q := 2) C dX9_about_28 rfl rfl ?_
      obtain ⟨q105, eq105, h⟩ := bdS h
      refine y_callV (pc := 29) (As := [.int x1, .int x2]) (rest := []) C (mX8_told (fu := fu) eq105) vwX9_110 rfl (by decide) (rf_7_2 _ hx0) rfl rfl (Nat.le_of_ble_eq_true rfl) ⟨Nat.le_of_ble_eq_true rfl, Nat.le_of_ble_eq_true rfl⟩ ⟨Nat.le_refl _, Nat.le_refl _⟩ dX9_about_29 ?_
      show Y _ _ _ _ _ _ _ _ _ _ _ _ _ _ _ _ _ _ q105.2 32 [(0, .ref (ad x0)), (1, .int x1), (2, .int x2)] [.int q105.1]
      refine y_goto (pc := 32) (tgt := 37) C dX9_about_32 (by decide) ?_
      exact tX9_about_37 (fu := fu) C hx0 h
  · rw [if_pos c102] at h
    refine y_bipush (pc := 11) (v := (-101 : Int32)) C dX9_about_11 (by decide) ?_
    cases h
    exact y_iret (pc := 13) C dX9_about_13
noncomputable def fX9_about (fu : Nat) (x0 : Nat) (x1 : Int32) (x2 : Int32) (σ : St) : Option (Int32 × St) := if xk x0 = 7 then fX9_about_0 fu x0 x1 x2 σ else none
theorem mX9_about {l : Launch} {D : va_G} {cA : ClassId} {bs fu : Nat} {ad : Nat → Nat} {x0 : Nat} {x1 : Int32} {x2 : Int32} {σ : St} {q : Int32 × St} (h : fX9_about fu x0 x1 x2 σ = some q) : Ct l D cA bs ad yX9_about cX9_about 3 (some .int) 1 22 [.ref (ad x0), .int x1, .int x2] σ (some (.int q.1)) q.2 := by
  unfold fX9_about at h
  by_cases hx0 : xk x0 = 7
  case neg => rw [if_neg hx0] at h; cases h
  rw [if_pos hx0] at h
  exact Ct.of (by decide) (Nat.le_of_ble_eq_true rfl) (fun p e s m args below meth c C => tX9_about_0 (fu := fu) C hx0 h)
noncomputable def fX9_isAlso_24 (fu : Nat) (x0 : Int32) (x1 : Int32) (s0 : Int32) (σ : St) : Option (Int32 × St) :=
  if s0 = 0 ∨ s0 = 1 then some (s0, σ) else none
set_option maxHeartbeats 4000000 in
set_option maxRecDepth 100000 in
theorem tX9_isAlso_24 {l : Launch} {D : va_G} {cA : ClassId} {bs : Nat} {ad : Nat → Nat} {p : Program} {e : Env} {s : State} {m : MethodId} {args : Array Value} {below : List Frame} {meth : Method} {c : Code} {fu : Nat} (C : Cx D cA bs ad RX9 cX9_isAlso 2 (some .boolean) p s m args meth c) {x0 : Int32} {x1 : Int32} {s0 : Int32} {q : Int32 × St} {σ : St} (h : fX9_isAlso_24 fu x0 x1 s0 σ = some q) : Y D cA bs ad p l e (rmY 0 0) s m args below meth c 2 0 0 (QM D cA bs ad below args s (some (.int q.1)) q.2) σ 24 [(0, .int x0), (1, .int x1)] [.int s0] := by
  unfold fX9_isAlso_24 at h
  by_cases c101 : s0 = 0 ∨ s0 = 1
  case neg => rw [if_neg c101] at h; cases h
  rw [if_pos c101] at h
  cases h
  exact y_zret (pc := 24) C c101 dX9_isAlso_24
noncomputable def fX9_isAlso_19 (fu : Nat) (x0 : Int32) (x1 : Int32) (σ : St) : Option (Int32 × St) :=
  fX9_isAlso_24 fu x0 x1 (1 : Int32) σ
set_option maxHeartbeats 4000000 in
set_option maxRecDepth 100000 in
theorem tX9_isAlso_19 {l : Launch} {D : va_G} {cA : ClassId} {bs : Nat} {ad : Nat → Nat} {p : Program} {e : Env} {s : State} {m : MethodId} {args : Array Value} {below : List Frame} {meth : Method} {c : Code} {fu : Nat} (C : Cx D cA bs ad RX9 cX9_isAlso 2 (some .boolean) p s m args meth c) {x0 : Int32} {x1 : Int32} {q : Int32 × St} {σ : St} (h : fX9_isAlso_19 fu x0 x1 σ = some q) : Y D cA bs ad p l e (rmY 0 0) s m args below meth c 2 0 0 (QM D cA bs ad below args s (some (.int q.1)) q.2) σ 19 [(0, .int x0), (1, .int x1)] [] := by
  unfold fX9_isAlso_19 at h
  refine y_iconst (pc := 19) (v := (1 : Int32)) C dX9_isAlso_19 (by decide) ?_
  refine y_goto (pc := 20) (tgt := 24) C dX9_isAlso_20 (by decide) ?_
  exact tX9_isAlso_24 (fu := fu) C h
noncomputable def fX9_isAlso_23 (fu : Nat) (x0 : Int32) (x1 : Int32) (σ : St) : Option (Int32 × St) :=
  fX9_isAlso_24 fu x0 x1 (0 : Int32) σ
set_option maxHeartbeats 4000000 in
set_option maxRecDepth 100000 in
theorem tX9_isAlso_23 {l : Launch} {D : va_G} {cA : ClassId} {bs : Nat} {ad : Nat → Nat} {p : Program} {e : Env} {s : State} {m : MethodId} {args : Array Value} {below : List Frame} {meth : Method} {c : Code} {fu : Nat} (C : Cx D cA bs ad RX9 cX9_isAlso 2 (some .boolean) p s m args meth c) {x0 : Int32} {x1 : Int32} {q : Int32 × St} {σ : St} (h : fX9_isAlso_23 fu x0 x1 σ = some q) : Y D cA bs ad p l e (rmY 0 0) s m args below meth c 2 0 0 (QM D cA bs ad below args s (some (.int q.1)) q.2) σ 23 [(0, .int x0), (1, .int x1)] [] := by
  unfold fX9_isAlso_23 at h
  refine y_iconst (pc := 23) (v := (0 : Int32)) C dX9_isAlso_23 (by decide) ?_
  exact tX9_isAlso_24 (fu := fu) C h
noncomputable def fX9_isAlso_0 (fu : Nat) (x0 : Int32) (x1 : Int32) (σ : St) : Option (Int32 × St) :=
  if x1 = 0 then
    fX9_isAlso_19 fu x0 x1 σ
  else
    if x0 = x1 then
      fX9_isAlso_19 fu x0 x1 σ
    else
      if x1 = (1 : Int32) then
        if x0 = (4 : Int32) then
          fX9_isAlso_19 fu x0 x1 σ
        else
          fX9_isAlso_23 fu x0 x1 σ
      else
        fX9_isAlso_23 fu x0 x1 σ
set_option maxHeartbeats 4000000 in
set_option maxRecDepth 100000 in
theorem tX9_isAlso_0 {l : Launch} {D : va_G} {cA : ClassId} {bs : Nat} {ad : Nat → Nat} {p : Program} {e : Env} {s : State} {m : MethodId} {args : Array Value} {below : List Frame} {meth : Method} {c : Code} {fu : Nat} (C : Cx D cA bs ad RX9 cX9_isAlso 2 (some .boolean) p s m args meth c) {x0 : Int32} {x1 : Int32} {q : Int32 × St} {σ : St} (h : fX9_isAlso_0 fu x0 x1 σ = some q) : Y D cA bs ad p l e (rmY 0 0) s m args below meth c 2 0 0 (QM D cA bs ad below args s (some (.int q.1)) q.2) σ 0 [(0, .int x0), (1, .int x1)] [] := by
  unfold fX9_isAlso_0 at h
  refine y_iload_n (pc := 0) (q := 1) C dX9_isAlso_0 rfl rfl ?_
  refine y_if_eq (pc := 1) (tgt := 19) C dX9_isAlso_1 (by decide) (fun c101 => ?_) (fun c101 => ?_)
  · rw [if_pos c101] at h
    exact tX9_isAlso_19 (fu := fu) C h
  · rw [if_neg c101] at h
    refine y_iload_n (pc := 4) (q := 0) C dX9_isAlso_4 rfl rfl ?_
    refine y_iload_n (pc := 5) (q := 1) C dX9_isAlso_5 rfl rfl ?_
    refine y_icmp_eq (pc := 6) (tgt := 19) C dX9_isAlso_6 (by decide) (fun c102 => ?_) (fun c102 => ?_)
    · rw [if_pos c102] at h
      exact tX9_isAlso_19 (fu := fu) C h
    · rw [if_neg c102] at h
      refine y_iload_n (pc := 9) (q := 1) C dX9_isAlso_9 rfl rfl ?_
      refine y_iconst (pc := 10) (v := (1 : Int32)) C dX9_isAlso_10 (by decide) ?_
      refine y_icmp_ne (pc := 11) (tgt := 23) C dX9_isAlso_11 (by decide) (fun c103 => ?_) (fun c103 => ?_)
      · rw [if_neg c103] at h
        exact tX9_isAlso_23 (fu := fu) C h
      · rw [if_pos c103] at h
        refine y_iload_n (pc := 14) (q := 0) C dX9_isAlso_14 rfl rfl ?_
        refine y_iconst (pc := 15) (v := (4 : Int32)) C dX9_isAlso_15 (by decide) ?_
        refine y_icmp_ne (pc := 16) (tgt := 23) C dX9_isAlso_16 (by decide) (fun c104 => ?_) (fun c104 => ?_)
        · rw [if_neg c104] at h
          exact tX9_isAlso_23 (fu := fu) C h
        · rw [if_pos c104] at h
          exact tX9_isAlso_19 (fu := fu) C h
noncomputable def fX9_isAlso (fu : Nat) (x0 : Int32) (x1 : Int32) (σ : St) : Option (Int32 × St) := fX9_isAlso_0 fu x0 x1 σ
theorem mX9_isAlso {l : Launch} {D : va_G} {cA : ClassId} {bs fu : Nat} {ad : Nat → Nat} {x0 : Int32} {x1 : Int32} {σ : St} {q : Int32 × St} (h : fX9_isAlso fu x0 x1 σ = some q) : Ct l D cA bs ad yX9_isAlso cX9_isAlso 2 (some .boolean) 0 0 [.int x0, .int x1] σ (some (.int q.1)) q.2 := by
  unfold fX9_isAlso at h
  exact Ct.of (by decide) (Nat.le_of_ble_eq_true rfl) (fun p e s m args below meth c C => tX9_isAlso_0 (fu := fu) C h)
noncomputable def fX9_as_44 (fu : Nat) (x0 : Nat) (x1 : Int32) (x2 : Int32) (s0 : Int32) (σ : St) : Option (Int32 × St) :=
  some (s0, σ)
set_option maxHeartbeats 4000000 in
set_option maxRecDepth 100000 in
theorem tX9_as_44 {l : Launch} {D : va_G} {cA : ClassId} {bs : Nat} {ad : Nat → Nat} {p : Program} {e : Env} {s : State} {m : MethodId} {args : Array Value} {below : List Frame} {meth : Method} {c : Code} {fu : Nat} (C : Cx D cA bs ad RX9 cX9_as 3 (some .int) p s m args meth c) {x0 : Nat} {x1 : Int32} {x2 : Int32} {s0 : Int32} {q : Int32 × St} (hx0 : xk x0 = 7) {σ : St} (h : fX9_as_44 fu x0 x1 x2 s0 σ = some q) : Y D cA bs ad p l e (rmY 2 42) s m args below meth c 3 0 0 (QM D cA bs ad below args s (some (.int q.1)) q.2) σ 44 [(0, .ref (ad x0)), (1, .int x1), (2, .int x2)] [.int s0] := by
  unfold fX9_as_44 at h
  cases h
  exact y_iret (pc := 44) C dX9_as_44
noncomputable def fX9_as_0 (fu : Nat) (x0 : Nat) (x1 : Int32) (x2 : Int32) (σ : St) : Option (Int32 × St) :=
  (fX8_hasBlock fu (rf x0 2) x1 σ).bind fun (q101 : Int32 × St) =>
  if q101.1 = 0 then
    some ((-101 : Int32), q101.2)
  else
    (fX9_isKind fu x2 q101.2).bind fun (q103 : Int32 × St) =>
    if q103.1 = 0 then
      some ((-102 : Int32), q103.2)
    else
      (fX8_kindOf fu (rf x0 2) x1 q103.2).bind fun (q105 : Int32 × St) =>
      (fX9_isAlso fu q105.1 x2 q105.2).bind fun (q106 : Int32 × St) =>
      if q106.1 = 0 then
        fX9_as_44 fu x0 x1 x2 (-1 : Int32) q106.2
      else
        fX9_as_44 fu x0 x1 x2 x1 q106.2
set_option maxHeartbeats 4000000 in
set_option maxRecDepth 100000 in
theorem tX9_as_0 {l : Launch} {D : va_G} {cA : ClassId} {bs : Nat} {ad : Nat → Nat} {p : Program} {e : Env} {s : State} {m : MethodId} {args : Array Value} {below : List Frame} {meth : Method} {c : Code} {fu : Nat} (C : Cx D cA bs ad RX9 cX9_as 3 (some .int) p s m args meth c) {x0 : Nat} {x1 : Int32} {x2 : Int32} {q : Int32 × St} (hx0 : xk x0 = 7) {σ : St} (h : fX9_as_0 fu x0 x1 x2 σ = some q) : Y D cA bs ad p l e (rmY 2 42) s m args below meth c 3 0 0 (QM D cA bs ad below args s (some (.int q.1)) q.2) σ 0 [(0, .ref (ad x0)), (1, .int x1), (2, .int x2)] [] := by
  unfold fX9_as_0 at h
  refine y_aload_n (pc := 0) (q := 0) C dX9_as_0 rfl rfl ?_
  refine y_getr (pc := 1) C faX9_26 rfl hx0 dX9_as_1 ?_
  refine y_iload_n (pc := 4) (q := 1) C dX9_as_4 rfl rfl ?_
  obtain ⟨q101, eq101, h⟩ := bdS h
  refine y_callV (pc := 5) (As := [.int x1]) (rest := []) C (mX8_hasBlock (fu := fu) eq101) vwX9_107 rfl (by decide) (rf_7_2 _ hx0) rfl rfl (Nat.le_of_ble_eq_true rfl) ⟨Nat.le_of_ble_eq_true rfl, Nat.le_of_ble_eq_true rfl⟩ ⟨Nat.le_refl _, Nat.le_refl _⟩ dX9_as_5 ?_
  show Y _ _ _ _ _ _ _ _ _ _ _ _ _ _ _ _ _ _ q101.2 8 [(0, .ref (ad x0)), (1, .int x1), (2, .int x2)] [.int q101.1]
  refine y_if_ne (pc := 8) (tgt := 14) C dX9_as_8 (by decide) (fun c102 => ?_) (fun c102 => ?_)
  · rw [if_neg c102] at h
    refine y_iload_n (pc := 14) (q := 2) C dX9_as_14 rfl rfl ?_
    obtain ⟨q103, eq103, h⟩ := bdS h
    refine y_callS (pc := 15) (As := [.int x2]) (rest := []) C (mX9_isKind (fu := fu) eq103) vwX9_99 rfl rfl (Nat.le_of_ble_eq_true rfl) ⟨Nat.le_of_ble_eq_true rfl, Nat.le_of_ble_eq_true rfl⟩ ⟨Nat.le_refl _, Nat.le_refl _⟩ dX9_as_15 ?_
    show Y _ _ _ _ _ _ _ _ _ _ _ _ _ _ _ _ _ _ q103.2 18 [(0, .ref (ad x0)), (1, .int x1), (2, .int x2)] [.int q103.1]
    refine y_if_ne (pc := 18) (tgt := 24) C dX9_as_18 (by decide) (fun c104 => ?_) (fun c104 => ?_)
    · rw [if_neg c104] at h
      refine y_aload_n (pc := 24) (q := 0) C dX9_as_24 rfl rfl ?_
      refine y_getr (pc := 25) C faX9_26 rfl hx0 dX9_as_25 ?_
      refine y_iload_n (pc := 28) (q := 1) C dX9_as_28 rfl rfl ?_
      obtain ⟨q105, eq105, h⟩ := bdS h
      refine y_callV (pc := 29) (As := [.int x1]) (rest := []) C (mX8_kindOf (fu := fu) eq105) vwX9_113 rfl (by decide) (rf_7_2 _ hx0) rfl rfl (Nat.le_of_ble_eq_true rfl) ⟨Nat.le_of_ble_eq_true rfl, Nat.le_of_ble_eq_true rfl⟩ ⟨Nat.le_refl _, Nat.le_refl _⟩ dX9_as_29 ?_
      show Y _ _ _ _ _ _ _ _ _ _ _ _ _ _ _ _ _ _ q105.2 32 [(0, .ref (ad x0)), (1, .int x1), (2, .int x2)] [.int q105.1]
      refine y_iload_n (pc := 32) (q := 2) C dX9_as_32 rfl rfl ?_
      obtain ⟨q106, eq106, h⟩ := bdS h
      refine y_callS (pc := 33) (As := [.int q105.1, .int x2]) (rest := []) C (mX9_isAlso (fu := fu) eq106) vwX9_116 rfl rfl (Nat.le_of_ble_eq_true rfl) ⟨Nat.le_of_ble_eq_true rfl, Nat.le_of_ble_eq_true rfl⟩ ⟨Nat.le_refl _, Nat.le_refl _⟩ dX9_as_33 ?_
      show Y _ _ _ _ _ _ _ _ _ _ _ _ _ _ _ _ _ _ q106.2 36 [(0, .ref (ad x0)), (1, .int x1), (2, .int x2)] [.int q106.1]
      refine y_if_eq (pc := 36) (tgt := 43) C dX9_as_36 (by decide) (fun c107 => ?_) (fun c107 => ?_)
      · rw [if_pos c107] at h
        refine y_iconst (pc := 43) (v := (-1 : Int32)) C dX9_as_43 (by decide) ?_
        exact tX9_as_44 (fu := fu) C hx0 h
      · rw [if_neg c107] at h
        refine y_iload_n (pc := 39) (q := 1) C dX9_as_39 rfl rfl ?_
        refine y_goto (pc := 40) (tgt := 44) C dX9_as_40 (by decide) ?_
        exact tX9_as_44 (fu := fu) C hx0 h
    · rw [if_pos c104] at h
      refine y_bipush (pc := 21) (v := (-102 : Int32)) C dX9_as_21 (by decide) ?_
      cases h
      exact y_iret (pc := 23) C dX9_as_23
  · rw [if_pos c102] at h
    refine y_bipush (pc := 11) (v := (-101 : Int32)) C dX9_as_11 (by decide) ?_
    cases h
    exact y_iret (pc := 13) C dX9_as_13
noncomputable def fX9_as (fu : Nat) (x0 : Nat) (x1 : Int32) (x2 : Int32) (σ : St) : Option (Int32 × St) := if xk x0 = 7 then fX9_as_0 fu x0 x1 x2 σ else none
theorem mX9_as {l : Launch} {D : va_G} {cA : ClassId} {bs fu : Nat} {ad : Nat → Nat} {x0 : Nat} {x1 : Int32} {x2 : Int32} {σ : St} {q : Int32 × St} (h : fX9_as fu x0 x1 x2 σ = some q) : Ct l D cA bs ad yX9_as cX9_as 3 (some .int) 2 42 [.ref (ad x0), .int x1, .int x2] σ (some (.int q.1)) q.2 := by
  unfold fX9_as at h
  by_cases hx0 : xk x0 = 7
  case neg => rw [if_neg hx0] at h; cases h
  rw [if_pos hx0] at h
  exact Ct.of (by decide) (Nat.le_of_ble_eq_true rfl) (fun p e s m args below meth c C => tX9_as_0 (fu := fu) C hx0 h)
noncomputable def fX9_wheels_37 (fu : Nat) (x0 : Nat) (x1 : Int32) (x2 : Int32) (s0 : Int32) (σ : St) : Option (Int32 × St) :=
  some (s0, σ)
set_option maxHeartbeats 4000000 in
set_option maxRecDepth 100000 in
theorem tX9_wheels_37 {l : Launch} {D : va_G} {cA : ClassId} {bs : Nat} {ad : Nat → Nat} {p : Program} {e : Env} {s : State} {m : MethodId} {args : Array Value} {below : List Frame} {meth : Method} {c : Code} {fu : Nat} (C : Cx D cA bs ad RX9 cX9_wheels 3 (some .int) p s m args meth c) {x0 : Nat} {x1 : Int32} {x2 : Int32} {s0 : Int32} {q : Int32 × St} (hx0 : xk x0 = 7) {σ : St} (h : fX9_wheels_37 fu x0 x1 x2 s0 σ = some q) : Y D cA bs ad p l e (rmY 1 23) s m args below meth c 3 0 0 (QM D cA bs ad below args s (some (.int q.1)) q.2) σ 37 [(0, .ref (ad x0)), (1, .int x1), (2, .int x2)] [.int s0] := by
  unfold fX9_wheels_37 at h
  cases h
  exact y_iret (pc := 37) C dX9_wheels_37
noncomputable def fX9_wheels_0 (fu : Nat) (x0 : Nat) (x1 : Int32) (x2 : Int32) (σ : St) : Option (Int32 × St) :=
  (fX9_isWithin fu x1 (0 : Int32) (6 : Int32) σ).bind fun (q101 : Int32 × St) =>
  if q101.1 = 0 then
    some ((-101 : Int32), q101.2)
  else
    (fX9_isWithin fu x2 (0 : Int32) (9 : Int32) q101.2).bind fun (q103 : Int32 × St) =>
    if q103.1 = 0 then
      fX9_wheels_37 fu x0 x1 x2 (-102 : Int32) q103.2
    else
      (fX8_changeWheels fu (rf x0 2) x1 x2 q103.2).bind fun (q105 : Int32 × St) =>
      fX9_wheels_37 fu x0 x1 x2 q105.1 q105.2
set_option maxHeartbeats 4000000 in
set_option maxRecDepth 100000 in
theorem tX9_wheels_0 {l : Launch} {D : va_G} {cA : ClassId} {bs : Nat} {ad : Nat → Nat} {p : Program} {e : Env} {s : State} {m : MethodId} {args : Array Value} {below : List Frame} {meth : Method} {c : Code} {fu : Nat} (C : Cx D cA bs ad RX9 cX9_wheels 3 (some .int) p s m args meth c) {x0 : Nat} {x1 : Int32} {x2 : Int32} {q : Int32 × St} (hx0 : xk x0 = 7) {σ : St} (h : fX9_wheels_0 fu x0 x1 x2 σ = some q) : Y D cA bs ad p l e (rmY 1 23) s m args below meth c 3 0 0 (QM D cA bs ad below args s (some (.int q.1)) q.2) σ 0 [(0, .ref (ad x0)), (1, .int x1), (2, .int x2)] [] := by
  unfold fX9_wheels_0 at h
  refine y_iload_n (pc := 0) (q := 1) C dX9_wheels_0 rfl rfl ?_
  refine y_iconst (pc := 1) (v := (0 : Int32)) C dX9_wheels_1 (by decide) ?_
  refine y_bipush (pc := 2) (v := (6 : Int32)) C dX9_wheels_2 (by decide) ?_
  obtain ⟨q101, eq101, h⟩ := bdS h
  refine y_callS (pc := 4) (As := [.int x1, .int (0 : Int32), .int (6 : Int32)]) (rest := []) C (mX9_isWithin (fu := fu) eq101) vwX9_91 rfl rfl (Nat.le_of_ble_eq_true rfl) ⟨Nat.le_of_ble_eq_true rfl, Nat.le_of_ble_eq_true rfl⟩ ⟨Nat.le_refl _, Nat.le_refl _⟩ dX9_wheels_4 ?_
  show Y _ _ _ _ _ _ _ _ _ _ _ _ _ _ _ _ _ _ q101.2 7 [(0, .ref (ad x0)), (1, .int x1), (2, .int x2)] [.int q101.1]
  refine y_if_ne (pc := 7) (tgt := 13) C dX9_wheels_7 (by decide) (fun c102 => ?_) (fun c102 => ?_)
  · rw [if_neg c102] at h
    refine y_iload_n (pc := 13) (q := 2) C dX9_wheels_13 rfl rfl ?_
    refine y_iconst (pc := 14) (v := (0 : Int32)) C dX9_wheels_14 (by decide) ?_
    refine y_bipush (pc := 15) (v := (9 : Int32)) C dX9_wheels_15 (by decide) ?_
    obtain ⟨q103, eq103, h⟩ := bdS h
    refine y_callS (pc := 17) (As := [.int x2, .int (0 : Int32), .int (9 : Int32)]) (rest := []) C (mX9_isWithin (fu := fu) eq103) vwX9_91 rfl rfl (Nat.le_of_ble_eq_true rfl) ⟨Nat.le_of_ble_eq_true rfl, Nat.le_of_ble_eq_true rfl⟩ ⟨Nat.le_refl _, Nat.le_refl _⟩ dX9_wheels_17 ?_
    show Y _ _ _ _ _ _ _ _ _ _ _ _ _ _ _ _ _ _ q103.2 20 [(0, .ref (ad x0)), (1, .int x1), (2, .int x2)] [.int q103.1]
    refine y_if_eq (pc := 20) (tgt := 35) C dX9_wheels_20 (by decide) (fun c104 => ?_) (fun c104 => ?_)
    · rw [if_pos c104] at h
      refine y_bipush (pc := 35) (v := (-102 : Int32)) C dX9_wheels_35 (by decide) ?_
      exact tX9_wheels_37 (fu := fu) C hx0 h
    · rw [if_neg c104] at h
      refine y_aload_n (pc := 23) (q := 0) C dX9_wheels_23 rfl rfl ?_
      refine y_getr (pc := 24) C faX9_26 rfl hx0 dX9_wheels_24 ?_
      refine y_iload_n (pc := 27) (q := 1) C dX9_wheels_27 rfl rfl ?_
      refine y_iload_n (pc := 28) (q := 2) C dX9_wheels_28 rfl rfl ?_
      obtain ⟨q105, eq105, h⟩ := bdS h
      refine y_callV (pc := 29) (As := [.int x1, .int x2]) (rest := []) C (mX8_changeWheels (fu := fu) eq105) vwX9_120 rfl (by decide) (rf_7_2 _ hx0) rfl rfl (Nat.le_of_ble_eq_true rfl) ⟨Nat.le_of_ble_eq_true rfl, Nat.le_of_ble_eq_true rfl⟩ ⟨Nat.le_refl _, Nat.le_refl _⟩ dX9_wheels_29 ?_
      show Y _ _ _ _ _ _ _ _ _ _ _ _ _ _ _ _ _ _ q105.2 32 [(0, .ref (ad x0)), (1, .int x1), (2, .int x2)] [.int q105.1]
      refine y_goto (pc := 32) (tgt := 37) C dX9_wheels_32 (by decide) ?_
      exact tX9_wheels_37 (fu := fu) C hx0 h
  · rw [if_pos c102] at h
    refine y_bipush (pc := 10) (v := (-101 : Int32)) C dX9_wheels_10 (by decide) ?_
    cases h
    exact y_iret (pc := 12) C dX9_wheels_12
noncomputable def fX9_wheels (fu : Nat) (x0 : Nat) (x1 : Int32) (x2 : Int32) (σ : St) : Option (Int32 × St) := if xk x0 = 7 then fX9_wheels_0 fu x0 x1 x2 σ else none
theorem mX9_wheels {l : Launch} {D : va_G} {cA : ClassId} {bs fu : Nat} {ad : Nat → Nat} {x0 : Nat} {x1 : Int32} {x2 : Int32} {σ : St} {q : Int32 × St} (h : fX9_wheels fu x0 x1 x2 σ = some q) : Ct l D cA bs ad yX9_wheels cX9_wheels 3 (some .int) 1 23 [.ref (ad x0), .int x1, .int x2] σ (some (.int q.1)) q.2 := by
  unfold fX9_wheels at h
  by_cases hx0 : xk x0 = 7
  case neg => rw [if_neg hx0] at h; cases h
  rw [if_pos hx0] at h
  exact Ct.of (by decide) (Nat.le_of_ble_eq_true rfl) (fun p e s m args below meth c C => tX9_wheels_0 (fu := fu) C hx0 h)
noncomputable def fX9_at_24 (fu : Nat) (x0 : Nat) (x1 : Int32) (s0 : Int32) (σ : St) : Option (Int32 × St) :=
  some (s0, σ)
set_option maxHeartbeats 4000000 in
set_option maxRecDepth 100000 in
theorem tX9_at_24 {l : Launch} {D : va_G} {cA : ClassId} {bs : Nat} {ad : Nat → Nat} {p : Program} {e : Env} {s : State} {m : MethodId} {args : Array Value} {below : List Frame} {meth : Method} {c : Code} {fu : Nat} (C : Cx D cA bs ad RX9 cX9_at 2 (some .int) p s m args meth c) {x0 : Nat} {x1 : Int32} {s0 : Int32} {q : Int32 × St} (hx0 : xk x0 = 7) {σ : St} (h : fX9_at_24 fu x0 x1 s0 σ = some q) : Y D cA bs ad p l e (rmY 1 21) s m args below meth c 2 0 0 (QM D cA bs ad below args s (some (.int q.1)) q.2) σ 24 [(0, .ref (ad x0)), (1, .int x1)] [.int s0] := by
  unfold fX9_at_24 at h
  cases h
  exact y_iret (pc := 24) C dX9_at_24
noncomputable def fX9_at_0 (fu : Nat) (x0 : Nat) (x1 : Int32) (σ : St) : Option (Int32 × St) :=
  (fX8_hasBlock fu (rf x0 2) x1 σ).bind fun (q101 : Int32 × St) =>
  if q101.1 = 0 then
    fX9_at_24 fu x0 x1 (-101 : Int32) q101.2
  else
    (fX8_blockIn fu (rf x0 2) x1 q101.2).bind fun (q103 : Int32 × St) =>
    fX9_at_24 fu x0 x1 q103.1 q103.2
set_option maxHeartbeats 4000000 in
set_option maxRecDepth 100000 in
theorem tX9_at_0 {l : Launch} {D : va_G} {cA : ClassId} {bs : Nat} {ad : Nat → Nat} {p : Program} {e : Env} {s : State} {m : MethodId} {args : Array Value} {below : List Frame} {meth : Method} {c : Code} {fu : Nat} (C : Cx D cA bs ad RX9 cX9_at 2 (some .int) p s m args meth c) {x0 : Nat} {x1 : Int32} {q : Int32 × St} (hx0 : xk x0 = 7) {σ : St} (h : fX9_at_0 fu x0 x1 σ = some q) : Y D cA bs ad p l e (rmY 1 21) s m args below meth c 2 0 0 (QM D cA bs ad below args s (some (.int q.1)) q.2) σ 0 [(0, .ref (ad x0)), (1, .int x1)] [] := by
  unfold fX9_at_0 at h
  refine y_aload_n (pc := 0) (q := 0) C dX9_at_0 rfl rfl ?_
  refine y_getr (pc := 1) C faX9_26 rfl hx0 dX9_at_1 ?_
  refine y_iload_n (pc := 4) (q := 1) C dX9_at_4 rfl rfl ?_
  obtain ⟨q101, eq101, h⟩ := bdS h
  refine y_callV (pc := 5) (As := [.int x1]) (rest := []) C (mX8_hasBlock (fu := fu) eq101) vwX9_107 rfl (by decide) (rf_7_2 _ hx0) rfl rfl (Nat.le_of_ble_eq_true rfl) ⟨Nat.le_of_ble_eq_true rfl, Nat.le_of_ble_eq_true rfl⟩ ⟨Nat.le_refl _, Nat.le_refl _⟩ dX9_at_5 ?_
  show Y _ _ _ _ _ _ _ _ _ _ _ _ _ _ _ _ _ _ q101.2 8 [(0, .ref (ad x0)), (1, .int x1)] [.int q101.1]
  refine y_if_eq (pc := 8) (tgt := 22) C dX9_at_8 (by decide) (fun c102 => ?_) (fun c102 => ?_)
  · rw [if_pos c102] at h
    refine y_bipush (pc := 22) (v := (-101 : Int32)) C dX9_at_22 (by decide) ?_
    exact tX9_at_24 (fu := fu) C hx0 h
  · rw [if_neg c102] at h
    refine y_aload_n (pc := 11) (q := 0) C dX9_at_11 rfl rfl ?_
    refine y_getr (pc := 12) C faX9_26 rfl hx0 dX9_at_12 ?_
    refine y_iload_n (pc := 15) (q := 1) C dX9_at_15 rfl rfl ?_
    obtain ⟨q103, eq103, h⟩ := bdS h
    refine y_callV (pc := 16) (As := [.int x1]) (rest := []) C (mX8_blockIn (fu := fu) eq103) vwX9_123 rfl (by decide) (rf_7_2 _ hx0) rfl rfl (Nat.le_of_ble_eq_true rfl) ⟨Nat.le_of_ble_eq_true rfl, Nat.le_of_ble_eq_true rfl⟩ ⟨Nat.le_refl _, Nat.le_refl _⟩ dX9_at_16 ?_
    show Y _ _ _ _ _ _ _ _ _ _ _ _ _ _ _ _ _ _ q103.2 19 [(0, .ref (ad x0)), (1, .int x1)] [.int q103.1]
    refine y_goto (pc := 19) (tgt := 24) C dX9_at_19 (by decide) ?_
    exact tX9_at_24 (fu := fu) C hx0 h
noncomputable def fX9_at (fu : Nat) (x0 : Nat) (x1 : Int32) (σ : St) : Option (Int32 × St) := if xk x0 = 7 then fX9_at_0 fu x0 x1 σ else none
theorem mX9_at {l : Launch} {D : va_G} {cA : ClassId} {bs fu : Nat} {ad : Nat → Nat} {x0 : Nat} {x1 : Int32} {σ : St} {q : Int32 × St} (h : fX9_at fu x0 x1 σ = some q) : Ct l D cA bs ad yX9_at cX9_at 2 (some .int) 1 21 [.ref (ad x0), .int x1] σ (some (.int q.1)) q.2 := by
  unfold fX9_at at h
  by_cases hx0 : xk x0 = 7
  case neg => rw [if_neg hx0] at h; cases h
  rw [if_pos hx0] at h
  exact Ct.of (by decide) (Nat.le_of_ble_eq_true rfl) (fun p e s m args below meth c C => tX9_at_0 (fu := fu) C hx0 h)
noncomputable def fX9_turn_0 (fu : Nat) (x0 : Nat) (x1 : Int32) (σ : St) : Option (Int32 × St) :=
  (fX8_hasBlock fu (rf x0 2) x1 σ).bind fun (q101 : Int32 × St) =>
  if q101.1 = 0 then
    some ((-101 : Int32), q101.2)
  else
    (fX8_kindOf fu (rf x0 2) x1 q101.2).bind fun (q103 : Int32 × St) =>
    if q103.1 = (4 : Int32) then
      some ((-103 : Int32), q103.2)
    else
      (fX8_turnOver fu (rf x0 2) x1 q103.2).bind fun (q105 : St) =>
      (fX8_aboveOf fu (rf x0 2) x1 q105).bind fun (q106 : Int32 × St) =>
      some (q106.1, q106.2)
set_option maxHeartbeats 4000000 in
set_option maxRecDepth 100000 in
theorem tX9_turn_0 {l : Launch} {D : va_G} {cA : ClassId} {bs : Nat} {ad : Nat → Nat} {p : Program} {e : Env} {s : State} {m : MethodId} {args : Array Value} {below : List Frame} {meth : Method} {c : Code} {fu : Nat} (C : Cx D cA bs ad RX9 cX9_turn 2 (some .int) p s m args meth c) {x0 : Nat} {x1 : Int32} {q : Int32 × St} (hx0 : xk x0 = 7) {σ : St} (h : fX9_turn_0 fu x0 x1 σ = some q) : Y D cA bs ad p l e (rmY 1 22) s m args below meth c 2 0 0 (QM D cA bs ad below args s (some (.int q.1)) q.2) σ 0 [(0, .ref (ad x0)), (1, .int x1)] [] := by
  unfold fX9_turn_0 at h
  refine y_aload_n (pc := 0) (q := 0) C dX9_turn_0 rfl rfl ?_
  refine y_getr (pc := 1) C faX9_26 rfl hx0 dX9_turn_1 ?_
  refine y_iload_n (pc := 4) (q := 1) C dX9_turn_4 rfl rfl ?_
  obtain ⟨q101, eq101, h⟩ := bdS h
  refine y_callV (pc := 5) (As := [.int x1]) (rest := []) C (mX8_hasBlock (fu := fu) eq101) vwX9_107 rfl (by decide) (rf_7_2 _ hx0) rfl rfl (Nat.le_of_ble_eq_true rfl) ⟨Nat.le_of_ble_eq_true rfl, Nat.le_of_ble_eq_true rfl⟩ ⟨Nat.le_refl _, Nat.le_refl _⟩ dX9_turn_5 ?_
  show Y _ _ _ _ _ _ _ _ _ _ _ _ _ _ _ _ _ _ q101.2 8 [(0, .ref (ad x0)), (1, .int x1)] [.int q101.1]
  refine y_if_ne (pc := 8) (tgt := 14) C dX9_turn_8 (by decide) (fun c102 => ?_) (fun c102 => ?_)
  · rw [if_neg c102] at h
    refine y_aload_n (pc := 14) (q := 0) C dX9_turn_14 rfl rfl ?_
    refine y_getr (pc := 15) C faX9_26 rfl hx0 dX9_turn_15 ?_
    refine y_iload_n (pc := 18) (q := 1) C dX9_turn_18 rfl rfl ?_
    obtain ⟨q103, eq103, h⟩ := bdS h
    refine y_callV (pc := 19) (As := [.int x1]) (rest := []) C (mX8_kindOf (fu := fu) eq103) vwX9_113 rfl (by decide) (rf_7_2 _ hx0) rfl rfl (Nat.le_of_ble_eq_true rfl) ⟨Nat.le_of_ble_eq_true rfl, Nat.le_of_ble_eq_true rfl⟩ ⟨Nat.le_refl _, Nat.le_refl _⟩ dX9_turn_19 ?_
    show Y _ _ _ _ _ _ _ _ _ _ _ _ _ _ _ _ _ _ q103.2 22 [(0, .ref (ad x0)), (1, .int x1)] [.int q103.1]
    refine y_iconst (pc := 22) (v := (4 : Int32)) C dX9_turn_22 (by decide) ?_
    refine y_icmp_ne (pc := 23) (tgt := 29) C dX9_turn_23 (by decide) (fun c104 => ?_) (fun c104 => ?_)
    · rw [if_neg c104] at h
      refine y_aload_n (pc := 29) (q := 0) C dX9_turn_29 rfl rfl ?_
      refine y_getr (pc := 30) C faX9_26 rfl hx0 dX9_turn_30 ?_
      refine y_iload_n (pc := 33) (q := 1) C dX9_turn_33 rfl rfl ?_
      obtain ⟨q105, eq105, h⟩ := bdS h
      refine y_callV (pc := 34) (As := [.int x1]) (rest := []) C (mX8_turnOver (fu := fu) eq105) vwX9_126 rfl (by decide) (rf_7_2 _ hx0) rfl rfl (Nat.le_of_ble_eq_true rfl) ⟨Nat.le_of_ble_eq_true rfl, Nat.le_of_ble_eq_true rfl⟩ ⟨Nat.le_refl _, Nat.le_refl _⟩ dX9_turn_34 ?_
      show Y _ _ _ _ _ _ _ _ _ _ _ _ _ _ _ _ _ _ q105 37 [(0, .ref (ad x0)), (1, .int x1)] []
      refine y_aload_n (pc := 37) (q := 0) C dX9_turn_37 rfl rfl ?_
      refine y_getr (pc := 38) C faX9_26 rfl hx0 dX9_turn_38 ?_
      refine y_iload_n (pc := 41) (q := 1) C dX9_turn_41 rfl rfl ?_
      obtain ⟨q106, eq106, h⟩ := bdS h
      refine y_callV (pc := 42) (As := [.int x1]) (rest := []) C (mX8_aboveOf (fu := fu) eq106) vwX9_130 rfl (by decide) (rf_7_2 _ hx0) rfl rfl (Nat.le_of_ble_eq_true rfl) ⟨Nat.le_of_ble_eq_true rfl, Nat.le_of_ble_eq_true rfl⟩ ⟨Nat.le_refl _, Nat.le_refl _⟩ dX9_turn_42 ?_
      show Y _ _ _ _ _ _ _ _ _ _ _ _ _ _ _ _ _ _ q106.2 45 [(0, .ref (ad x0)), (1, .int x1)] [.int q106.1]
      cases h
      exact y_iret (pc := 45) C dX9_turn_45
    · rw [if_pos c104] at h
      refine y_bipush (pc := 26) (v := (-103 : Int32)) C dX9_turn_26 (by decide) ?_
      cases h
      exact y_iret (pc := 28) C dX9_turn_28
  · rw [if_pos c102] at h
    refine y_bipush (pc := 11) (v := (-101 : Int32)) C dX9_turn_11 (by decide) ?_
    cases h
    exact y_iret (pc := 13) C dX9_turn_13
noncomputable def fX9_turn (fu : Nat) (x0 : Nat) (x1 : Int32) (σ : St) : Option (Int32 × St) := if xk x0 = 7 then fX9_turn_0 fu x0 x1 σ else none
theorem mX9_turn {l : Launch} {D : va_G} {cA : ClassId} {bs fu : Nat} {ad : Nat → Nat} {x0 : Nat} {x1 : Int32} {σ : St} {q : Int32 × St} (h : fX9_turn fu x0 x1 σ = some q) : Ct l D cA bs ad yX9_turn cX9_turn 2 (some .int) 1 22 [.ref (ad x0), .int x1] σ (some (.int q.1)) q.2 := by
  unfold fX9_turn at h
  by_cases hx0 : xk x0 = 7
  case neg => rw [if_neg hx0] at h; cases h
  rw [if_pos hx0] at h
  exact Ct.of (by decide) (Nat.le_of_ble_eq_true rfl) (fun p e s m args below meth c C => tX9_turn_0 (fu := fu) C hx0 h)
noncomputable def fX9_thief_0 (fu : Nat) (x0 : Nat) (x1 : Int32) (σ : St) : Option (Int32 × St) :=
  (fX8_hasBlock fu (rf x0 2) x1 σ).bind fun (q101 : Int32 × St) =>
  if q101.1 = 0 then
    some ((-101 : Int32), q101.2)
  else
    (fX8_size fu (rf x0 2) q101.2).bind fun (q103 : Int32 × St) =>
    if (2 : Int32) < q103.1 then
      (fX8_takeAway fu (rf x0 2) x1 q103.2).bind fun (q105 : St) =>
      (fX8_size fu (rf x0 2) q105).bind fun (q106 : Int32 × St) =>
      some (q106.1, q106.2)
    else
      some ((-103 : Int32), q103.2)
set_option maxHeartbeats 4000000 in
set_option maxRecDepth 100000 in
theorem tX9_thief_0 {l : Launch} {D : va_G} {cA : ClassId} {bs : Nat} {ad : Nat → Nat} {p : Program} {e : Env} {s : State} {m : MethodId} {args : Array Value} {below : List Frame} {meth : Method} {c : Code} {fu : Nat} (C : Cx D cA bs ad RX9 cX9_thief 2 (some .int) p s m args meth c) {x0 : Nat} {x1 : Int32} {q : Int32 × St} (hx0 : xk x0 = 7) {σ : St} (h : fX9_thief_0 fu x0 x1 σ = some q) : Y D cA bs ad p l e (rmY 2 44) s m args below meth c 2 0 0 (QM D cA bs ad below args s (some (.int q.1)) q.2) σ 0 [(0, .ref (ad x0)), (1, .int x1)] [] := by
  unfold fX9_thief_0 at h
  refine y_aload_n (pc := 0) (q := 0) C dX9_thief_0 rfl rfl ?_
  refine y_getr (pc := 1) C faX9_26 rfl hx0 dX9_thief_1 ?_
  refine y_iload_n (pc := 4) (q := 1) C dX9_thief_4 rfl rfl ?_
  obtain ⟨q101, eq101, h⟩ := bdS h
  refine y_callV (pc := 5) (As := [.int x1]) (rest := []) C (mX8_hasBlock (fu := fu) eq101) vwX9_107 rfl (by decide) (rf_7_2 _ hx0) rfl rfl (Nat.le_of_ble_eq_true rfl) ⟨Nat.le_of_ble_eq_true rfl, Nat.le_of_ble_eq_true rfl⟩ ⟨Nat.le_refl _, Nat.le_refl _⟩ dX9_thief_5 ?_
  show Y _ _ _ _ _ _ _ _ _ _ _ _ _ _ _ _ _ _ q101.2 8 [(0, .ref (ad x0)), (1, .int x1)] [.int q101.1]
  refine y_if_ne (pc := 8) (tgt := 14) C dX9_thief_8 (by decide) (fun c102 => ?_) (fun c102 => ?_)
  · rw [if_neg c102] at h
    refine y_aload_n (pc := 14) (q := 0) C dX9_thief_14 rfl rfl ?_
    refine y_getr (pc := 15) C faX9_26 rfl hx0 dX9_thief_15 ?_
    obtain ⟨q103, eq103, h⟩ := bdS h
    refine y_callV (pc := 18) (As := []) (rest := []) C (mX8_size (fu := fu) eq103) vwX9_133 rfl (by decide) (rf_7_2 _ hx0) rfl rfl (Nat.le_of_ble_eq_true rfl) ⟨Nat.le_of_ble_eq_true rfl, Nat.le_of_ble_eq_true rfl⟩ ⟨Nat.le_refl _, Nat.le_refl _⟩ dX9_thief_18 ?_
    show Y _ _ _ _ _ _ _ _ _ _ _ _ _ _ _ _ _ _ q103.2 21 [(0, .ref (ad x0)), (1, .int x1)] [.int q103.1]
    refine y_iconst (pc := 21) (v := (2 : Int32)) C dX9_thief_21 (by decide) ?_
    refine y_icmp_gt (pc := 22) (tgt := 28) C dX9_thief_22 (by decide) (fun c104 => ?_) (fun c104 => ?_)
    · rw [if_pos c104] at h
      refine y_aload_n (pc := 28) (q := 0) C dX9_thief_28 rfl rfl ?_
      refine y_getr (pc := 29) C faX9_26 rfl hx0 dX9_thief_29 ?_
      refine y_iload_n (pc := 32) (q := 1) C dX9_thief_32 rfl rfl ?_
      obtain ⟨q105, eq105, h⟩ := bdS h
      refine y_callV (pc := 33) (As := [.int x1]) (rest := []) C (mX8_takeAway (fu := fu) eq105) vwX9_136 rfl (by decide) (rf_7_2 _ hx0) rfl rfl (Nat.le_of_ble_eq_true rfl) ⟨Nat.le_of_ble_eq_true rfl, Nat.le_of_ble_eq_true rfl⟩ ⟨Nat.le_refl _, Nat.le_refl _⟩ dX9_thief_33 ?_
      show Y _ _ _ _ _ _ _ _ _ _ _ _ _ _ _ _ _ _ q105 36 [(0, .ref (ad x0)), (1, .int x1)] []
      refine y_aload_n (pc := 36) (q := 0) C dX9_thief_36 rfl rfl ?_
      refine y_getr (pc := 37) C faX9_26 rfl hx0 dX9_thief_37 ?_
      obtain ⟨q106, eq106, h⟩ := bdS h
      refine y_callV (pc := 40) (As := []) (rest := []) C (mX8_size (fu := fu) eq106) vwX9_133 rfl (by decide) (rf_7_2 _ hx0) rfl rfl (Nat.le_of_ble_eq_true rfl) ⟨Nat.le_of_ble_eq_true rfl, Nat.le_of_ble_eq_true rfl⟩ ⟨Nat.le_refl _, Nat.le_refl _⟩ dX9_thief_40 ?_
      show Y _ _ _ _ _ _ _ _ _ _ _ _ _ _ _ _ _ _ q106.2 43 [(0, .ref (ad x0)), (1, .int x1)] [.int q106.1]
      cases h
      exact y_iret (pc := 43) C dX9_thief_43
    · rw [if_neg c104] at h
      refine y_bipush (pc := 25) (v := (-103 : Int32)) C dX9_thief_25 (by decide) ?_
      cases h
      exact y_iret (pc := 27) C dX9_thief_27
  · rw [if_pos c102] at h
    refine y_bipush (pc := 11) (v := (-101 : Int32)) C dX9_thief_11 (by decide) ?_
    cases h
    exact y_iret (pc := 13) C dX9_thief_13
noncomputable def fX9_thief (fu : Nat) (x0 : Nat) (x1 : Int32) (σ : St) : Option (Int32 × St) := if xk x0 = 7 then fX9_thief_0 fu x0 x1 σ else none
theorem mX9_thief {l : Launch} {D : va_G} {cA : ClassId} {bs fu : Nat} {ad : Nat → Nat} {x0 : Nat} {x1 : Int32} {σ : St} {q : Int32 × St} (h : fX9_thief fu x0 x1 σ = some q) : Ct l D cA bs ad yX9_thief cX9_thief 2 (some .int) 2 44 [.ref (ad x0), .int x1] σ (some (.int q.1)) q.2 := by
  unfold fX9_thief at h
  by_cases hx0 : xk x0 = 7
  case neg => rw [if_neg hx0] at h; cases h
  rw [if_pos hx0] at h
  exact Ct.of (by decide) (Nat.le_of_ble_eq_true rfl) (fun p e s m args below meth c C => tX9_thief_0 (fu := fu) C hx0 h)
noncomputable def fX9_isTooShort_16 (fu : Nat) (x0 : Nat) (s0 : Int32) (σ : St) : Option (Int32 × St) :=
  if s0 = 0 ∨ s0 = 1 then some (s0, σ) else none
set_option maxHeartbeats 4000000 in
set_option maxRecDepth 100000 in
theorem tX9_isTooShort_16 {l : Launch} {D : va_G} {cA : ClassId} {bs : Nat} {ad : Nat → Nat} {p : Program} {e : Env} {s : State} {m : MethodId} {args : Array Value} {below : List Frame} {meth : Method} {c : Code} {fu : Nat} (C : Cx D cA bs ad RX9 cX9_isTooShort 1 (some .boolean) p s m args meth c) {x0 : Nat} {s0 : Int32} {q : Int32 × St} (hx0 : xk x0 = 7) {σ : St} (h : fX9_isTooShort_16 fu x0 s0 σ = some q) : Y D cA bs ad p l e (rmY 1 20) s m args below meth c 1 0 0 (QM D cA bs ad below args s (some (.int q.1)) q.2) σ 16 [(0, .ref (ad x0))] [.int s0] := by
  unfold fX9_isTooShort_16 at h
  by_cases c101 : s0 = 0 ∨ s0 = 1
  case neg => rw [if_neg c101] at h; cases h
  rw [if_pos c101] at h
  cases h
  exact y_zret (pc := 16) C c101 dX9_isTooShort_16
noncomputable def fX9_isTooShort_0 (fu : Nat) (x0 : Nat) (σ : St) : Option (Int32 × St) :=
  (fX8_size fu (rf x0 2) σ).bind fun (q101 : Int32 × St) =>
  if (2 : Int32) ≤ q101.1 then
    fX9_isTooShort_16 fu x0 (0 : Int32) q101.2
  else
    fX9_isTooShort_16 fu x0 (1 : Int32) q101.2
set_option maxHeartbeats 4000000 in
set_option maxRecDepth 100000 in
theorem tX9_isTooShort_0 {l : Launch} {D : va_G} {cA : ClassId} {bs : Nat} {ad : Nat → Nat} {p : Program} {e : Env} {s : State} {m : MethodId} {args : Array Value} {below : List Frame} {meth : Method} {c : Code} {fu : Nat} (C : Cx D cA bs ad RX9 cX9_isTooShort 1 (some .boolean) p s m args meth c) {x0 : Nat} {q : Int32 × St} (hx0 : xk x0 = 7) {σ : St} (h : fX9_isTooShort_0 fu x0 σ = some q) : Y D cA bs ad p l e (rmY 1 20) s m args below meth c 1 0 0 (QM D cA bs ad below args s (some (.int q.1)) q.2) σ 0 [(0, .ref (ad x0))] [] := by
  unfold fX9_isTooShort_0 at h
  refine y_aload_n (pc := 0) (q := 0) C dX9_isTooShort_0 rfl rfl ?_
  refine y_getr (pc := 1) C faX9_26 rfl hx0 dX9_isTooShort_1 ?_
  obtain ⟨q101, eq101, h⟩ := bdS h
  refine y_callV (pc := 4) (As := []) (rest := []) C (mX8_size (fu := fu) eq101) vwX9_133 rfl (by decide) (rf_7_2 _ hx0) rfl rfl (Nat.le_of_ble_eq_true rfl) ⟨Nat.le_of_ble_eq_true rfl, Nat.le_of_ble_eq_true rfl⟩ ⟨Nat.le_refl _, Nat.le_refl _⟩ dX9_isTooShort_4 ?_
  show Y _ _ _ _ _ _ _ _ _ _ _ _ _ _ _ _ _ _ q101.2 7 [(0, .ref (ad x0))] [.int q101.1]
  refine y_iconst (pc := 7) (v := (2 : Int32)) C dX9_isTooShort_7 (by decide) ?_
  refine y_icmp_ge (pc := 8) (tgt := 15) C dX9_isTooShort_8 (by decide) (fun c102 => ?_) (fun c102 => ?_)
  · rw [if_pos c102] at h
    refine y_iconst (pc := 15) (v := (0 : Int32)) C dX9_isTooShort_15 (by decide) ?_
    exact tX9_isTooShort_16 (fu := fu) C hx0 h
  · rw [if_neg c102] at h
    refine y_iconst (pc := 11) (v := (1 : Int32)) C dX9_isTooShort_11 (by decide) ?_
    refine y_goto (pc := 12) (tgt := 16) C dX9_isTooShort_12 (by decide) ?_
    exact tX9_isTooShort_16 (fu := fu) C hx0 h
noncomputable def fX9_isTooShort (fu : Nat) (x0 : Nat) (σ : St) : Option (Int32 × St) := if xk x0 = 7 then fX9_isTooShort_0 fu x0 σ else none
theorem mX9_isTooShort {l : Launch} {D : va_G} {cA : ClassId} {bs fu : Nat} {ad : Nat → Nat} {x0 : Nat} {σ : St} {q : Int32 × St} (h : fX9_isTooShort fu x0 σ = some q) : Ct l D cA bs ad yX9_isTooShort cX9_isTooShort 1 (some .boolean) 1 20 [.ref (ad x0)] σ (some (.int q.1)) q.2 := by
  unfold fX9_isTooShort at h
  by_cases hx0 : xk x0 = 7
  case neg => rw [if_neg hx0] at h; cases h
  rw [if_pos hx0] at h
  exact Ct.of (by decide) (Nat.le_of_ble_eq_true rfl) (fun p e s m args below meth c C => tX9_isTooShort_0 (fu := fu) C hx0 h)
noncomputable def fX9_lay_0 (fu : Nat) (x0 : Nat) (x1 : Int32) (σ : St) : Option (Int32 × St) :=
  (fX9_isTooShort fu x0 σ).bind fun (q101 : Int32 × St) =>
  if q101.1 = 0 then
    (fX8_size fu (rf x0 2) q101.2).bind fun (q103 : Int32 × St) =>
    (fX6_read fu (rf x0 4) x1 q103.1 q103.2).bind fun (q104 : Int32 × St) =>
    if q104.1 = 0 then
      some ((-102 : Int32), q104.2)
    else
      (fX4_allows fu (rf x0 1) (rf x0 2) (rf x0 4) q104.2).bind fun (q106 : Int32 × St) =>
      if q106.1 = 0 then
        some ((-103 : Int32), q106.2)
      else
        (fX4_turns fu (rf x0 1) q106.2).bind fun (q108 : Int32 × St) =>
        (fX8_putDown fu (rf x0 2) (rf x0 4) q108.1 q108.2).bind fun (q109 : St) =>
        (fX8_worstWear fu (rf x0 2) q109).bind fun (q110 : Int32 × St) =>
        some (q110.1, q110.2)
  else
    some ((-103 : Int32), q101.2)
set_option maxHeartbeats 4000000 in
set_option maxRecDepth 100000 in
theorem tX9_lay_0 {l : Launch} {D : va_G} {cA : ClassId} {bs : Nat} {ad : Nat → Nat} {p : Program} {e : Env} {s : State} {m : MethodId} {args : Array Value} {below : List Frame} {meth : Method} {c : Code} {fu : Nat} (C : Cx D cA bs ad RX9 cX9_lay 2 (some .int) p s m args meth c) {x0 : Nat} {x1 : Int32} {q : Int32 × St} (hx0 : xk x0 = 7) {σ : St} (h : fX9_lay_0 fu x0 x1 σ = some q) : Y D cA bs ad p l e (rmY 4 90) s m args below meth c 2 0 0 (QM D cA bs ad below args s (some (.int q.1)) q.2) σ 0 [(0, .ref (ad x0)), (1, .int x1)] [] := by
  unfold fX9_lay_0 at h
  refine y_aload_n (pc := 0) (q := 0) C dX9_lay_0 rfl rfl ?_
  obtain ⟨q101, eq101, h⟩ := bdS h
  refine y_callV (pc := 1) (As := []) (rest := []) C (mX9_isTooShort (fu := fu) eq101) vwX9_139 rfl (by decide) hx0 rfl rfl (Nat.le_of_ble_eq_true rfl) ⟨Nat.le_of_ble_eq_true rfl, Nat.le_of_ble_eq_true rfl⟩ ⟨Nat.le_refl _, Nat.le_refl _⟩ dX9_lay_1 ?_
  show Y _ _ _ _ _ _ _ _ _ _ _ _ _ _ _ _ _ _ q101.2 4 [(0, .ref (ad x0)), (1, .int x1)] [.int q101.1]
  refine y_if_eq (pc := 4) (tgt := 10) C dX9_lay_4 (by decide) (fun c102 => ?_) (fun c102 => ?_)
  · rw [if_pos c102] at h
    refine y_aload_n (pc := 10) (q := 0) C dX9_lay_10 rfl rfl ?_
    refine y_getr (pc := 11) C faX9_36 rfl hx0 dX9_lay_11 ?_
    refine y_iload_n (pc := 14) (q := 1) C dX9_lay_14 rfl rfl ?_
    refine y_aload_n (pc := 15) (q := 0) C dX9_lay_15 rfl rfl ?_
    refine y_getr (pc := 16) C faX9_26 rfl hx0 dX9_lay_16 ?_
    obtain ⟨q103, eq103, h⟩ := bdS h
    refine y_callV (pc := 19) (As := []) (rest := [.int x1, .ref (ad (rf x0 4))]) C (mX8_size (fu := fu) eq103) vwX9_133 rfl (by decide) (rf_7_2 _ hx0) rfl rfl (Nat.le_of_ble_eq_true rfl) ⟨Nat.le_of_ble_eq_true rfl, Nat.le_of_ble_eq_true rfl⟩ ⟨Nat.le_refl _, Nat.le_refl _⟩ dX9_lay_19 ?_
    show Y _ _ _ _ _ _ _ _ _ _ _ _ _ _ _ _ _ _ q103.2 22 [(0, .ref (ad x0)), (1, .int x1)] [.int q103.1, .int x1, .ref (ad (rf x0 4))]
    obtain ⟨q104, eq104, h⟩ := bdS h
    refine y_callV (pc := 22) (As := [.int x1, .int q103.1]) (rest := []) C (mX6_read (fu := fu) eq104) vwX9_142 rfl (by decide) (rf_7_4 _ hx0) rfl rfl (Nat.le_of_ble_eq_true rfl) ⟨Nat.le_of_ble_eq_true rfl, Nat.le_of_ble_eq_true rfl⟩ ⟨Nat.le_refl _, Nat.le_refl _⟩ dX9_lay_22 ?_
    show Y _ _ _ _ _ _ _ _ _ _ _ _ _ _ _ _ _ _ q104.2 25 [(0, .ref (ad x0)), (1, .int x1)] [.int q104.1]
    refine y_if_ne (pc := 25) (tgt := 31) C dX9_lay_25 (by decide) (fun c105 => ?_) (fun c105 => ?_)
    · rw [if_neg c105] at h
      refine y_aload_n (pc := 31) (q := 0) C dX9_lay_31 rfl rfl ?_
      refine y_getr (pc := 32) C faX9_19 rfl hx0 dX9_lay_32 ?_
      refine y_aload_n (pc := 35) (q := 0) C dX9_lay_35 rfl rfl ?_
      refine y_getr (pc := 36) C faX9_26 rfl hx0 dX9_lay_36 ?_
      refine y_aload_n (pc := 39) (q := 0) C dX9_lay_39 rfl rfl ?_
      refine y_getr (pc := 40) C faX9_36 rfl hx0 dX9_lay_40 ?_
      obtain ⟨q106, eq106, h⟩ := bdS h
      refine y_callV (pc := 43) (As := [.ref (ad (rf x0 2)), .ref (ad (rf x0 4))]) (rest := []) C (mX4_allows (fu := fu) eq106) vwX9_145 rfl (by decide) (rf_7_1 _ hx0) rfl rfl (Nat.le_of_ble_eq_true rfl) ⟨Nat.le_of_ble_eq_true rfl, Nat.le_of_ble_eq_true rfl⟩ ⟨Nat.le_refl _, Nat.le_refl _⟩ dX9_lay_43 ?_
      show Y _ _ _ _ _ _ _ _ _ _ _ _ _ _ _ _ _ _ q106.2 46 [(0, .ref (ad x0)), (1, .int x1)] [.int q106.1]
      refine y_if_ne (pc := 46) (tgt := 52) C dX9_lay_46 (by decide) (fun c107 => ?_) (fun c107 => ?_)
      · rw [if_neg c107] at h
        refine y_aload_n (pc := 52) (q := 0) C dX9_lay_52 rfl rfl ?_
        refine y_getr (pc := 53) C faX9_26 rfl hx0 dX9_lay_53 ?_
        refine y_aload_n (pc := 56) (q := 0) C dX9_lay_56 rfl rfl ?_
        refine y_getr (pc := 57) C faX9_36 rfl hx0 dX9_lay_57 ?_
        refine y_aload_n (pc := 60) (q := 0) C dX9_lay_60 rfl rfl ?_
        refine y_getr (pc := 61) C faX9_19 rfl hx0 dX9_lay_61 ?_
        obtain ⟨q108, eq108, h⟩ := bdS h
        refine y_callV (pc := 64) (As := []) (rest := [.ref (ad (rf x0 4)), .ref (ad (rf x0 2))]) C (mX4_turns (fu := fu) eq108) vwX9_149 rfl (by decide) (rf_7_1 _ hx0) rfl rfl (Nat.le_of_ble_eq_true rfl) ⟨Nat.le_of_ble_eq_true rfl, Nat.le_of_ble_eq_true rfl⟩ ⟨Nat.le_refl _, Nat.le_refl _⟩ dX9_lay_64 ?_
        show Y _ _ _ _ _ _ _ _ _ _ _ _ _ _ _ _ _ _ q108.2 67 [(0, .ref (ad x0)), (1, .int x1)] [.int q108.1, .ref (ad (rf x0 4)), .ref (ad (rf x0 2))]
        obtain ⟨q109, eq109, h⟩ := bdS h
        refine y_callV (pc := 67) (As := [.ref (ad (rf x0 4)), .int q108.1]) (rest := []) C (mX8_putDown (fu := fu) eq109) vwX9_152 rfl (by decide) (rf_7_2 _ hx0) rfl rfl (Nat.le_of_ble_eq_true rfl) ⟨Nat.le_of_ble_eq_true rfl, Nat.le_of_ble_eq_true rfl⟩ ⟨Nat.le_refl _, Nat.le_refl _⟩ dX9_lay_67 ?_
        show Y _ _ _ _ _ _ _ _ _ _ _ _ _ _ _ _ _ _ q109 70 [(0, .ref (ad x0)), (1, .int x1)] []
        refine y_aload_n (pc := 70) (q := 0) C dX9_lay_70 rfl rfl ?_
        refine y_getr (pc := 71) C faX9_26 rfl hx0 dX9_lay_71 ?_
        obtain ⟨q110, eq110, h⟩ := bdS h
        refine y_callV (pc := 74) (As := []) (rest := []) C (mX8_worstWear (fu := fu) eq110) vwX9_156 rfl (by decide) (rf_7_2 _ hx0) rfl rfl (Nat.le_of_ble_eq_true rfl) ⟨Nat.le_of_ble_eq_true rfl, Nat.le_of_ble_eq_true rfl⟩ ⟨Nat.le_refl _, Nat.le_refl _⟩ dX9_lay_74 ?_
        show Y _ _ _ _ _ _ _ _ _ _ _ _ _ _ _ _ _ _ q110.2 77 [(0, .ref (ad x0)), (1, .int x1)] [.int q110.1]
        cases h
        exact y_iret (pc := 77) C dX9_lay_77
      · rw [if_pos c107] at h
        refine y_bipush (pc := 49) (v := (-103 : Int32)) C dX9_lay_49 (by decide) ?_
        cases h
        exact y_iret (pc := 51) C dX9_lay_51
    · rw [if_pos c105] at h
      refine y_bipush (pc := 28) (v := (-102 : Int32)) C dX9_lay_28 (by decide) ?_
      cases h
      exact y_iret (pc := 30) C dX9_lay_30
  · rw [if_neg c102] at h
    refine y_bipush (pc := 7) (v := (-103 : Int32)) C dX9_lay_7 (by decide) ?_
    cases h
    exact y_iret (pc := 9) C dX9_lay_9
noncomputable def fX9_lay (fu : Nat) (x0 : Nat) (x1 : Int32) (σ : St) : Option (Int32 × St) := if xk x0 = 7 then fX9_lay_0 fu x0 x1 σ else none
theorem mX9_lay {l : Launch} {D : va_G} {cA : ClassId} {bs fu : Nat} {ad : Nat → Nat} {x0 : Nat} {x1 : Int32} {σ : St} {q : Int32 × St} (h : fX9_lay fu x0 x1 σ = some q) : Ct l D cA bs ad yX9_lay cX9_lay 2 (some .int) 4 90 [.ref (ad x0), .int x1] σ (some (.int q.1)) q.2 := by
  unfold fX9_lay at h
  by_cases hx0 : xk x0 = 7
  case neg => rw [if_neg hx0] at h; cases h
  rw [if_pos hx0] at h
  exact Ct.of (by decide) (Nat.le_of_ble_eq_true rfl) (fun p e s m args below meth c C => tX9_lay_0 (fu := fu) C hx0 h)
noncomputable def fX9_lawful_54 (fu : Nat) (x0 : Nat) (x1 : Int32) (s0 : Int32) (σ : St) : Option (Int32 × St) :=
  some (s0, σ)
set_option maxHeartbeats 4000000 in
set_option maxRecDepth 100000 in
theorem tX9_lawful_54 {l : Launch} {D : va_G} {cA : ClassId} {bs : Nat} {ad : Nat → Nat} {p : Program} {e : Env} {s : State} {m : MethodId} {args : Array Value} {below : List Frame} {meth : Method} {c : Code} {fu : Nat} (C : Cx D cA bs ad RX9 cX9_lawful 2 (some .int) p s m args meth c) {x0 : Nat} {x1 : Int32} {s0 : Int32} {q : Int32 × St} (hx0 : xk x0 = 7) {σ : St} (h : fX9_lawful_54 fu x0 x1 s0 σ = some q) : Y D cA bs ad p l e (rmY 4 90) s m args below meth c 2 0 0 (QM D cA bs ad below args s (some (.int q.1)) q.2) σ 54 [(0, .ref (ad x0)), (1, .int x1)] [.int s0] := by
  unfold fX9_lawful_54 at h
  cases h
  exact y_iret (pc := 54) C dX9_lawful_54
noncomputable def fX9_lawful_0 (fu : Nat) (x0 : Nat) (x1 : Int32) (σ : St) : Option (Int32 × St) :=
  (fX9_isTooShort fu x0 σ).bind fun (q101 : Int32 × St) =>
  if q101.1 = 0 then
    (fX8_size fu (rf x0 2) q101.2).bind fun (q103 : Int32 × St) =>
    (fX6_read fu (rf x0 4) x1 q103.1 q103.2).bind fun (q104 : Int32 × St) =>
    if q104.1 = 0 then
      some ((-102 : Int32), q104.2)
    else
      (fX4_allows fu (rf x0 1) (rf x0 2) (rf x0 4) q104.2).bind fun (q106 : Int32 × St) =>
      if q106.1 = 0 then
        fX9_lawful_54 fu x0 x1 (0 : Int32) q106.2
      else
        fX9_lawful_54 fu x0 x1 (1 : Int32) q106.2
  else
    some ((-103 : Int32), q101.2)
set_option maxHeartbeats 4000000 in
set_option maxRecDepth 100000 in
theorem tX9_lawful_0 {l : Launch} {D : va_G} {cA : ClassId} {bs : Nat} {ad : Nat → Nat} {p : Program} {e : Env} {s : State} {m : MethodId} {args : Array Value} {below : List Frame} {meth : Method} {c : Code} {fu : Nat} (C : Cx D cA bs ad RX9 cX9_lawful 2 (some .int) p s m args meth c) {x0 : Nat} {x1 : Int32} {q : Int32 × St} (hx0 : xk x0 = 7) {σ : St} (h : fX9_lawful_0 fu x0 x1 σ = some q) : Y D cA bs ad p l e (rmY 4 90) s m args below meth c 2 0 0 (QM D cA bs ad below args s (some (.int q.1)) q.2) σ 0 [(0, .ref (ad x0)), (1, .int x1)] [] := by
  unfold fX9_lawful_0 at h
  refine y_aload_n (pc := 0) (q := 0) C dX9_lawful_0 rfl rfl ?_
  obtain ⟨q101, eq101, h⟩ := bdS h
  refine y_callV (pc := 1) (As := []) (rest := []) C (mX9_isTooShort (fu := fu) eq101) vwX9_139 rfl (by decide) hx0 rfl rfl (Nat.le_of_ble_eq_true rfl) ⟨Nat.le_of_ble_eq_true rfl, Nat.le_of_ble_eq_true rfl⟩ ⟨Nat.le_refl _, Nat.le_refl _⟩ dX9_lawful_1 ?_
  show Y _ _ _ _ _ _ _ _ _ _ _ _ _ _ _ _ _ _ q101.2 4 [(0, .ref (ad x0)), (1, .int x1)] [.int q101.1]
  refine y_if_eq (pc := 4) (tgt := 10) C dX9_lawful_4 (by decide) (fun c102 => ?_) (fun c102 => ?_)
  · rw [if_pos c102] at h
    refine y_aload_n (pc := 10) (q := 0) C dX9_lawful_10 rfl rfl ?_
    refine y_getr (pc := 11) C faX9_36 rfl hx0 dX9_lawful_11 ?_
    refine y_iload_n (pc := 14) (q := 1) C dX9_lawful_14 rfl rfl ?_
    refine y_aload_n (pc := 15) (q := 0) C dX9_lawful_15 rfl rfl ?_
    refine y_getr (pc := 16) C faX9_26 rfl hx0 dX9_lawful_16 ?_
    obtain ⟨q103, eq103, h⟩ := bdS h
    refine y_callV (pc := 19) (As := []) (rest := [.int x1, .ref (ad (rf x0 4))]) C (mX8_size (fu := fu) eq103) vwX9_133 rfl (by decide) (rf_7_2 _ hx0) rfl rfl (Nat.le_of_ble_eq_true rfl) ⟨Nat.le_of_ble_eq_true rfl, Nat.le_of_ble_eq_true rfl⟩ ⟨Nat.le_refl _, Nat.le_refl _⟩ dX9_lawful_19 ?_
    show Y _ _ _ _ _ _ _ _ _ _ _ _ _ _ _ _ _ _ q103.2 22 [(0, .ref (ad x0)), (1, .int x1)] [.int q103.1, .int x1, .ref (ad (rf x0 4))]
    obtain ⟨q104, eq104, h⟩ := bdS h
    refine y_callV (pc := 22) (As := [.int x1, .int q103.1]) (rest := []) C (mX6_read (fu := fu) eq104) vwX9_142 rfl (by decide) (rf_7_4 _ hx0) rfl rfl (Nat.le_of_ble_eq_true rfl) ⟨Nat.le_of_ble_eq_true rfl, Nat.le_of_ble_eq_true rfl⟩ ⟨Nat.le_refl _, Nat.le_refl _⟩ dX9_lawful_22 ?_
    show Y _ _ _ _ _ _ _ _ _ _ _ _ _ _ _ _ _ _ q104.2 25 [(0, .ref (ad x0)), (1, .int x1)] [.int q104.1]
    refine y_if_ne (pc := 25) (tgt := 31) C dX9_lawful_25 (by decide) (fun c105 => ?_) (fun c105 => ?_)
    · rw [if_neg c105] at h
      refine y_aload_n (pc := 31) (q := 0) C dX9_lawful_31 rfl rfl ?_
      refine y_getr (pc := 32) C faX9_19 rfl hx0 dX9_lawful_32 ?_
      refine y_aload_n (pc := 35) (q := 0) C dX9_lawful_35 rfl rfl ?_
      refine y_getr (pc := 36) C faX9_26 rfl hx0 dX9_lawful_36 ?_
      refine y_aload_n (pc := 39) (q := 0) C dX9_lawful_39 rfl rfl ?_
      refine y_getr (pc := 40) C faX9_36 rfl hx0 dX9_lawful_40 ?_
      obtain ⟨q106, eq106, h⟩ := bdS h
      refine y_callV (pc := 43) (As := [.ref (ad (rf x0 2)), .ref (ad (rf x0 4))]) (rest := []) C (mX4_allows (fu := fu) eq106) vwX9_145 rfl (by decide) (rf_7_1 _ hx0) rfl rfl (Nat.le_of_ble_eq_true rfl) ⟨Nat.le_of_ble_eq_true rfl, Nat.le_of_ble_eq_true rfl⟩ ⟨Nat.le_refl _, Nat.le_refl _⟩ dX9_lawful_43 ?_
      show Y _ _ _ _ _ _ _ _ _ _ _ _ _ _ _ _ _ _ q106.2 46 [(0, .ref (ad x0)), (1, .int x1)] [.int q106.1]
      refine y_if_eq (pc := 46) (tgt := 53) C dX9_lawful_46 (by decide) (fun c107 => ?_) (fun c107 => ?_)
      · rw [if_pos c107] at h
        refine y_iconst (pc := 53) (v := (0 : Int32)) C dX9_lawful_53 (by decide) ?_
        exact tX9_lawful_54 (fu := fu) C hx0 h
      · rw [if_neg c107] at h
        refine y_iconst (pc := 49) (v := (1 : Int32)) C dX9_lawful_49 (by decide) ?_
        refine y_goto (pc := 50) (tgt := 54) C dX9_lawful_50 (by decide) ?_
        exact tX9_lawful_54 (fu := fu) C hx0 h
    · rw [if_pos c105] at h
      refine y_bipush (pc := 28) (v := (-102 : Int32)) C dX9_lawful_28 (by decide) ?_
      cases h
      exact y_iret (pc := 30) C dX9_lawful_30
  · rw [if_neg c102] at h
    refine y_bipush (pc := 7) (v := (-103 : Int32)) C dX9_lawful_7 (by decide) ?_
    cases h
    exact y_iret (pc := 9) C dX9_lawful_9
noncomputable def fX9_lawful (fu : Nat) (x0 : Nat) (x1 : Int32) (σ : St) : Option (Int32 × St) := if xk x0 = 7 then fX9_lawful_0 fu x0 x1 σ else none
theorem mX9_lawful {l : Launch} {D : va_G} {cA : ClassId} {bs fu : Nat} {ad : Nat → Nat} {x0 : Nat} {x1 : Int32} {σ : St} {q : Int32 × St} (h : fX9_lawful fu x0 x1 σ = some q) : Ct l D cA bs ad yX9_lawful cX9_lawful 2 (some .int) 4 90 [.ref (ad x0), .int x1] σ (some (.int q.1)) q.2 := by
  unfold fX9_lawful at h
  by_cases hx0 : xk x0 = 7
  case neg => rw [if_neg hx0] at h; cases h
  rw [if_pos hx0] at h
  exact Ct.of (by decide) (Nat.le_of_ble_eq_true rfl) (fun p e s m args below meth c C => tX9_lawful_0 (fu := fu) C hx0 h)
noncomputable def fX9_years_25b (fu : Nat) (k25 : Int32 → St → Option (Int32 × St)) (x0 : Nat) (x1 : Int32) (x2 : Int32) (σ : St) : Option (Int32 × St) :=
  if x1 ≤ x2 then
    (fX8_worstWear fu (rf x0 2) σ).bind fun (q102 : Int32 × St) =>
    some (q102.1, q102.2)
  else
    (fX8_wearForAYear fu (rf x0 2) σ).bind fun (q103 : St) =>
    nm (x2 + (1 : Int32)) fun (y104 : Int32) =>
    k25 y104 q103
set_option maxHeartbeats 4000000 in
set_option maxRecDepth 100000 in
theorem tX9_years_25b {l : Launch} {D : va_G} {cA : ClassId} {bs : Nat} {ad : Nat → Nat} {p : Program} {e : Env} {s : State} {m : MethodId} {args : Array Value} {below : List Frame} {meth : Method} {c : Code} {fu : Nat} (C : Cx D cA bs ad RX9 cX9_years 3 (some .int) p s m args meth c) {k25 : Int32 → St → Option (Int32 × St)} {x0 : Nat} {x1 : Int32} {x2 : Int32} {q : Int32 × St} (hx0 : xk x0 = 7) (hk25 : ∀ (x2 : Int32) (σ : St), k25 x2 σ = some q → Y D cA bs ad p l e (rmY 3 67) s m args below meth c 3 0 0 (QM D cA bs ad below args s (some (.int q.1)) q.2) σ 25 [(0, .ref (ad x0)), (1, .int x1), (2, .int x2)] []) {σ : St} (h : fX9_years_25b fu k25 x0 x1 x2 σ = some q) : Y D cA bs ad p l e (rmY 3 67) s m args below meth c 3 0 0 (QM D cA bs ad below args s (some (.int q.1)) q.2) σ 25 [(0, .ref (ad x0)), (1, .int x1), (2, .int x2)] [] := by
  unfold fX9_years_25b at h
  refine y_iload_n (pc := 25) (q := 2) C dX9_years_25 rfl rfl ?_
  refine y_iload_n (pc := 26) (q := 1) C dX9_years_26 rfl rfl ?_
  refine y_icmp_ge (pc := 27) (tgt := 43) C dX9_years_27 (by decide) (fun c101 => ?_) (fun c101 => ?_)
  · rw [if_pos c101] at h
    refine y_aload_n (pc := 43) (q := 0) C dX9_years_43 rfl rfl ?_
    refine y_getr (pc := 44) C faX9_26 rfl hx0 dX9_years_44 ?_
    obtain ⟨q102, eq102, h⟩ := bdS h
    refine y_callV (pc := 47) (As := []) (rest := []) C (mX8_worstWear (fu := fu) eq102) vwX9_156 rfl (by decide) (rf_7_2 _ hx0) rfl rfl (Nat.le_of_ble_eq_true rfl) ⟨Nat.le_of_ble_eq_true rfl, Nat.le_of_ble_eq_true rfl⟩ ⟨Nat.le_refl _, Nat.le_refl _⟩ dX9_years_47 ?_
    show Y _ _ _ _ _ _ _ _ _ _ _ _ _ _ _ _ _ _ q102.2 50 [(0, .ref (ad x0)), (1, .int x1), (2, .int x2)] [.int q102.1]
    cases h
    exact y_iret (pc := 50) C dX9_years_50
  · rw [if_neg c101] at h
    refine y_aload_n (pc := 30) (q := 0) C dX9_years_30 rfl rfl ?_
    refine y_getr (pc := 31) C faX9_26 rfl hx0 dX9_years_31 ?_
    obtain ⟨q103, eq103, h⟩ := bdS h
    refine y_callV (pc := 34) (As := []) (rest := []) C (mX8_wearForAYear (fu := fu) eq103) vwX9_159 rfl (by decide) (rf_7_2 _ hx0) rfl rfl (Nat.le_of_ble_eq_true rfl) ⟨Nat.le_of_ble_eq_true rfl, Nat.le_of_ble_eq_true rfl⟩ ⟨Nat.le_refl _, Nat.le_refl _⟩ dX9_years_34 ?_
    show Y _ _ _ _ _ _ _ _ _ _ _ _ _ _ _ _ _ _ q103 37 [(0, .ref (ad x0)), (1, .int x1), (2, .int x2)] []
    obtain ⟨y104, ey104, h⟩ := nmS h
    refine y_iinc (pc := 37) (v := y104) (k := 2) (lv' := [(2, .int y104), (0, .ref (ad x0)), (1, .int x1)]) C dX9_years_37 rfl (by rw [ey104]; rfl) (by decide) rfl ?_
    refine y_goto (pc := 40) (tgt := 25) C dX9_years_40 (by decide) ?_
    refine y_sub [1, 2, 0] (lv' := [(0, .ref (ad x0)), (1, .int x1), (2, .int y104)]) rfl ?_
    exact hk25 _ _ h
noncomputable def fX9_years_25 (fu : Nat) (x0 : Nat) (x1 : Int32) : Nat → Int32 → St → Option (Int32 × St) := lp (fun k25 => fX9_years_25b fu k25 x0 x1) (fun _ _ => none)
set_option maxHeartbeats 4000000 in
theorem tX9_years_25 {l : Launch} {D : va_G} {cA : ClassId} {bs : Nat} {ad : Nat → Nat} {p : Program} {e : Env} {s : State} {m : MethodId} {args : Array Value} {below : List Frame} {meth : Method} {c : Code} {fu : Nat} (C : Cx D cA bs ad RX9 cX9_years 3 (some .int) p s m args meth c) {x0 : Nat} {x1 : Int32} {q : Int32 × St} (hx0 : xk x0 = 7)  : ∀ (n : Nat) (x2 : Int32) (σ : St), fX9_years_25 fu  x0 x1 n x2 σ = some q → Y D cA bs ad p l e (rmY 3 67) s m args below meth c 3 0 0 (QM D cA bs ad below args s (some (.int q.1)) q.2) σ 25 [(0, .ref (ad x0)), (1, .int x1), (2, .int x2)] [] := by
  intro n
  induction n with
  | zero => intro x2 σ h; cases h
  | succ n ih => intro x2 σ h; exact tX9_years_25b (fu := fu) C hx0 ih h
noncomputable def fX9_years_0 (fu : Nat) (x0 : Nat) (x1 : Int32) (σ : St) : Option (Int32 × St) :=
  (fX9_isTooShort fu x0 σ).bind fun (q101 : Int32 × St) =>
  if q101.1 = 0 then
    (fX9_isWithin fu x1 (1 : Int32) (99 : Int32) q101.2).bind fun (q103 : Int32 × St) =>
    if q103.1 = 0 then
      some ((-102 : Int32), q103.2)
    else
      fX9_years_25 fu x0 x1 fu (0 : Int32) q103.2
  else
    some ((-103 : Int32), q101.2)
set_option maxHeartbeats 4000000 in
set_option maxRecDepth 100000 in
theorem tX9_years_0 {l : Launch} {D : va_G} {cA : ClassId} {bs : Nat} {ad : Nat → Nat} {p : Program} {e : Env} {s : State} {m : MethodId} {args : Array Value} {below : List Frame} {meth : Method} {c : Code} {fu : Nat} (C : Cx D cA bs ad RX9 cX9_years 3 (some .int) p s m args meth c) {x0 : Nat} {x1 : Int32} {q : Int32 × St} (hx0 : xk x0 = 7) {σ : St} (h : fX9_years_0 fu x0 x1 σ = some q) : Y D cA bs ad p l e (rmY 3 67) s m args below meth c 3 0 0 (QM D cA bs ad below args s (some (.int q.1)) q.2) σ 0 [(0, .ref (ad x0)), (1, .int x1)] [] := by
  unfold fX9_years_0 at h
  refine y_aload_n (pc := 0) (q := 0) C dX9_years_0 rfl rfl ?_
  obtain ⟨q101, eq101, h⟩ := bdS h
  refine y_callV (pc := 1) (As := []) (rest := []) C (mX9_isTooShort (fu := fu) eq101) vwX9_139 rfl (by decide) hx0 rfl rfl (Nat.le_of_ble_eq_true rfl) ⟨Nat.le_of_ble_eq_true rfl, Nat.le_of_ble_eq_true rfl⟩ ⟨Nat.le_refl _, Nat.le_refl _⟩ dX9_years_1 ?_
  show Y _ _ _ _ _ _ _ _ _ _ _ _ _ _ _ _ _ _ q101.2 4 [(0, .ref (ad x0)), (1, .int x1)] [.int q101.1]
  refine y_if_eq (pc := 4) (tgt := 10) C dX9_years_4 (by decide) (fun c102 => ?_) (fun c102 => ?_)
  · rw [if_pos c102] at h
    refine y_iload_n (pc := 10) (q := 1) C dX9_years_10 rfl rfl ?_
    refine y_iconst (pc := 11) (v := (1 : Int32)) C dX9_years_11 (by decide) ?_
    refine y_bipush (pc := 12) (v := (99 : Int32)) C dX9_years_12 (by decide) ?_
    obtain ⟨q103, eq103, h⟩ := bdS h
    refine y_callS (pc := 14) (As := [.int x1, .int (1 : Int32), .int (99 : Int32)]) (rest := []) C (mX9_isWithin (fu := fu) eq103) vwX9_91 rfl rfl (Nat.le_of_ble_eq_true rfl) ⟨Nat.le_of_ble_eq_true rfl, Nat.le_of_ble_eq_true rfl⟩ ⟨Nat.le_refl _, Nat.le_refl _⟩ dX9_years_14 ?_
    show Y _ _ _ _ _ _ _ _ _ _ _ _ _ _ _ _ _ _ q103.2 17 [(0, .ref (ad x0)), (1, .int x1)] [.int q103.1]
    refine y_if_ne (pc := 17) (tgt := 23) C dX9_years_17 (by decide) (fun c104 => ?_) (fun c104 => ?_)
    · rw [if_neg c104] at h
      refine y_iconst (pc := 23) (v := (0 : Int32)) C dX9_years_23 (by decide) ?_
      refine y_istore_n (pc := 24) (lv' := [(2, .int (0 : Int32)), (0, .ref (ad x0)), (1, .int x1)]) C dX9_years_24 rfl (by decide) rfl ?_
      refine y_sub [1, 2, 0] (lv' := [(0, .ref (ad x0)), (1, .int x1), (2, .int (0 : Int32))]) rfl ?_
      exact tX9_years_25 (fu := fu) C hx0 fu _ _ h
    · rw [if_pos c104] at h
      refine y_bipush (pc := 20) (v := (-102 : Int32)) C dX9_years_20 (by decide) ?_
      cases h
      exact y_iret (pc := 22) C dX9_years_22
  · rw [if_neg c102] at h
    refine y_bipush (pc := 7) (v := (-103 : Int32)) C dX9_years_7 (by decide) ?_
    cases h
    exact y_iret (pc := 9) C dX9_years_9
noncomputable def fX9_years (fu : Nat) (x0 : Nat) (x1 : Int32) (σ : St) : Option (Int32 × St) := if xk x0 = 7 then fX9_years_0 fu x0 x1 σ else none
theorem mX9_years {l : Launch} {D : va_G} {cA : ClassId} {bs fu : Nat} {ad : Nat → Nat} {x0 : Nat} {x1 : Int32} {σ : St} {q : Int32 × St} (h : fX9_years fu x0 x1 σ = some q) : Ct l D cA bs ad yX9_years cX9_years 3 (some .int) 3 67 [.ref (ad x0), .int x1] σ (some (.int q.1)) q.2 := by
  unfold fX9_years at h
  by_cases hx0 : xk x0 = 7
  case neg => rw [if_neg hx0] at h; cases h
  rw [if_pos hx0] at h
  exact Ct.of (by decide) (Nat.le_of_ble_eq_true rfl) (fun p e s m args below meth c C => tX9_years_0 (fu := fu) C hx0 h)
noncomputable def fX9_worst_19 (fu : Nat) (x0 : Nat) (s0 : Int32) (σ : St) : Option (Int32 × St) :=
  some (s0, σ)
set_option maxHeartbeats 4000000 in
set_option maxRecDepth 100000 in
theorem tX9_worst_19 {l : Launch} {D : va_G} {cA : ClassId} {bs : Nat} {ad : Nat → Nat} {p : Program} {e : Env} {s : State} {m : MethodId} {args : Array Value} {below : List Frame} {meth : Method} {c : Code} {fu : Nat} (C : Cx D cA bs ad RX9 cX9_worst 1 (some .int) p s m args meth c) {x0 : Nat} {s0 : Int32} {q : Int32 × St} (hx0 : xk x0 = 7) {σ : St} (h : fX9_worst_19 fu x0 s0 σ = some q) : Y D cA bs ad p l e (rmY 2 43) s m args below meth c 1 0 0 (QM D cA bs ad below args s (some (.int q.1)) q.2) σ 19 [(0, .ref (ad x0))] [.int s0] := by
  unfold fX9_worst_19 at h
  cases h
  exact y_iret (pc := 19) C dX9_worst_19
noncomputable def fX9_worst_0 (fu : Nat) (x0 : Nat) (σ : St) : Option (Int32 × St) :=
  (fX9_isTooShort fu x0 σ).bind fun (q101 : Int32 × St) =>
  if q101.1 = 0 then
    (fX8_worstWear fu (rf x0 2) q101.2).bind fun (q103 : Int32 × St) =>
    fX9_worst_19 fu x0 q103.1 q103.2
  else
    fX9_worst_19 fu x0 (-103 : Int32) q101.2
set_option maxHeartbeats 4000000 in
set_option maxRecDepth 100000 in
theorem tX9_worst_0 {l : Launch} {D : va_G} {cA : ClassId} {bs : Nat} {ad : Nat → Nat} {p : Program} {e : Env} {s : State} {m : MethodId} {args : Array Value} {below : List Frame} {meth : Method} {c : Code} {fu : Nat} (C : Cx D cA bs ad RX9 cX9_worst 1 (some .int) p s m args meth c) {x0 : Nat} {q : Int32 × St} (hx0 : xk x0 = 7) {σ : St} (h : fX9_worst_0 fu x0 σ = some q) : Y D cA bs ad p l e (rmY 2 43) s m args below meth c 1 0 0 (QM D cA bs ad below args s (some (.int q.1)) q.2) σ 0 [(0, .ref (ad x0))] [] := by
  unfold fX9_worst_0 at h
  refine y_aload_n (pc := 0) (q := 0) C dX9_worst_0 rfl rfl ?_
  obtain ⟨q101, eq101, h⟩ := bdS h
  refine y_callV (pc := 1) (As := []) (rest := []) C (mX9_isTooShort (fu := fu) eq101) vwX9_139 rfl (by decide) hx0 rfl rfl (Nat.le_of_ble_eq_true rfl) ⟨Nat.le_of_ble_eq_true rfl, Nat.le_of_ble_eq_true rfl⟩ ⟨Nat.le_refl _, Nat.le_refl _⟩ dX9_worst_1 ?_
  show Y _ _ _ _ _ _ _ _ _ _ _ _ _ _ _ _ _ _ q101.2 4 [(0, .ref (ad x0))] [.int q101.1]
  refine y_if_eq (pc := 4) (tgt := 12) C dX9_worst_4 (by decide) (fun c102 => ?_) (fun c102 => ?_)
  · rw [if_pos c102] at h
    refine y_aload_n (pc := 12) (q := 0) C dX9_worst_12 rfl rfl ?_
    refine y_getr (pc := 13) C faX9_26 rfl hx0 dX9_worst_13 ?_
    obtain ⟨q103, eq103, h⟩ := bdS h
    refine y_callV (pc := 16) (As := []) (rest := []) C (mX8_worstWear (fu := fu) eq103) vwX9_156 rfl (by decide) (rf_7_2 _ hx0) rfl rfl (Nat.le_of_ble_eq_true rfl) ⟨Nat.le_of_ble_eq_true rfl, Nat.le_of_ble_eq_true rfl⟩ ⟨Nat.le_refl _, Nat.le_refl _⟩ dX9_worst_16 ?_
    show Y _ _ _ _ _ _ _ _ _ _ _ _ _ _ _ _ _ _ q103.2 19 [(0, .ref (ad x0))] [.int q103.1]
    exact tX9_worst_19 (fu := fu) C hx0 h
  · rw [if_neg c102] at h
    refine y_bipush (pc := 7) (v := (-103 : Int32)) C dX9_worst_7 (by decide) ?_
    refine y_goto (pc := 9) (tgt := 19) C dX9_worst_9 (by decide) ?_
    exact tX9_worst_19 (fu := fu) C hx0 h
noncomputable def fX9_worst (fu : Nat) (x0 : Nat) (σ : St) : Option (Int32 × St) := if xk x0 = 7 then fX9_worst_0 fu x0 σ else none
theorem mX9_worst {l : Launch} {D : va_G} {cA : ClassId} {bs fu : Nat} {ad : Nat → Nat} {x0 : Nat} {σ : St} {q : Int32 × St} (h : fX9_worst fu x0 σ = some q) : Ct l D cA bs ad yX9_worst cX9_worst 1 (some .int) 2 43 [.ref (ad x0)] σ (some (.int q.1)) q.2 := by
  unfold fX9_worst at h
  by_cases hx0 : xk x0 = 7
  case neg => rw [if_neg hx0] at h; cases h
  rw [if_pos hx0] at h
  exact Ct.of (by decide) (Nat.le_of_ble_eq_true rfl) (fun p e s m args below meth c C => tX9_worst_0 (fu := fu) C hx0 h)
noncomputable def fX9_best_95 (fu : Nat) (x0 : Nat) (x1 : Int32) (s0 : Int32) (σ : St) : Option (Int32 × St) :=
  some (s0, σ)
set_option maxHeartbeats 4000000 in
set_option maxRecDepth 100000 in
theorem tX9_best_95 {l : Launch} {D : va_G} {cA : ClassId} {bs : Nat} {ad : Nat → Nat} {p : Program} {e : Env} {s : State} {m : MethodId} {args : Array Value} {below : List Frame} {meth : Method} {c : Code} {fu : Nat} (C : Cx D cA bs ad RX9 cX9_best 2 (some .int) p s m args meth c) {x0 : Nat} {x1 : Int32} {s0 : Int32} {q : Int32 × St} (hx0 : xk x0 = 7) {σ : St} (h : fX9_best_95 fu x0 x1 s0 σ = some q) : Y D cA bs ad p l e (rmY 5 121) s m args below meth c 2 0 0 (QM D cA bs ad below args s (some (.int q.1)) q.2) σ 95 [(0, .ref (ad x0)), (1, .int x1)] [.int s0] := by
  unfold fX9_best_95 at h
  cases h
  exact y_iret (pc := 95) C dX9_best_95
noncomputable def fX9_best_0 (fu : Nat) (x0 : Nat) (x1 : Int32) (σ : St) : Option (Int32 × St) :=
  (fX9_isTooShort fu x0 σ).bind fun (q101 : Int32 × St) =>
  if q101.1 = 0 then
    (fX9_isWithin fu x1 (0 : Int32) (1 : Int32) q101.2).bind fun (q103 : Int32 × St) =>
    if q103.1 = 0 then
      some ((-102 : Int32), q103.2)
    else
      if (q103.2.1 x0 10) < (40 : Int32) then
        nm (si q103.2 x0 10 ((q103.2.1 x0 10) + (1 : Int32))) fun (σ106 : St) =>
        (fX5_study fu (rf x0 5) (rf x0 2) (rf x0 1) σ106).bind fun (q107 : St) =>
        (fX5_ordersFound fu (rf x0 5) q107).bind fun (q108 : Int32 × St) =>
        if q108.1 = 0 then
          some ((-1 : Int32), q108.2)
        else
          if x1 = 0 then
            (fX5_leastWorst fu (rf x0 5) q108.2).bind fun (q114 : Int32 × St) =>
            fX9_best_95 fu x0 x1 q114.1 q114.2
          else
            (fX5_bestOrder fu (rf x0 5) q108.2).bind fun (q111 : Nat × St) =>
            if xk q111.1 = 4 then
            (fX6_told fu q111.1 q111.2).bind fun (q113 : Int32 × St) =>
            fX9_best_95 fu x0 x1 q113.1 q113.2
            else none
      else
        some ((-103 : Int32), q103.2)
  else
    some ((-103 : Int32), q101.2)
set_option maxHeartbeats 4000000 in
set_option maxRecDepth 100000 in
theorem tX9_best_0 {l : Launch} {D : va_G} {cA : ClassId} {bs : Nat} {ad : Nat → Nat} {p : Program} {e : Env} {s : State} {m : MethodId} {args : Array Value} {below : List Frame} {meth : Method} {c : Code} {fu : Nat} (C : Cx D cA bs ad RX9 cX9_best 2 (some .int) p s m args meth c) {x0 : Nat} {x1 : Int32} {q : Int32 × St} (hx0 : xk x0 = 7) {σ : St} (h : fX9_best_0 fu x0 x1 σ = some q) : Y D cA bs ad p l e (rmY 5 121) s m args below meth c 2 0 0 (QM D cA bs ad below args s (some (.int q.1)) q.2) σ 0 [(0, .ref (ad x0)), (1, .int x1)] [] := by
  unfold fX9_best_0 at h
  refine y_aload_n (pc := 0) (q := 0) C dX9_best_0 rfl rfl ?_
  obtain ⟨q101, eq101, h⟩ := bdS h
  refine y_callV (pc := 1) (As := []) (rest := []) C (mX9_isTooShort (fu := fu) eq101) vwX9_139 rfl (by decide) hx0 rfl rfl (Nat.le_of_ble_eq_true rfl) ⟨Nat.le_of_ble_eq_true rfl, Nat.le_of_ble_eq_true rfl⟩ ⟨Nat.le_refl _, Nat.le_refl _⟩ dX9_best_1 ?_
  show Y _ _ _ _ _ _ _ _ _ _ _ _ _ _ _ _ _ _ q101.2 4 [(0, .ref (ad x0)), (1, .int x1)] [.int q101.1]
  refine y_if_eq (pc := 4) (tgt := 10) C dX9_best_4 (by decide) (fun c102 => ?_) (fun c102 => ?_)
  · rw [if_pos c102] at h
    refine y_iload_n (pc := 10) (q := 1) C dX9_best_10 rfl rfl ?_
    refine y_iconst (pc := 11) (v := (0 : Int32)) C dX9_best_11 (by decide) ?_
    refine y_iconst (pc := 12) (v := (1 : Int32)) C dX9_best_12 (by decide) ?_
    obtain ⟨q103, eq103, h⟩ := bdS h
    refine y_callS (pc := 13) (As := [.int x1, .int (0 : Int32), .int (1 : Int32)]) (rest := []) C (mX9_isWithin (fu := fu) eq103) vwX9_91 rfl rfl (Nat.le_of_ble_eq_true rfl) ⟨Nat.le_of_ble_eq_true rfl, Nat.le_of_ble_eq_true rfl⟩ ⟨Nat.le_refl _, Nat.le_refl _⟩ dX9_best_13 ?_
    show Y _ _ _ _ _ _ _ _ _ _ _ _ _ _ _ _ _ _ q103.2 16 [(0, .ref (ad x0)), (1, .int x1)] [.int q103.1]
    refine y_if_ne (pc := 16) (tgt := 22) C dX9_best_16 (by decide) (fun c104 => ?_) (fun c104 => ?_)
    · rw [if_neg c104] at h
      refine y_aload_n (pc := 22) (q := 0) C dX9_best_22 rfl rfl ?_
      refine y_geti (pc := 23) C faX9_162 rfl hx0 dX9_best_23 ?_
      refine y_bipush (pc := 26) (v := (40 : Int32)) C dX9_best_26 (by decide) ?_
      refine y_icmp_lt (pc := 28) (tgt := 34) C dX9_best_28 (by decide) (fun c105 => ?_) (fun c105 => ?_)
      · rw [if_pos c105] at h
        refine y_aload_n (pc := 34) (q := 0) C dX9_best_34 rfl rfl ?_
        refine y_dup (pc := 35) C dX9_best_35 rfl ?_
        refine y_geti (pc := 36) C faX9_162 rfl hx0 dX9_best_36 ?_
        refine y_iconst (pc := 39) (v := (1 : Int32)) C dX9_best_39 (by decide) ?_
        refine y_iadd (pc := 40) C dX9_best_40 ?_
        obtain ⟨σ106, eσ106, h⟩ := nmS h
        refine y_puti (pc := 41) C fpX9_162 rfl hx0 rfl rfl dX9_best_41 ?_
        rw [← eσ106]
        refine y_aload_n (pc := 44) (q := 0) C dX9_best_44 rfl rfl ?_
        refine y_getr (pc := 45) C faX9_43 rfl hx0 dX9_best_45 ?_
        refine y_aload_n (pc := 48) (q := 0) C dX9_best_48 rfl rfl ?_
        refine y_getr (pc := 49) C faX9_26 rfl hx0 dX9_best_49 ?_
        refine y_aload_n (pc := 52) (q := 0) C dX9_best_52 rfl rfl ?_
        refine y_getr (pc := 53) C faX9_19 rfl hx0 dX9_best_53 ?_
        obtain ⟨q107, eq107, h⟩ := bdS h
        refine y_callV (pc := 56) (As := [.ref (ad (rf x0 2)), .ref (ad (rf x0 1))]) (rest := []) C (mX5_study (fu := fu) eq107) vwX9_165 rfl (by decide) (rf_7_5 _ hx0) rfl rfl (Nat.le_of_ble_eq_true rfl) ⟨Nat.le_of_ble_eq_true rfl, Nat.le_of_ble_eq_true rfl⟩ ⟨Nat.le_refl _, Nat.le_refl _⟩ dX9_best_56 ?_
        show Y _ _ _ _ _ _ _ _ _ _ _ _ _ _ _ _ _ _ q107 59 [(0, .ref (ad x0)), (1, .int x1)] []
        refine y_aload_n (pc := 59) (q := 0) C dX9_best_59 rfl rfl ?_
        refine y_getr (pc := 60) C faX9_43 rfl hx0 dX9_best_60 ?_
        obtain ⟨q108, eq108, h⟩ := bdS h
        refine y_callV (pc := 63) (As := []) (rest := []) C (mX5_ordersFound (fu := fu) eq108) vwX9_169 rfl (by decide) (rf_7_5 _ hx0) rfl rfl (Nat.le_of_ble_eq_true rfl) ⟨Nat.le_of_ble_eq_true rfl, Nat.le_of_ble_eq_true rfl⟩ ⟨Nat.le_refl _, Nat.le_refl _⟩ dX9_best_63 ?_
        show Y _ _ _ _ _ _ _ _ _ _ _ _ _ _ _ _ _ _ q108.2 66 [(0, .ref (ad x0)), (1, .int x1)] [.int q108.1]
        refine y_if_ne (pc := 66) (tgt := 71) C dX9_best_66 (by decide) (fun c109 => ?_) (fun c109 => ?_)
        · rw [if_neg c109] at h
          refine y_iload_n (pc := 71) (q := 1) C dX9_best_71 rfl rfl ?_
          refine y_if_ne (pc := 72) (tgt := 85) C dX9_best_72 (by decide) (fun c110 => ?_) (fun c110 => ?_)
          · rw [if_neg c110] at h
            refine y_aload_n (pc := 85) (q := 0) C dX9_best_85 rfl rfl ?_
            refine y_getr (pc := 86) C faX9_43 rfl hx0 dX9_best_86 ?_
            obtain ⟨q111, eq111, h⟩ := bdS h
            refine y_callV (pc := 89) (As := []) (rest := []) C (mX5_bestOrder (fu := fu) eq111) vwX9_175 rfl (by decide) (rf_7_5 _ hx0) rfl rfl (Nat.le_of_ble_eq_true rfl) ⟨Nat.le_of_ble_eq_true rfl, Nat.le_of_ble_eq_true rfl⟩ ⟨Nat.le_refl _, Nat.le_refl _⟩ dX9_best_89 ?_
            by_cases hr112 : xk q111.1 = 4
            case neg => rw [if_neg hr112] at h; cases h
            rw [if_pos hr112] at h
            show Y _ _ _ _ _ _ _ _ _ _ _ _ _ _ _ _ _ _ q111.2 92 [(0, .ref (ad x0)), (1, .int x1)] [.ref (ad q111.1)]
            obtain ⟨q113, eq113, h⟩ := bdS h
            refine y_callV (pc := 92) (As := []) (rest := []) C (mX6_told (fu := fu) eq113) vwX9_179 rfl (by decide) hr112 rfl rfl (Nat.le_of_ble_eq_true rfl) ⟨Nat.le_of_ble_eq_true rfl, Nat.le_of_ble_eq_true rfl⟩ ⟨Nat.le_refl _, Nat.le_refl _⟩ dX9_best_92 ?_
            show Y _ _ _ _ _ _ _ _ _ _ _ _ _ _ _ _ _ _ q113.2 95 [(0, .ref (ad x0)), (1, .int x1)] [.int q113.1]
            exact tX9_best_95 (fu := fu) C hx0 h
          · rw [if_pos c110] at h
            refine y_aload_n (pc := 75) (q := 0) C dX9_best_75 rfl rfl ?_
            refine y_getr (pc := 76) C faX9_43 rfl hx0 dX9_best_76 ?_
            obtain ⟨q114, eq114, h⟩ := bdS h
            refine y_callV (pc := 79) (As := []) (rest := []) C (mX5_leastWorst (fu := fu) eq114) vwX9_172 rfl (by decide) (rf_7_5 _ hx0) rfl rfl (Nat.le_of_ble_eq_true rfl) ⟨Nat.le_of_ble_eq_true rfl, Nat.le_of_ble_eq_true rfl⟩ ⟨Nat.le_refl _, Nat.le_refl _⟩ dX9_best_79 ?_
            show Y _ _ _ _ _ _ _ _ _ _ _ _ _ _ _ _ _ _ q114.2 82 [(0, .ref (ad x0)), (1, .int x1)] [.int q114.1]
            refine y_goto (pc := 82) (tgt := 95) C dX9_best_82 (by decide) ?_
            exact tX9_best_95 (fu := fu) C hx0 h
        · rw [if_pos c109] at h
          refine y_iconst (pc := 69) (v := (-1 : Int32)) C dX9_best_69 (by decide) ?_
          cases h
          exact y_iret (pc := 70) C dX9_best_70
      · rw [if_neg c105] at h
        refine y_bipush (pc := 31) (v := (-103 : Int32)) C dX9_best_31 (by decide) ?_
        cases h
        exact y_iret (pc := 33) C dX9_best_33
    · rw [if_pos c104] at h
      refine y_bipush (pc := 19) (v := (-102 : Int32)) C dX9_best_19 (by decide) ?_
      cases h
      exact y_iret (pc := 21) C dX9_best_21
  · rw [if_neg c102] at h
    refine y_bipush (pc := 7) (v := (-103 : Int32)) C dX9_best_7 (by decide) ?_
    cases h
    exact y_iret (pc := 9) C dX9_best_9
noncomputable def fX9_best (fu : Nat) (x0 : Nat) (x1 : Int32) (σ : St) : Option (Int32 × St) := if xk x0 = 7 then fX9_best_0 fu x0 x1 σ else none
theorem mX9_best {l : Launch} {D : va_G} {cA : ClassId} {bs fu : Nat} {ad : Nat → Nat} {x0 : Nat} {x1 : Int32} {σ : St} {q : Int32 × St} (h : fX9_best fu x0 x1 σ = some q) : Ct l D cA bs ad yX9_best cX9_best 2 (some .int) 5 121 [.ref (ad x0), .int x1] σ (some (.int q.1)) q.2 := by
  unfold fX9_best at h
  by_cases hx0 : xk x0 = 7
  case neg => rw [if_neg hx0] at h; cases h
  rw [if_pos hx0] at h
  exact Ct.of (by decide) (Nat.le_of_ble_eq_true rfl) (fun p e s m args below meth c C => tX9_best_0 (fu := fu) C hx0 h)
