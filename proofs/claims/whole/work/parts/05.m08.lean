noncomputable def fX10_yearOn_2b (fu : Nat) (k2 : Int32 → St → Option (St)) (x0 : Nat) (x1 : Nat) (x2 : Nat) (x3 : Int32) (σ : St) : Option (St) :=
  if (σ.1 x0 12) ≤ x3 then
    some σ
  else
    (ald σ (rf x0 13) 7 x3).bind fun (v102 : Int32) =>
    (ald σ x1 7 x3).bind fun (v103 : Int32) =>
    (ald σ x2 7 x3).bind fun (v104 : Int32) =>
    (ald σ (rf x0 18) 7 v104).bind fun (v105 : Int32) =>
    (fX10_worn fu v102 v103 v105 σ).bind fun (q106 : Int32 × St) =>
    (ast q106.2 x1 7 x3 q106.1).bind fun (σ107 : St) =>
    nm (x3 + (1 : Int32)) fun (y108 : Int32) =>
    k2 y108 σ107
set_option maxHeartbeats 4000000 in
set_option maxRecDepth 100000 in
theorem tX10_yearOn_2b {l : Launch} {D : va_G} {cA : ClassId} {bs : Nat} {ad : Nat → Nat} {p : Program} {e : Env} {s : State} {m : MethodId} {args : Array Value} {below : List Frame} {meth : Method} {c : Code} {fu : Nat} (C : Cx D cA bs ad RX10 cX10_yearOn 4 none p s m args meth c) {k2 : Int32 → St → Option (St)} {x0 : Nat} {x1 : Nat} {x2 : Nat} {x3 : Int32} {q : St} (hx0 : xk x0 = 8) (hx1 : xk x1 = 16) (hx2 : xk x2 = 16) (hk2 : ∀ (x3 : Int32) (σ : St), k2 x3 σ = some q → Y D cA bs ad p l e (rmY 1 23) s m args below meth c 4 0 0 (QM D cA bs ad below args s none q) σ 2 [(0, .ref (ad x0)), (1, .ref (ad x1)), (2, .ref (ad x2)), (3, .int x3)] []) {σ : St} (h : fX10_yearOn_2b fu k2 x0 x1 x2 x3 σ = some q) : Y D cA bs ad p l e (rmY 1 23) s m args below meth c 4 0 0 (QM D cA bs ad below args s none q) σ 2 [(0, .ref (ad x0)), (1, .ref (ad x1)), (2, .ref (ad x2)), (3, .int x3)] [] := by
  unfold fX10_yearOn_2b at h
  refine y_iload_n (pc := 2) (q := 3) C dX10_yearOn_2 rfl rfl ?_
  refine y_aload_n (pc := 3) (q := 0) C dX10_yearOn_3 rfl rfl ?_
  refine y_geti (pc := 4) C faX10_105 rfl hx0 dX10_yearOn_4 ?_
  refine y_icmp_ge (pc := 7) (tgt := 39) C dX10_yearOn_7 (by decide) (fun c101 => ?_) (fun c101 => ?_)
  · rw [if_pos c101] at h
    cases h
    exact y_vret (pc := 39) C dX10_yearOn_39
  · rw [if_neg c101] at h
    refine y_aload_n (pc := 10) (q := 1) C dX10_yearOn_10 rfl rfl ?_
    refine y_iload_n (pc := 11) (q := 3) C dX10_yearOn_11 rfl rfl ?_
    refine y_aload_n (pc := 12) (q := 0) C dX10_yearOn_12 rfl rfl ?_
    refine y_getr (pc := 13) C faX10_13 rfl hx0 dX10_yearOn_13 ?_
    refine y_iload_n (pc := 16) (q := 3) C dX10_yearOn_16 rfl rfl ?_
    obtain ⟨v102, ev102, h⟩ := bdS h
    refine y_iald (pc := 17) (n := 7) C (rf_8_13 _ hx0) (by decide) ev102 dX10_yearOn_17 ?_
    refine y_aload_n (pc := 18) (q := 1) C dX10_yearOn_18 rfl rfl ?_
    refine y_iload_n (pc := 19) (q := 3) C dX10_yearOn_19 rfl rfl ?_
    obtain ⟨v103, ev103, h⟩ := bdS h
    refine y_iald (pc := 20) (n := 7) C hx1 (by decide) ev103 dX10_yearOn_20 ?_
    refine y_aload_n (pc := 21) (q := 0) C dX10_yearOn_21 rfl rfl ?_
    refine y_getr (pc := 22) C faX10_28 rfl hx0 dX10_yearOn_22 ?_
    refine y_aload_n (pc := 25) (q := 2) C dX10_yearOn_25 rfl rfl ?_
    refine y_iload_n (pc := 26) (q := 3) C dX10_yearOn_26 rfl rfl ?_
    obtain ⟨v104, ev104, h⟩ := bdS h
    refine y_iald (pc := 27) (n := 7) C hx2 (by decide) ev104 dX10_yearOn_27 ?_
    obtain ⟨v105, ev105, h⟩ := bdS h
    refine y_iald (pc := 28) (n := 7) C (rf_8_18 _ hx0) (by decide) ev105 dX10_yearOn_28 ?_
    obtain ⟨q106, eq106, h⟩ := bdS h
    refine y_callS (pc := 29) (As := [.int v102, .int v103, .int v105]) (rest := [.int x3, .ref (ad x1)]) C (mX10_worn (fu := fu) eq106) vwX10_133 rfl rfl (Nat.le_of_ble_eq_true rfl) ⟨Nat.le_of_ble_eq_true rfl, Nat.le_of_ble_eq_true rfl⟩ ⟨Nat.le_refl _, Nat.le_refl _⟩ dX10_yearOn_29 ?_
    show Y _ _ _ _ _ _ _ _ _ _ _ _ _ _ _ _ _ _ q106.2 32 [(0, .ref (ad x0)), (1, .ref (ad x1)), (2, .ref (ad x2)), (3, .int x3)] [.int q106.1, .int x3, .ref (ad x1)]
    obtain ⟨σ107, eσ107, h⟩ := bdS h
    refine y_iast (pc := 32) (n := 7) C hx1 (by decide) eσ107 dX10_yearOn_32 ?_
    obtain ⟨y108, ey108, h⟩ := nmS h
    refine y_iinc (pc := 33) (v := y108) (k := 3) (lv' := [(3, .int y108), (0, .ref (ad x0)), (1, .ref (ad x1)), (2, .ref (ad x2))]) C dX10_yearOn_33 rfl (by rw [ey108]; rfl) (by decide) rfl ?_
    refine y_goto (pc := 36) (tgt := 2) C dX10_yearOn_36 (by decide) ?_
    refine y_sub [1, 2, 3, 0] (lv' := [(0, .ref (ad x0)), (1, .ref (ad x1)), (2, .ref (ad x2)), (3, .int y108)]) rfl ?_
    exact hk2 _ _ h
noncomputable def fX10_yearOn_2 (fu : Nat) (x0 : Nat) (x1 : Nat) (x2 : Nat) : Nat → Int32 → St → Option (St) := lp (fun k2 => fX10_yearOn_2b fu k2 x0 x1 x2) (fun _ _ => none)
set_option maxHeartbeats 4000000 in
theorem tX10_yearOn_2 {l : Launch} {D : va_G} {cA : ClassId} {bs : Nat} {ad : Nat → Nat} {p : Program} {e : Env} {s : State} {m : MethodId} {args : Array Value} {below : List Frame} {meth : Method} {c : Code} {fu : Nat} (C : Cx D cA bs ad RX10 cX10_yearOn 4 none p s m args meth c) {x0 : Nat} {x1 : Nat} {x2 : Nat} {q : St} (hx0 : xk x0 = 8) (hx1 : xk x1 = 16) (hx2 : xk x2 = 16)  : ∀ (n : Nat) (x3 : Int32) (σ : St), fX10_yearOn_2 fu  x0 x1 x2 n x3 σ = some q → Y D cA bs ad p l e (rmY 1 23) s m args below meth c 4 0 0 (QM D cA bs ad below args s none q) σ 2 [(0, .ref (ad x0)), (1, .ref (ad x1)), (2, .ref (ad x2)), (3, .int x3)] [] := by
  intro n
  induction n with
  | zero => intro x3 σ h; cases h
  | succ n ih => intro x3 σ h; exact tX10_yearOn_2b (fu := fu) C hx0 hx1 hx2 ih h
noncomputable def fX10_yearOn_0 (fu : Nat) (x0 : Nat) (x1 : Nat) (x2 : Nat) (σ : St) : Option (St) :=
  fX10_yearOn_2 fu x0 x1 x2 fu (0 : Int32) σ
set_option maxHeartbeats 4000000 in
set_option maxRecDepth 100000 in
theorem tX10_yearOn_0 {l : Launch} {D : va_G} {cA : ClassId} {bs : Nat} {ad : Nat → Nat} {p : Program} {e : Env} {s : State} {m : MethodId} {args : Array Value} {below : List Frame} {meth : Method} {c : Code} {fu : Nat} (C : Cx D cA bs ad RX10 cX10_yearOn 4 none p s m args meth c) {x0 : Nat} {x1 : Nat} {x2 : Nat} {q : St} (hx0 : xk x0 = 8) (hx1 : xk x1 = 16) (hx2 : xk x2 = 16) {σ : St} (h : fX10_yearOn_0 fu x0 x1 x2 σ = some q) : Y D cA bs ad p l e (rmY 1 23) s m args below meth c 4 0 0 (QM D cA bs ad below args s none q) σ 0 [(0, .ref (ad x0)), (1, .ref (ad x1)), (2, .ref (ad x2))] [] := by
  unfold fX10_yearOn_0 at h
  refine y_iconst (pc := 0) (v := (0 : Int32)) C dX10_yearOn_0 (by decide) ?_
  refine y_istore_n (pc := 1) (lv' := [(3, .int (0 : Int32)), (0, .ref (ad x0)), (1, .ref (ad x1)), (2, .ref (ad x2))]) C dX10_yearOn_1 rfl (by decide) rfl ?_
  refine y_sub [1, 2, 3, 0] (lv' := [(0, .ref (ad x0)), (1, .ref (ad x1)), (2, .ref (ad x2)), (3, .int (0 : Int32))]) rfl ?_
  exact tX10_yearOn_2 (fu := fu) C hx0 hx1 hx2 fu _ _ h
noncomputable def fX10_yearOn (fu : Nat) (x0 : Nat) (x1 : Nat) (x2 : Nat) (σ : St) : Option (St) := if xk x0 = 8 then if xk x1 = 16 then if xk x2 = 16 then fX10_yearOn_0 fu x0 x1 x2 σ else none else none else none
theorem mX10_yearOn {l : Launch} {D : va_G} {cA : ClassId} {bs fu : Nat} {ad : Nat → Nat} {x0 : Nat} {x1 : Nat} {x2 : Nat} {σ : St} {q : St} (h : fX10_yearOn fu x0 x1 x2 σ = some q) : Ct l D cA bs ad yX10_yearOn cX10_yearOn 4 none 1 23 [.ref (ad x0), .ref (ad x1), .ref (ad x2)] σ none q := by
  unfold fX10_yearOn at h
  by_cases hx0 : xk x0 = 8
  case neg => rw [if_neg hx0] at h; cases h
  rw [if_pos hx0] at h
  by_cases hx1 : xk x1 = 16
  case neg => rw [if_neg hx1] at h; cases h
  rw [if_pos hx1] at h
  by_cases hx2 : xk x2 = 16
  case neg => rw [if_neg hx2] at h; cases h
  rw [if_pos hx2] at h
  exact Ct.of (by decide) (Nat.le_of_ble_eq_true rfl) (fun p e s m args below meth c C => tX10_yearOn_0 (fu := fu) C hx0 hx1 hx2 h)
noncomputable def fX10_layOn_53 (fu : Nat) (k3 : Int32 → St → Option (St)) (x0 : Nat) (x1 : Nat) (x2 : Nat) (x3 : Nat) (x4 : Int32) (σ : St) : Option (St) :=
  nm (x4 + (1 : Int32)) fun (y101 : Int32) =>
  k3 y101 σ
set_option maxHeartbeats 4000000 in
set_option maxRecDepth 100000 in
theorem tX10_layOn_53 {l : Launch} {D : va_G} {cA : ClassId} {bs : Nat} {ad : Nat → Nat} {p : Program} {e : Env} {s : State} {m : MethodId} {args : Array Value} {below : List Frame} {meth : Method} {c : Code} {fu : Nat} (C : Cx D cA bs ad RX10 cX10_layOn 6 none p s m args meth c) {k3 : Int32 → St → Option (St)} {x0 : Nat} {x1 : Nat} {x2 : Nat} {x3 : Nat} {x4 : Int32} {q : St} (hx0 : xk x0 = 8) (hx1 : xk x1 = 16) (hx2 : xk x2 = 16) (hx3 : xk x3 = 16) (hk3 : ∀ (x4 : Int32) (σ : St), k3 x4 σ = some q → Y D cA bs ad p l e (rmY 1 23) s m args below meth c 6 0 0 (QM D cA bs ad below args s none q) σ 3 [(0, .ref (ad x0)), (1, .ref (ad x1)), (2, .ref (ad x2)), (3, .ref (ad x3)), (4, .int x4)] []) {σ : St} (h : fX10_layOn_53 fu k3 x0 x1 x2 x3 x4 σ = some q) : Y D cA bs ad p l e (rmY 1 23) s m args below meth c 6 0 0 (QM D cA bs ad below args s none q) σ 53 [(0, .ref (ad x0)), (1, .ref (ad x1)), (2, .ref (ad x2)), (3, .ref (ad x3)), (4, .int x4)] [] := by
  unfold fX10_layOn_53 at h
  obtain ⟨y101, ey101, h⟩ := nmS h
  refine y_iinc (pc := 53) (v := y101) (k := 4) (lv' := [(4, .int y101), (0, .ref (ad x0)), (1, .ref (ad x1)), (2, .ref (ad x2)), (3, .ref (ad x3))]) C dX10_layOn_53 rfl (by rw [ey101]; rfl) (by decide) rfl ?_
  refine y_goto (pc := 56) (tgt := 3) C dX10_layOn_56 (by decide) ?_
  refine y_sub [1, 2, 3, 4, 0] (lv' := [(0, .ref (ad x0)), (1, .ref (ad x1)), (2, .ref (ad x2)), (3, .ref (ad x3)), (4, .int y101)]) rfl ?_
  exact hk3 _ _ h
noncomputable def fX10_layOn_3b (fu : Nat) (k3 : Int32 → St → Option (St)) (x0 : Nat) (x1 : Nat) (x2 : Nat) (x3 : Nat) (x4 : Int32) (σ : St) : Option (St) :=
  if (σ.1 x0 12) ≤ x4 then
    some σ
  else
    (ald σ (rf x0 19) 7 x4).bind fun (v102 : Int32) =>
    (ast σ x3 7 v102 x4).bind fun (σ103 : St) =>
    if (σ103.1 x0 3) = (1 : Int32) then
      (ald σ103 (rf x0 13) 7 v102).bind fun (v105 : Int32) =>
      if v105 = (4 : Int32) then
        fX10_layOn_53 fu k3 x0 x1 x2 x3 x4 σ103
      else
        (fX10_exchange fu x1 x2 v102 σ103).bind fun (q107 : St) =>
        fX10_layOn_53 fu k3 x0 x1 x2 x3 x4 q107
    else
      fX10_layOn_53 fu k3 x0 x1 x2 x3 x4 σ103
set_option maxHeartbeats 4000000 in
set_option maxRecDepth 100000 in
theorem tX10_layOn_3b {l : Launch} {D : va_G} {cA : ClassId} {bs : Nat} {ad : Nat → Nat} {p : Program} {e : Env} {s : State} {m : MethodId} {args : Array Value} {below : List Frame} {meth : Method} {c : Code} {fu : Nat} (C : Cx D cA bs ad RX10 cX10_layOn 6 none p s m args meth c) {k3 : Int32 → St → Option (St)} {x0 : Nat} {x1 : Nat} {x2 : Nat} {x3 : Nat} {x4 : Int32} {q : St} (hx0 : xk x0 = 8) (hx1 : xk x1 = 16) (hx2 : xk x2 = 16) (hx3 : xk x3 = 16) (hk3 : ∀ (x4 : Int32) (σ : St), k3 x4 σ = some q → Y D cA bs ad p l e (rmY 1 23) s m args below meth c 6 0 0 (QM D cA bs ad below args s none q) σ 3 [(0, .ref (ad x0)), (1, .ref (ad x1)), (2, .ref (ad x2)), (3, .ref (ad x3)), (4, .int x4)] []) {σ : St} (h : fX10_layOn_3b fu k3 x0 x1 x2 x3 x4 σ = some q) : Y D cA bs ad p l e (rmY 1 23) s m args below meth c 6 0 0 (QM D cA bs ad below args s none q) σ 3 [(0, .ref (ad x0)), (1, .ref (ad x1)), (2, .ref (ad x2)), (3, .ref (ad x3)), (4, .int x4)] [] := by
  unfold fX10_layOn_3b at h
  refine y_iload (pc := 3) (q := 4) C dX10_layOn_3 rfl ?_
  refine y_aload_n (pc := 5) (q := 0) C dX10_layOn_5 rfl rfl ?_
  refine y_geti (pc := 6) C faX10_105 rfl hx0 dX10_layOn_6 ?_
  refine y_icmp_ge (pc := 9) (tgt := 59) C dX10_layOn_9 (by decide) (fun c101 => ?_) (fun c101 => ?_)
  · rw [if_pos c101] at h
    cases h
    exact y_vret (pc := 59) C dX10_layOn_59
  · rw [if_neg c101] at h
    refine y_aload_n (pc := 12) (q := 0) C dX10_layOn_12 rfl rfl ?_
    refine y_getr (pc := 13) C faX10_31 rfl hx0 dX10_layOn_13 ?_
    refine y_iload (pc := 16) (q := 4) C dX10_layOn_16 rfl ?_
    obtain ⟨v102, ev102, h⟩ := bdS h
    refine y_iald (pc := 18) (n := 7) C (rf_8_19 _ hx0) (by decide) ev102 dX10_layOn_18 ?_
    refine y_istore (pc := 19) (lv' := [(5, .int v102), (0, .ref (ad x0)), (1, .ref (ad x1)), (2, .ref (ad x2)), (3, .ref (ad x3)), (4, .int x4)]) C dX10_layOn_19 (by decide) rfl ?_
    refine y_aload_n (pc := 21) (q := 4) C dX10_layOn_21 rfl rfl ?_
    refine y_iload (pc := 22) (q := 0) C dX10_layOn_22 rfl ?_
    refine y_iload (pc := 24) (q := 5) C dX10_layOn_24 rfl ?_
    obtain ⟨σ103, eσ103, h⟩ := bdS h
    refine y_iast (pc := 26) (n := 7) C hx3 (by decide) eσ103 dX10_layOn_26 ?_
    refine y_aload_n (pc := 27) (q := 1) C dX10_layOn_27 rfl rfl ?_
    refine y_geti (pc := 28) C faX10_92 rfl hx0 dX10_layOn_28 ?_
    refine y_iconst (pc := 31) (v := (1 : Int32)) C dX10_layOn_31 (by decide) ?_
    refine y_icmp_ne (pc := 32) (tgt := 53) C dX10_layOn_32 (by decide) (fun c104 => ?_) (fun c104 => ?_)
    · rw [if_neg c104] at h
      refine y_sub [1, 2, 3, 4, 5] (lv' := [(0, .ref (ad x0)), (1, .ref (ad x1)), (2, .ref (ad x2)), (3, .ref (ad x3)), (4, .int x4)]) rfl ?_
      exact tX10_layOn_53 (fu := fu) C hx0 hx1 hx2 hx3 hk3 h
    · rw [if_pos c104] at h
      refine y_aload_n (pc := 35) (q := 1) C dX10_layOn_35 rfl rfl ?_
      refine y_getr (pc := 36) C faX10_13 rfl hx0 dX10_layOn_36 ?_
      refine y_iload (pc := 39) (q := 0) C dX10_layOn_39 rfl ?_
      obtain ⟨v105, ev105, h⟩ := bdS h
      refine y_iald (pc := 41) (n := 7) C (rf_8_13 _ hx0) (by decide) ev105 dX10_layOn_41 ?_
      refine y_iconst (pc := 42) (v := (4 : Int32)) C dX10_layOn_42 (by decide) ?_
      refine y_icmp_eq (pc := 43) (tgt := 53) C dX10_layOn_43 (by decide) (fun c106 => ?_) (fun c106 => ?_)
      · rw [if_pos c106] at h
        refine y_sub [1, 2, 3, 4, 5] (lv' := [(0, .ref (ad x0)), (1, .ref (ad x1)), (2, .ref (ad x2)), (3, .ref (ad x3)), (4, .int x4)]) rfl ?_
        exact tX10_layOn_53 (fu := fu) C hx0 hx1 hx2 hx3 hk3 h
      · rw [if_neg c106] at h
        refine y_aload_n (pc := 46) (q := 2) C dX10_layOn_46 rfl rfl ?_
        refine y_aload_n (pc := 47) (q := 3) C dX10_layOn_47 rfl rfl ?_
        refine y_iload (pc := 48) (q := 0) C dX10_layOn_48 rfl ?_
        obtain ⟨q107, eq107, h⟩ := bdS h
        refine y_callS (pc := 50) (As := [.ref (ad x1), .ref (ad x2), .int v102]) (rest := []) C (mX10_exchange (fu := fu) eq107) vwX10_126 rfl rfl (Nat.le_of_ble_eq_true rfl) ⟨Nat.le_of_ble_eq_true rfl, Nat.le_of_ble_eq_true rfl⟩ ⟨Nat.le_refl _, Nat.le_refl _⟩ dX10_layOn_50 ?_
        show Y _ _ _ _ _ _ _ _ _ _ _ _ _ _ _ _ _ _ q107 53 [(5, .int v102), (0, .ref (ad x0)), (1, .ref (ad x1)), (2, .ref (ad x2)), (3, .ref (ad x3)), (4, .int x4)] []
        refine y_sub [1, 2, 3, 4, 5] (lv' := [(0, .ref (ad x0)), (1, .ref (ad x1)), (2, .ref (ad x2)), (3, .ref (ad x3)), (4, .int x4)]) rfl ?_
        exact tX10_layOn_53 (fu := fu) C hx0 hx1 hx2 hx3 hk3 h
noncomputable def fX10_layOn_3 (fu : Nat) (x0 : Nat) (x1 : Nat) (x2 : Nat) (x3 : Nat) : Nat → Int32 → St → Option (St) := lp (fun k3 => fX10_layOn_3b fu k3 x0 x1 x2 x3) (fun _ _ => none)
set_option maxHeartbeats 4000000 in
theorem tX10_layOn_3 {l : Launch} {D : va_G} {cA : ClassId} {bs : Nat} {ad : Nat → Nat} {p : Program} {e : Env} {s : State} {m : MethodId} {args : Array Value} {below : List Frame} {meth : Method} {c : Code} {fu : Nat} (C : Cx D cA bs ad RX10 cX10_layOn 6 none p s m args meth c) {x0 : Nat} {x1 : Nat} {x2 : Nat} {x3 : Nat} {q : St} (hx0 : xk x0 = 8) (hx1 : xk x1 = 16) (hx2 : xk x2 = 16) (hx3 : xk x3 = 16)  : ∀ (n : Nat) (x4 : Int32) (σ : St), fX10_layOn_3 fu  x0 x1 x2 x3 n x4 σ = some q → Y D cA bs ad p l e (rmY 1 23) s m args below meth c 6 0 0 (QM D cA bs ad below args s none q) σ 3 [(0, .ref (ad x0)), (1, .ref (ad x1)), (2, .ref (ad x2)), (3, .ref (ad x3)), (4, .int x4)] [] := by
  intro n
  induction n with
  | zero => intro x4 σ h; cases h
  | succ n ih => intro x4 σ h; exact tX10_layOn_3b (fu := fu) C hx0 hx1 hx2 hx3 ih h
noncomputable def fX10_layOn_0 (fu : Nat) (x0 : Nat) (x1 : Nat) (x2 : Nat) (x3 : Nat) (σ : St) : Option (St) :=
  fX10_layOn_3 fu x0 x1 x2 x3 fu (0 : Int32) σ
set_option maxHeartbeats 4000000 in
set_option maxRecDepth 100000 in
theorem tX10_layOn_0 {l : Launch} {D : va_G} {cA : ClassId} {bs : Nat} {ad : Nat → Nat} {p : Program} {e : Env} {s : State} {m : MethodId} {args : Array Value} {below : List Frame} {meth : Method} {c : Code} {fu : Nat} (C : Cx D cA bs ad RX10 cX10_layOn 6 none p s m args meth c) {x0 : Nat} {x1 : Nat} {x2 : Nat} {x3 : Nat} {q : St} (hx0 : xk x0 = 8) (hx1 : xk x1 = 16) (hx2 : xk x2 = 16) (hx3 : xk x3 = 16) {σ : St} (h : fX10_layOn_0 fu x0 x1 x2 x3 σ = some q) : Y D cA bs ad p l e (rmY 1 23) s m args below meth c 6 0 0 (QM D cA bs ad below args s none q) σ 0 [(0, .ref (ad x0)), (1, .ref (ad x1)), (2, .ref (ad x2)), (3, .ref (ad x3))] [] := by
  unfold fX10_layOn_0 at h
  refine y_iconst (pc := 0) (v := (0 : Int32)) C dX10_layOn_0 (by decide) ?_
  refine y_istore (pc := 1) (lv' := [(4, .int (0 : Int32)), (0, .ref (ad x0)), (1, .ref (ad x1)), (2, .ref (ad x2)), (3, .ref (ad x3))]) C dX10_layOn_1 (by decide) rfl ?_
  refine y_sub [1, 2, 3, 4, 0] (lv' := [(0, .ref (ad x0)), (1, .ref (ad x1)), (2, .ref (ad x2)), (3, .ref (ad x3)), (4, .int (0 : Int32))]) rfl ?_
  exact tX10_layOn_3 (fu := fu) C hx0 hx1 hx2 hx3 fu _ _ h
noncomputable def fX10_layOn (fu : Nat) (x0 : Nat) (x1 : Nat) (x2 : Nat) (x3 : Nat) (σ : St) : Option (St) := if xk x0 = 8 then if xk x1 = 16 then if xk x2 = 16 then if xk x3 = 16 then fX10_layOn_0 fu x0 x1 x2 x3 σ else none else none else none else none
theorem mX10_layOn {l : Launch} {D : va_G} {cA : ClassId} {bs fu : Nat} {ad : Nat → Nat} {x0 : Nat} {x1 : Nat} {x2 : Nat} {x3 : Nat} {σ : St} {q : St} (h : fX10_layOn fu x0 x1 x2 x3 σ = some q) : Ct l D cA bs ad yX10_layOn cX10_layOn 6 none 1 23 [.ref (ad x0), .ref (ad x1), .ref (ad x2), .ref (ad x3)] σ none q := by
  unfold fX10_layOn at h
  by_cases hx0 : xk x0 = 8
  case neg => rw [if_neg hx0] at h; cases h
  rw [if_pos hx0] at h
  by_cases hx1 : xk x1 = 16
  case neg => rw [if_neg hx1] at h; cases h
  rw [if_pos hx1] at h
  by_cases hx2 : xk x2 = 16
  case neg => rw [if_neg hx2] at h; cases h
  rw [if_pos hx2] at h
  by_cases hx3 : xk x3 = 16
  case neg => rw [if_neg hx3] at h; cases h
  rw [if_pos hx3] at h
  exact Ct.of (by decide) (Nat.le_of_ble_eq_true rfl) (fun p e s m args below meth c C => tX10_layOn_0 (fu := fu) C hx0 hx1 hx2 hx3 h)
noncomputable def fX10_lay_0 (fu : Nat) (x0 : Nat) (x1 : Int32) (σ : St) : Option (Int32 × St) :=
  (fX10_lacks fu x0 σ).bind fun (q101 : Int32 × St) =>
  if q101.1 = 0 then
    (fX10_readOrder fu x0 x1 q101.2).bind fun (q103 : Int32 × St) =>
    if q103.1 = 0 then
      some ((-102 : Int32), q103.2)
    else
      (fX10_isLawful fu x0 (rf x0 16) q103.2).bind fun (q105 : Int32 × St) =>
      if q105.1 = 0 then
        some ((-103 : Int32), q105.2)
      else
        (fX10_layOn fu x0 (rf x0 14) (rf x0 15) (rf x0 16) q105.2).bind fun (q107 : St) =>
        (fX10_worstOf fu x0 (rf x0 14) q107).bind fun (q108 : Int32 × St) =>
        some (q108.1, q108.2)
  else
    some ((-103 : Int32), q101.2)
set_option maxHeartbeats 4000000 in
set_option maxRecDepth 100000 in
theorem tX10_lay_0 {l : Launch} {D : va_G} {cA : ClassId} {bs : Nat} {ad : Nat → Nat} {p : Program} {e : Env} {s : State} {m : MethodId} {args : Array Value} {below : List Frame} {meth : Method} {c : Code} {fu : Nat} (C : Cx D cA bs ad RX10 cX10_lay 2 (some .int) p s m args meth c) {x0 : Nat} {x1 : Int32} {q : Int32 × St} (hx0 : xk x0 = 8) {σ : St} (h : fX10_lay_0 fu x0 x1 σ = some q) : Y D cA bs ad p l e (rmY 2 48) s m args below meth c 2 0 0 (QM D cA bs ad below args s (some (.int q.1)) q.2) σ 0 [(0, .ref (ad x0)), (1, .int x1)] [] := by
  unfold fX10_lay_0 at h
  refine y_aload_n (pc := 0) (q := 0) C dX10_lay_0 rfl rfl ?_
  obtain ⟨q101, eq101, h⟩ := bdS h
  refine y_callV (pc := 1) (As := []) (rest := []) C (mX10_lacks (fu := fu) eq101) vwX10_137 rfl (by decide) hx0 rfl rfl (Nat.le_of_ble_eq_true rfl) ⟨Nat.le_of_ble_eq_true rfl, Nat.le_of_ble_eq_true rfl⟩ ⟨Nat.le_refl _, Nat.le_refl _⟩ dX10_lay_1 ?_
  show Y _ _ _ _ _ _ _ _ _ _ _ _ _ _ _ _ _ _ q101.2 4 [(0, .ref (ad x0)), (1, .int x1)] [.int q101.1]
  refine y_if_eq (pc := 4) (tgt := 10) C dX10_lay_4 (by decide) (fun c102 => ?_) (fun c102 => ?_)
  · rw [if_pos c102] at h
    refine y_aload_n (pc := 10) (q := 0) C dX10_lay_10 rfl rfl ?_
    refine y_iload_n (pc := 11) (q := 1) C dX10_lay_11 rfl rfl ?_
    obtain ⟨q103, eq103, h⟩ := bdS h
    refine y_callV (pc := 12) (As := [.int x1]) (rest := []) C (mX10_readOrder (fu := fu) eq103) vwX10_141 rfl (by decide) hx0 rfl rfl (Nat.le_of_ble_eq_true rfl) ⟨Nat.le_of_ble_eq_true rfl, Nat.le_of_ble_eq_true rfl⟩ ⟨Nat.le_refl _, Nat.le_refl _⟩ dX10_lay_12 ?_
    show Y _ _ _ _ _ _ _ _ _ _ _ _ _ _ _ _ _ _ q103.2 15 [(0, .ref (ad x0)), (1, .int x1)] [.int q103.1]
    refine y_if_ne (pc := 15) (tgt := 21) C dX10_lay_15 (by decide) (fun c104 => ?_) (fun c104 => ?_)
    · rw [if_neg c104] at h
      refine y_aload_n (pc := 21) (q := 0) C dX10_lay_21 rfl rfl ?_
      refine y_aload_n (pc := 22) (q := 0) C dX10_lay_22 rfl rfl ?_
      refine y_getr (pc := 23) C faX10_22 rfl hx0 dX10_lay_23 ?_
      obtain ⟨q105, eq105, h⟩ := bdS h
      refine y_callV (pc := 26) (As := [.ref (ad (rf x0 16))]) (rest := []) C (mX10_isLawful (fu := fu) eq105) vwX10_144 rfl (by decide) hx0 rfl rfl (Nat.le_of_ble_eq_true rfl) ⟨Nat.le_of_ble_eq_true rfl, Nat.le_of_ble_eq_true rfl⟩ ⟨Nat.le_refl _, Nat.le_refl _⟩ dX10_lay_26 ?_
      show Y _ _ _ _ _ _ _ _ _ _ _ _ _ _ _ _ _ _ q105.2 29 [(0, .ref (ad x0)), (1, .int x1)] [.int q105.1]
      refine y_if_ne (pc := 29) (tgt := 35) C dX10_lay_29 (by decide) (fun c106 => ?_) (fun c106 => ?_)
      · rw [if_neg c106] at h
        refine y_aload_n (pc := 35) (q := 0) C dX10_lay_35 rfl rfl ?_
        refine y_aload_n (pc := 36) (q := 0) C dX10_lay_36 rfl rfl ?_
        refine y_getr (pc := 37) C faX10_16 rfl hx0 dX10_lay_37 ?_
        refine y_aload_n (pc := 40) (q := 0) C dX10_lay_40 rfl rfl ?_
        refine y_getr (pc := 41) C faX10_19 rfl hx0 dX10_lay_41 ?_
        refine y_aload_n (pc := 44) (q := 0) C dX10_lay_44 rfl rfl ?_
        refine y_getr (pc := 45) C faX10_22 rfl hx0 dX10_lay_45 ?_
        obtain ⟨q107, eq107, h⟩ := bdS h
        refine y_callV (pc := 48) (As := [.ref (ad (rf x0 14)), .ref (ad (rf x0 15)), .ref (ad (rf x0 16))]) (rest := []) C (mX10_layOn (fu := fu) eq107) vwX10_148 rfl (by decide) hx0 rfl rfl (Nat.le_of_ble_eq_true rfl) ⟨Nat.le_of_ble_eq_true rfl, Nat.le_of_ble_eq_true rfl⟩ ⟨Nat.le_refl _, Nat.le_refl _⟩ dX10_lay_48 ?_
        show Y _ _ _ _ _ _ _ _ _ _ _ _ _ _ _ _ _ _ q107 51 [(0, .ref (ad x0)), (1, .int x1)] []
        refine y_aload_n (pc := 51) (q := 0) C dX10_lay_51 rfl rfl ?_
        refine y_aload_n (pc := 52) (q := 0) C dX10_lay_52 rfl rfl ?_
        refine y_getr (pc := 53) C faX10_16 rfl hx0 dX10_lay_53 ?_
        obtain ⟨q108, eq108, h⟩ := bdS h
        refine y_callV (pc := 56) (As := [.ref (ad (rf x0 14))]) (rest := []) C (mX10_worstOf (fu := fu) eq108) vwX10_152 rfl (by decide) hx0 rfl rfl (Nat.le_of_ble_eq_true rfl) ⟨Nat.le_of_ble_eq_true rfl, Nat.le_of_ble_eq_true rfl⟩ ⟨Nat.le_refl _, Nat.le_refl _⟩ dX10_lay_56 ?_
        show Y _ _ _ _ _ _ _ _ _ _ _ _ _ _ _ _ _ _ q108.2 59 [(0, .ref (ad x0)), (1, .int x1)] [.int q108.1]
        cases h
        exact y_iret (pc := 59) C dX10_lay_59
      · rw [if_pos c106] at h
        refine y_bipush (pc := 32) (v := (-103 : Int32)) C dX10_lay_32 (by decide) ?_
        cases h
        exact y_iret (pc := 34) C dX10_lay_34
    · rw [if_pos c104] at h
      refine y_bipush (pc := 18) (v := (-102 : Int32)) C dX10_lay_18 (by decide) ?_
      cases h
      exact y_iret (pc := 20) C dX10_lay_20
  · rw [if_neg c102] at h
    refine y_bipush (pc := 7) (v := (-103 : Int32)) C dX10_lay_7 (by decide) ?_
    cases h
    exact y_iret (pc := 9) C dX10_lay_9
noncomputable def fX10_lay (fu : Nat) (x0 : Nat) (x1 : Int32) (σ : St) : Option (Int32 × St) := if xk x0 = 8 then fX10_lay_0 fu x0 x1 σ else none
theorem mX10_lay {l : Launch} {D : va_G} {cA : ClassId} {bs fu : Nat} {ad : Nat → Nat} {x0 : Nat} {x1 : Int32} {σ : St} {q : Int32 × St} (h : fX10_lay fu x0 x1 σ = some q) : Ct l D cA bs ad yX10_lay cX10_lay 2 (some .int) 2 48 [.ref (ad x0), .int x1] σ (some (.int q.1)) q.2 := by
  unfold fX10_lay at h
  by_cases hx0 : xk x0 = 8
  case neg => rw [if_neg hx0] at h; cases h
  rw [if_pos hx0] at h
  exact Ct.of (by decide) (Nat.le_of_ble_eq_true rfl) (fun p e s m args below meth c C => tX10_lay_0 (fu := fu) C hx0 h)
noncomputable def fX10_lawful_37 (fu : Nat) (x0 : Nat) (x1 : Int32) (s0 : Int32) (σ : St) : Option (Int32 × St) :=
  some (s0, σ)
set_option maxHeartbeats 4000000 in
set_option maxRecDepth 100000 in
theorem tX10_lawful_37 {l : Launch} {D : va_G} {cA : ClassId} {bs : Nat} {ad : Nat → Nat} {p : Program} {e : Env} {s : State} {m : MethodId} {args : Array Value} {below : List Frame} {meth : Method} {c : Code} {fu : Nat} (C : Cx D cA bs ad RX10 cX10_lawful 2 (some .int) p s m args meth c) {x0 : Nat} {x1 : Int32} {s0 : Int32} {q : Int32 × St} (hx0 : xk x0 = 8) {σ : St} (h : fX10_lawful_37 fu x0 x1 s0 σ = some q) : Y D cA bs ad p l e (rmY 2 45) s m args below meth c 2 0 0 (QM D cA bs ad below args s (some (.int q.1)) q.2) σ 37 [(0, .ref (ad x0)), (1, .int x1)] [.int s0] := by
  unfold fX10_lawful_37 at h
  cases h
  exact y_iret (pc := 37) C dX10_lawful_37
noncomputable def fX10_lawful_0 (fu : Nat) (x0 : Nat) (x1 : Int32) (σ : St) : Option (Int32 × St) :=
  (fX10_lacks fu x0 σ).bind fun (q101 : Int32 × St) =>
  if q101.1 = 0 then
    (fX10_readOrder fu x0 x1 q101.2).bind fun (q103 : Int32 × St) =>
    if q103.1 = 0 then
      some ((-102 : Int32), q103.2)
    else
      (fX10_isLawful fu x0 (rf x0 16) q103.2).bind fun (q105 : Int32 × St) =>
      if q105.1 = 0 then
        fX10_lawful_37 fu x0 x1 (0 : Int32) q105.2
      else
        fX10_lawful_37 fu x0 x1 (1 : Int32) q105.2
  else
    some ((-103 : Int32), q101.2)
set_option maxHeartbeats 4000000 in
set_option maxRecDepth 100000 in
theorem tX10_lawful_0 {l : Launch} {D : va_G} {cA : ClassId} {bs : Nat} {ad : Nat → Nat} {p : Program} {e : Env} {s : State} {m : MethodId} {args : Array Value} {below : List Frame} {meth : Method} {c : Code} {fu : Nat} (C : Cx D cA bs ad RX10 cX10_lawful 2 (some .int) p s m args meth c) {x0 : Nat} {x1 : Int32} {q : Int32 × St} (hx0 : xk x0 = 8) {σ : St} (h : fX10_lawful_0 fu x0 x1 σ = some q) : Y D cA bs ad p l e (rmY 2 45) s m args below meth c 2 0 0 (QM D cA bs ad below args s (some (.int q.1)) q.2) σ 0 [(0, .ref (ad x0)), (1, .int x1)] [] := by
  unfold fX10_lawful_0 at h
  refine y_aload_n (pc := 0) (q := 0) C dX10_lawful_0 rfl rfl ?_
  obtain ⟨q101, eq101, h⟩ := bdS h
  refine y_callV (pc := 1) (As := []) (rest := []) C (mX10_lacks (fu := fu) eq101) vwX10_137 rfl (by decide) hx0 rfl rfl (Nat.le_of_ble_eq_true rfl) ⟨Nat.le_of_ble_eq_true rfl, Nat.le_of_ble_eq_true rfl⟩ ⟨Nat.le_refl _, Nat.le_refl _⟩ dX10_lawful_1 ?_
  show Y _ _ _ _ _ _ _ _ _ _ _ _ _ _ _ _ _ _ q101.2 4 [(0, .ref (ad x0)), (1, .int x1)] [.int q101.1]
  refine y_if_eq (pc := 4) (tgt := 10) C dX10_lawful_4 (by decide) (fun c102 => ?_) (fun c102 => ?_)
  · rw [if_pos c102] at h
    refine y_aload_n (pc := 10) (q := 0) C dX10_lawful_10 rfl rfl ?_
    refine y_iload_n (pc := 11) (q := 1) C dX10_lawful_11 rfl rfl ?_
    obtain ⟨q103, eq103, h⟩ := bdS h
    refine y_callV (pc := 12) (As := [.int x1]) (rest := []) C (mX10_readOrder (fu := fu) eq103) vwX10_141 rfl (by decide) hx0 rfl rfl (Nat.le_of_ble_eq_true rfl) ⟨Nat.le_of_ble_eq_true rfl, Nat.le_of_ble_eq_true rfl⟩ ⟨Nat.le_refl _, Nat.le_refl _⟩ dX10_lawful_12 ?_
    show Y _ _ _ _ _ _ _ _ _ _ _ _ _ _ _ _ _ _ q103.2 15 [(0, .ref (ad x0)), (1, .int x1)] [.int q103.1]
    refine y_if_ne (pc := 15) (tgt := 21) C dX10_lawful_15 (by decide) (fun c104 => ?_) (fun c104 => ?_)
    · rw [if_neg c104] at h
      refine y_aload_n (pc := 21) (q := 0) C dX10_lawful_21 rfl rfl ?_
      refine y_aload_n (pc := 22) (q := 0) C dX10_lawful_22 rfl rfl ?_
      refine y_getr (pc := 23) C faX10_22 rfl hx0 dX10_lawful_23 ?_
      obtain ⟨q105, eq105, h⟩ := bdS h
      refine y_callV (pc := 26) (As := [.ref (ad (rf x0 16))]) (rest := []) C (mX10_isLawful (fu := fu) eq105) vwX10_144 rfl (by decide) hx0 rfl rfl (Nat.le_of_ble_eq_true rfl) ⟨Nat.le_of_ble_eq_true rfl, Nat.le_of_ble_eq_true rfl⟩ ⟨Nat.le_refl _, Nat.le_refl _⟩ dX10_lawful_26 ?_
      show Y _ _ _ _ _ _ _ _ _ _ _ _ _ _ _ _ _ _ q105.2 29 [(0, .ref (ad x0)), (1, .int x1)] [.int q105.1]
      refine y_if_eq (pc := 29) (tgt := 36) C dX10_lawful_29 (by decide) (fun c106 => ?_) (fun c106 => ?_)
      · rw [if_pos c106] at h
        refine y_iconst (pc := 36) (v := (0 : Int32)) C dX10_lawful_36 (by decide) ?_
        exact tX10_lawful_37 (fu := fu) C hx0 h
      · rw [if_neg c106] at h
        refine y_iconst (pc := 32) (v := (1 : Int32)) C dX10_lawful_32 (by decide) ?_
        refine y_goto (pc := 33) (tgt := 37) C dX10_lawful_33 (by decide) ?_
        exact tX10_lawful_37 (fu := fu) C hx0 h
    · rw [if_pos c104] at h
      refine y_bipush (pc := 18) (v := (-102 : Int32)) C dX10_lawful_18 (by decide) ?_
      cases h
      exact y_iret (pc := 20) C dX10_lawful_20
  · rw [if_neg c102] at h
    refine y_bipush (pc := 7) (v := (-103 : Int32)) C dX10_lawful_7 (by decide) ?_
    cases h
    exact y_iret (pc := 9) C dX10_lawful_9
noncomputable def fX10_lawful (fu : Nat) (x0 : Nat) (x1 : Int32) (σ : St) : Option (Int32 × St) := if xk x0 = 8 then fX10_lawful_0 fu x0 x1 σ else none
theorem mX10_lawful {l : Launch} {D : va_G} {cA : ClassId} {bs fu : Nat} {ad : Nat → Nat} {x0 : Nat} {x1 : Int32} {σ : St} {q : Int32 × St} (h : fX10_lawful fu x0 x1 σ = some q) : Ct l D cA bs ad yX10_lawful cX10_lawful 2 (some .int) 2 45 [.ref (ad x0), .int x1] σ (some (.int q.1)) q.2 := by
  unfold fX10_lawful at h
  by_cases hx0 : xk x0 = 8
  case neg => rw [if_neg hx0] at h; cases h
  rw [if_pos hx0] at h
  exact Ct.of (by decide) (Nat.le_of_ble_eq_true rfl) (fun p e s m args below meth c C => tX10_lawful_0 (fu := fu) C hx0 h)
noncomputable def fX10_years_27b (fu : Nat) (k27 : Int32 → St → Option (Int32 × St)) (x0 : Nat) (x1 : Int32) (x2 : Int32) (σ : St) : Option (Int32 × St) :=
  if x1 ≤ x2 then
    (fX10_worstOf fu x0 (rf x0 14) σ).bind fun (q102 : Int32 × St) =>
    some (q102.1, q102.2)
  else
    (fX10_yearOn fu x0 (rf x0 14) (rf x0 16) σ).bind fun (q103 : St) =>
    nm (x2 + (1 : Int32)) fun (y104 : Int32) =>
    k27 y104 q103
set_option maxHeartbeats 4000000 in
set_option maxRecDepth 100000 in
theorem tX10_years_27b {l : Launch} {D : va_G} {cA : ClassId} {bs : Nat} {ad : Nat → Nat} {p : Program} {e : Env} {s : State} {m : MethodId} {args : Array Value} {below : List Frame} {meth : Method} {c : Code} {fu : Nat} (C : Cx D cA bs ad RX10 cX10_years 3 (some .int) p s m args meth c) {k27 : Int32 → St → Option (Int32 × St)} {x0 : Nat} {x1 : Int32} {x2 : Int32} {q : Int32 × St} (hx0 : xk x0 = 8) (hk27 : ∀ (x2 : Int32) (σ : St), k27 x2 σ = some q → Y D cA bs ad p l e (rmY 2 46) s m args below meth c 3 0 0 (QM D cA bs ad below args s (some (.int q.1)) q.2) σ 27 [(0, .ref (ad x0)), (1, .int x1), (2, .int x2)] []) {σ : St} (h : fX10_years_27b fu k27 x0 x1 x2 σ = some q) : Y D cA bs ad p l e (rmY 2 46) s m args below meth c 3 0 0 (QM D cA bs ad below args s (some (.int q.1)) q.2) σ 27 [(0, .ref (ad x0)), (1, .int x1), (2, .int x2)] [] := by
  unfold fX10_years_27b at h
  refine y_iload_n (pc := 27) (q := 2) C dX10_years_27 rfl rfl ?_
  refine y_iload_n (pc := 28) (q := 1) C dX10_years_28 rfl rfl ?_
  refine y_icmp_ge (pc := 29) (tgt := 50) C dX10_years_29 (by decide) (fun c101 => ?_) (fun c101 => ?_)
  · rw [if_pos c101] at h
    refine y_aload_n (pc := 50) (q := 0) C dX10_years_50 rfl rfl ?_
    refine y_aload_n (pc := 51) (q := 0) C dX10_years_51 rfl rfl ?_
    refine y_getr (pc := 52) C faX10_16 rfl hx0 dX10_years_52 ?_
    obtain ⟨q102, eq102, h⟩ := bdS h
    refine y_callV (pc := 55) (As := [.ref (ad (rf x0 14))]) (rest := []) C (mX10_worstOf (fu := fu) eq102) vwX10_152 rfl (by decide) hx0 rfl rfl (Nat.le_of_ble_eq_true rfl) ⟨Nat.le_of_ble_eq_true rfl, Nat.le_of_ble_eq_true rfl⟩ ⟨Nat.le_refl _, Nat.le_refl _⟩ dX10_years_55 ?_
    show Y _ _ _ _ _ _ _ _ _ _ _ _ _ _ _ _ _ _ q102.2 58 [(0, .ref (ad x0)), (1, .int x1), (2, .int x2)] [.int q102.1]
    cases h
    exact y_iret (pc := 58) C dX10_years_58
  · rw [if_neg c101] at h
    refine y_aload_n (pc := 32) (q := 0) C dX10_years_32 rfl rfl ?_
    refine y_aload_n (pc := 33) (q := 0) C dX10_years_33 rfl rfl ?_
    refine y_getr (pc := 34) C faX10_16 rfl hx0 dX10_years_34 ?_
    refine y_aload_n (pc := 37) (q := 0) C dX10_years_37 rfl rfl ?_
    refine y_getr (pc := 38) C faX10_22 rfl hx0 dX10_years_38 ?_
    obtain ⟨q103, eq103, h⟩ := bdS h
    refine y_callV (pc := 41) (As := [.ref (ad (rf x0 14)), .ref (ad (rf x0 16))]) (rest := []) C (mX10_yearOn (fu := fu) eq103) vwX10_158 rfl (by decide) hx0 rfl rfl (Nat.le_of_ble_eq_true rfl) ⟨Nat.le_of_ble_eq_true rfl, Nat.le_of_ble_eq_true rfl⟩ ⟨Nat.le_refl _, Nat.le_refl _⟩ dX10_years_41 ?_
    show Y _ _ _ _ _ _ _ _ _ _ _ _ _ _ _ _ _ _ q103 44 [(0, .ref (ad x0)), (1, .int x1), (2, .int x2)] []
    obtain ⟨y104, ey104, h⟩ := nmS h
    refine y_iinc (pc := 44) (v := y104) (k := 2) (lv' := [(2, .int y104), (0, .ref (ad x0)), (1, .int x1)]) C dX10_years_44 rfl (by rw [ey104]; rfl) (by decide) rfl ?_
    refine y_goto (pc := 47) (tgt := 27) C dX10_years_47 (by decide) ?_
    refine y_sub [1, 2, 0] (lv' := [(0, .ref (ad x0)), (1, .int x1), (2, .int y104)]) rfl ?_
    exact hk27 _ _ h
noncomputable def fX10_years_27 (fu : Nat) (x0 : Nat) (x1 : Int32) : Nat → Int32 → St → Option (Int32 × St) := lp (fun k27 => fX10_years_27b fu k27 x0 x1) (fun _ _ => none)
set_option maxHeartbeats 4000000 in
theorem tX10_years_27 {l : Launch} {D : va_G} {cA : ClassId} {bs : Nat} {ad : Nat → Nat} {p : Program} {e : Env} {s : State} {m : MethodId} {args : Array Value} {below : List Frame} {meth : Method} {c : Code} {fu : Nat} (C : Cx D cA bs ad RX10 cX10_years 3 (some .int) p s m args meth c) {x0 : Nat} {x1 : Int32} {q : Int32 × St} (hx0 : xk x0 = 8)  : ∀ (n : Nat) (x2 : Int32) (σ : St), fX10_years_27 fu  x0 x1 n x2 σ = some q → Y D cA bs ad p l e (rmY 2 46) s m args below meth c 3 0 0 (QM D cA bs ad below args s (some (.int q.1)) q.2) σ 27 [(0, .ref (ad x0)), (1, .int x1), (2, .int x2)] [] := by
  intro n
  induction n with
  | zero => intro x2 σ h; cases h
  | succ n ih => intro x2 σ h; exact tX10_years_27b (fu := fu) C hx0 ih h
noncomputable def fX10_years_0 (fu : Nat) (x0 : Nat) (x1 : Int32) (σ : St) : Option (Int32 × St) :=
  (fX10_lacks fu x0 σ).bind fun (q101 : Int32 × St) =>
  if q101.1 = 0 then
    (fX10_in fu x1.toInt64 (1 : Int64) (99 : Int64) q101.2).bind fun (q103 : Int32 × St) =>
    if q103.1 = 0 then
      some ((-102 : Int32), q103.2)
    else
      fX10_years_27 fu x0 x1 fu (0 : Int32) q103.2
  else
    some ((-103 : Int32), q101.2)
set_option maxHeartbeats 4000000 in
set_option maxRecDepth 100000 in
theorem tX10_years_0 {l : Launch} {D : va_G} {cA : ClassId} {bs : Nat} {ad : Nat → Nat} {p : Program} {e : Env} {s : State} {m : MethodId} {args : Array Value} {below : List Frame} {meth : Method} {c : Code} {fu : Nat} (C : Cx D cA bs ad RX10 cX10_years 3 (some .int) p s m args meth c) {x0 : Nat} {x1 : Int32} {q : Int32 × St} (hx0 : xk x0 = 8) {σ : St} (h : fX10_years_0 fu x0 x1 σ = some q) : Y D cA bs ad p l e (rmY 2 46) s m args below meth c 3 0 0 (QM D cA bs ad below args s (some (.int q.1)) q.2) σ 0 [(0, .ref (ad x0)), (1, .int x1)] [] := by
  unfold fX10_years_0 at h
  refine y_aload_n (pc := 0) (q := 0) C dX10_years_0 rfl rfl ?_
  obtain ⟨q101, eq101, h⟩ := bdS h
  refine y_callV (pc := 1) (As := []) (rest := []) C (mX10_lacks (fu := fu) eq101) vwX10_137 rfl (by decide) hx0 rfl rfl (Nat.le_of_ble_eq_true rfl) ⟨Nat.le_of_ble_eq_true rfl, Nat.le_of_ble_eq_true rfl⟩ ⟨Nat.le_refl _, Nat.le_refl _⟩ dX10_years_1 ?_
  show Y _ _ _ _ _ _ _ _ _ _ _ _ _ _ _ _ _ _ q101.2 4 [(0, .ref (ad x0)), (1, .int x1)] [.int q101.1]
  refine y_if_eq (pc := 4) (tgt := 10) C dX10_years_4 (by decide) (fun c102 => ?_) (fun c102 => ?_)
  · rw [if_pos c102] at h
    refine y_iload_n (pc := 10) (q := 1) C dX10_years_10 rfl rfl ?_
    refine y_i2l (pc := 11) C dX10_years_11 ?_
    refine y_lconst (pc := 12) (v := (1 : Int64)) C dX10_years_12 (by decide) ?_
    refine y_ldc2 (pc := 13) C dX10_years_13 cwX10_156 ?_
    obtain ⟨q103, eq103, h⟩ := bdS h
    refine y_callS (pc := 16) (As := [.long x1.toInt64, .long (1 : Int64), .long (99 : Int64)]) (rest := []) C (mX10_in (fu := fu) eq103) vwX10_68 rfl rfl (Nat.le_of_ble_eq_true rfl) ⟨Nat.le_of_ble_eq_true rfl, Nat.le_of_ble_eq_true rfl⟩ ⟨Nat.le_refl _, Nat.le_refl _⟩ dX10_years_16 ?_
    show Y _ _ _ _ _ _ _ _ _ _ _ _ _ _ _ _ _ _ q103.2 19 [(0, .ref (ad x0)), (1, .int x1)] [.int q103.1]
    refine y_if_ne (pc := 19) (tgt := 25) C dX10_years_19 (by decide) (fun c104 => ?_) (fun c104 => ?_)
    · rw [if_neg c104] at h
      refine y_iconst (pc := 25) (v := (0 : Int32)) C dX10_years_25 (by decide) ?_
      refine y_istore_n (pc := 26) (lv' := [(2, .int (0 : Int32)), (0, .ref (ad x0)), (1, .int x1)]) C dX10_years_26 rfl (by decide) rfl ?_
      refine y_sub [1, 2, 0] (lv' := [(0, .ref (ad x0)), (1, .int x1), (2, .int (0 : Int32))]) rfl ?_
      exact tX10_years_27 (fu := fu) C hx0 fu _ _ h
    · rw [if_pos c104] at h
      refine y_bipush (pc := 22) (v := (-102 : Int32)) C dX10_years_22 (by decide) ?_
      cases h
      exact y_iret (pc := 24) C dX10_years_24
  · rw [if_neg c102] at h
    refine y_bipush (pc := 7) (v := (-103 : Int32)) C dX10_years_7 (by decide) ?_
    cases h
    exact y_iret (pc := 9) C dX10_years_9
noncomputable def fX10_years (fu : Nat) (x0 : Nat) (x1 : Int32) (σ : St) : Option (Int32 × St) := if xk x0 = 8 then fX10_years_0 fu x0 x1 σ else none
theorem mX10_years {l : Launch} {D : va_G} {cA : ClassId} {bs fu : Nat} {ad : Nat → Nat} {x0 : Nat} {x1 : Int32} {σ : St} {q : Int32 × St} (h : fX10_years fu x0 x1 σ = some q) : Ct l D cA bs ad yX10_years cX10_years 3 (some .int) 2 46 [.ref (ad x0), .int x1] σ (some (.int q.1)) q.2 := by
  unfold fX10_years at h
  by_cases hx0 : xk x0 = 8
  case neg => rw [if_neg hx0] at h; cases h
  rw [if_pos hx0] at h
  exact Ct.of (by decide) (Nat.le_of_ble_eq_true rfl) (fun p e s m args below meth c C => tX10_years_0 (fu := fu) C hx0 h)
noncomputable def fX10_worst_20 (fu : Nat) (x0 : Nat) (s0 : Int32) (σ : St) : Option (Int32 × St) :=
  some (s0, σ)
set_option maxHeartbeats 4000000 in
set_option maxRecDepth 100000 in
theorem tX10_worst_20 {l : Launch} {D : va_G} {cA : ClassId} {bs : Nat} {ad : Nat → Nat} {p : Program} {e : Env} {s : State} {m : MethodId} {args : Array Value} {below : List Frame} {meth : Method} {c : Code} {fu : Nat} (C : Cx D cA bs ad RX10 cX10_worst 1 (some .int) p s m args meth c) {x0 : Nat} {s0 : Int32} {q : Int32 × St} (hx0 : xk x0 = 8) {σ : St} (h : fX10_worst_20 fu x0 s0 σ = some q) : Y D cA bs ad p l e (rmY 1 23) s m args below meth c 1 0 0 (QM D cA bs ad below args s (some (.int q.1)) q.2) σ 20 [(0, .ref (ad x0))] [.int s0] := by
  unfold fX10_worst_20 at h
  cases h
  exact y_iret (pc := 20) C dX10_worst_20
noncomputable def fX10_worst_0 (fu : Nat) (x0 : Nat) (σ : St) : Option (Int32 × St) :=
  (fX10_lacks fu x0 σ).bind fun (q101 : Int32 × St) =>
  if q101.1 = 0 then
    (fX10_worstOf fu x0 (rf x0 14) q101.2).bind fun (q103 : Int32 × St) =>
    fX10_worst_20 fu x0 q103.1 q103.2
  else
    fX10_worst_20 fu x0 (-103 : Int32) q101.2
set_option maxHeartbeats 4000000 in
set_option maxRecDepth 100000 in
theorem tX10_worst_0 {l : Launch} {D : va_G} {cA : ClassId} {bs : Nat} {ad : Nat → Nat} {p : Program} {e : Env} {s : State} {m : MethodId} {args : Array Value} {below : List Frame} {meth : Method} {c : Code} {fu : Nat} (C : Cx D cA bs ad RX10 cX10_worst 1 (some .int) p s m args meth c) {x0 : Nat} {q : Int32 × St} (hx0 : xk x0 = 8) {σ : St} (h : fX10_worst_0 fu x0 σ = some q) : Y D cA bs ad p l e (rmY 1 23) s m args below meth c 1 0 0 (QM D cA bs ad below args s (some (.int q.1)) q.2) σ 0 [(0, .ref (ad x0))] [] := by
  unfold fX10_worst_0 at h
  refine y_aload_n (pc := 0) (q := 0) C dX10_worst_0 rfl rfl ?_
  obtain ⟨q101, eq101, h⟩ := bdS h
  refine y_callV (pc := 1) (As := []) (rest := []) C (mX10_lacks (fu := fu) eq101) vwX10_137 rfl (by decide) hx0 rfl rfl (Nat.le_of_ble_eq_true rfl) ⟨Nat.le_of_ble_eq_true rfl, Nat.le_of_ble_eq_true rfl⟩ ⟨Nat.le_refl _, Nat.le_refl _⟩ dX10_worst_1 ?_
  show Y _ _ _ _ _ _ _ _ _ _ _ _ _ _ _ _ _ _ q101.2 4 [(0, .ref (ad x0))] [.int q101.1]
  refine y_if_eq (pc := 4) (tgt := 12) C dX10_worst_4 (by decide) (fun c102 => ?_) (fun c102 => ?_)
  · rw [if_pos c102] at h
    refine y_aload_n (pc := 12) (q := 0) C dX10_worst_12 rfl rfl ?_
    refine y_aload_n (pc := 13) (q := 0) C dX10_worst_13 rfl rfl ?_
    refine y_getr (pc := 14) C faX10_16 rfl hx0 dX10_worst_14 ?_
    obtain ⟨q103, eq103, h⟩ := bdS h
    refine y_callV (pc := 17) (As := [.ref (ad (rf x0 14))]) (rest := []) C (mX10_worstOf (fu := fu) eq103) vwX10_152 rfl (by decide) hx0 rfl rfl (Nat.le_of_ble_eq_true rfl) ⟨Nat.le_of_ble_eq_true rfl, Nat.le_of_ble_eq_true rfl⟩ ⟨Nat.le_refl _, Nat.le_refl _⟩ dX10_worst_17 ?_
    show Y _ _ _ _ _ _ _ _ _ _ _ _ _ _ _ _ _ _ q103.2 20 [(0, .ref (ad x0))] [.int q103.1]
    exact tX10_worst_20 (fu := fu) C hx0 h
  · rw [if_neg c102] at h
    refine y_bipush (pc := 7) (v := (-103 : Int32)) C dX10_worst_7 (by decide) ?_
    refine y_goto (pc := 9) (tgt := 20) C dX10_worst_9 (by decide) ?_
    exact tX10_worst_20 (fu := fu) C hx0 h
noncomputable def fX10_worst (fu : Nat) (x0 : Nat) (σ : St) : Option (Int32 × St) := if xk x0 = 8 then fX10_worst_0 fu x0 σ else none
theorem mX10_worst {l : Launch} {D : va_G} {cA : ClassId} {bs fu : Nat} {ad : Nat → Nat} {x0 : Nat} {σ : St} {q : Int32 × St} (h : fX10_worst fu x0 σ = some q) : Ct l D cA bs ad yX10_worst cX10_worst 1 (some .int) 1 23 [.ref (ad x0)] σ (some (.int q.1)) q.2 := by
  unfold fX10_worst at h
  by_cases hx0 : xk x0 = 8
  case neg => rw [if_neg hx0] at h; cases h
  rw [if_pos hx0] at h
  exact Ct.of (by decide) (Nat.le_of_ble_eq_true rfl) (fun p e s m args below meth c C => tX10_worst_0 (fu := fu) C hx0 h)
noncomputable def fX10_wouldBe_96 (fu : Nat) (k5 : Int32 → Int32 → St → Option (Int32 × St)) (x0 : Nat) (x1 : Nat) (x2 : Nat) (x4 : Int32) (s0 : Int32) (σ : St) : Option (Int32 × St) :=
  nm (x4 + (1 : Int32)) fun (y101 : Int32) =>
  k5 s0 y101 σ
set_option maxHeartbeats 4000000 in
set_option maxRecDepth 100000 in
theorem tX10_wouldBe_96 {l : Launch} {D : va_G} {cA : ClassId} {bs : Nat} {ad : Nat → Nat} {p : Program} {e : Env} {s : State} {m : MethodId} {args : Array Value} {below : List Frame} {meth : Method} {c : Code} {fu : Nat} (C : Cx D cA bs ad RX10 cX10_wouldBe 8 (some .int) p s m args meth c) {k5 : Int32 → Int32 → St → Option (Int32 × St)} {x0 : Nat} {x1 : Nat} {x2 : Nat} {x4 : Int32} {s0 : Int32} {q : Int32 × St} (hx0 : xk x0 = 8) (hx1 : xk x1 = 16) (hx2 : xk x2 = 16) (hk5 : ∀ (x3 : Int32) (x4 : Int32) (σ : St), k5 x3 x4 σ = some q → Y D cA bs ad p l e (rmY 1 23) s m args below meth c 8 0 0 (QM D cA bs ad below args s (some (.int q.1)) q.2) σ 5 [(0, .ref (ad x0)), (1, .ref (ad x1)), (2, .ref (ad x2)), (3, .int x3), (4, .int x4)] []) {σ : St} (h : fX10_wouldBe_96 fu k5 x0 x1 x2 x4 s0 σ = some q) : Y D cA bs ad p l e (rmY 1 23) s m args below meth c 8 0 0 (QM D cA bs ad below args s (some (.int q.1)) q.2) σ 96 [(0, .ref (ad x0)), (1, .ref (ad x1)), (2, .ref (ad x2)), (4, .int x4)] [.int s0] := by
  unfold fX10_wouldBe_96 at h
  refine y_istore_n (pc := 96) (lv' := [(3, .int s0), (0, .ref (ad x0)), (1, .ref (ad x1)), (2, .ref (ad x2)), (4, .int x4)]) C dX10_wouldBe_96 rfl (by decide) rfl ?_
  obtain ⟨y101, ey101, h⟩ := nmS h
  refine y_iinc (pc := 97) (v := y101) (k := 4) (lv' := [(4, .int y101), (3, .int s0), (0, .ref (ad x0)), (1, .ref (ad x1)), (2, .ref (ad x2))]) C dX10_wouldBe_97 rfl (by rw [ey101]; rfl) (by decide) rfl ?_
  refine y_goto (pc := 100) (tgt := 5) C dX10_wouldBe_100 (by decide) ?_
  refine y_sub [2, 3, 4, 1, 0] (lv' := [(0, .ref (ad x0)), (1, .ref (ad x1)), (2, .ref (ad x2)), (3, .int s0), (4, .int y101)]) rfl ?_
  exact hk5 _ _ _ h
noncomputable def fX10_wouldBe_72 (fu : Nat) (k5 : Int32 → Int32 → St → Option (Int32 × St)) (x0 : Nat) (x1 : Nat) (x2 : Nat) (x3 : Int32) (x4 : Int32) (s0 : Int32) (s1 : Int32) (σ : St) : Option (Int32 × St) :=
  (ald σ (rf x0 18) 7 x4).bind fun (v101 : Int32) =>
  (fX10_worn fu s0 s1 v101 σ).bind fun (q102 : Int32 × St) =>
  if q102.1 ≤ x3 then
    fX10_wouldBe_96 fu k5 x0 x1 x2 x4 x3 q102.2
  else
    fX10_wouldBe_96 fu k5 x0 x1 x2 x4 q102.1 q102.2
set_option maxHeartbeats 4000000 in
set_option maxRecDepth 100000 in
theorem tX10_wouldBe_72 {l : Launch} {D : va_G} {cA : ClassId} {bs : Nat} {ad : Nat → Nat} {p : Program} {e : Env} {s : State} {m : MethodId} {args : Array Value} {below : List Frame} {meth : Method} {c : Code} {fu : Nat} (C : Cx D cA bs ad RX10 cX10_wouldBe 8 (some .int) p s m args meth c) {k5 : Int32 → Int32 → St → Option (Int32 × St)} {x0 : Nat} {x1 : Nat} {x2 : Nat} {x3 : Int32} {x4 : Int32} {s0 : Int32} {s1 : Int32} {q : Int32 × St} (hx0 : xk x0 = 8) (hx1 : xk x1 = 16) (hx2 : xk x2 = 16) (hk5 : ∀ (x3 : Int32) (x4 : Int32) (σ : St), k5 x3 x4 σ = some q → Y D cA bs ad p l e (rmY 1 23) s m args below meth c 8 0 0 (QM D cA bs ad below args s (some (.int q.1)) q.2) σ 5 [(0, .ref (ad x0)), (1, .ref (ad x1)), (2, .ref (ad x2)), (3, .int x3), (4, .int x4)] []) {σ : St} (h : fX10_wouldBe_72 fu k5 x0 x1 x2 x3 x4 s0 s1 σ = some q) : Y D cA bs ad p l e (rmY 1 23) s m args below meth c 8 0 0 (QM D cA bs ad below args s (some (.int q.1)) q.2) σ 72 [(0, .ref (ad x0)), (1, .ref (ad x1)), (2, .ref (ad x2)), (3, .int x3), (4, .int x4)] [.int s1, .int s0] := by
  unfold fX10_wouldBe_72 at h
  refine y_aload_n (pc := 72) (q := 0) C dX10_wouldBe_72 rfl rfl ?_
  refine y_getr (pc := 73) C faX10_28 rfl hx0 dX10_wouldBe_73 ?_
  refine y_iload (pc := 76) (q := 4) C dX10_wouldBe_76 rfl ?_
  obtain ⟨v101, ev101, h⟩ := bdS h
  refine y_iald (pc := 78) (n := 7) C (rf_8_18 _ hx0) (by decide) ev101 dX10_wouldBe_78 ?_
  obtain ⟨q102, eq102, h⟩ := bdS h
  refine y_callS (pc := 79) (As := [.int s0, .int s1, .int v101]) (rest := []) C (mX10_worn (fu := fu) eq102) vwX10_133 rfl rfl (Nat.le_of_ble_eq_true rfl) ⟨Nat.le_of_ble_eq_true rfl, Nat.le_of_ble_eq_true rfl⟩ ⟨Nat.le_refl _, Nat.le_refl _⟩ dX10_wouldBe_79 ?_
  show Y _ _ _ _ _ _ _ _ _ _ _ _ _ _ _ _ _ _ q102.2 82 [(0, .ref (ad x0)), (1, .ref (ad x1)), (2, .ref (ad x2)), (3, .int x3), (4, .int x4)] [.int q102.1]
  refine y_istore (pc := 82) (lv' := [(7, .int q102.1), (0, .ref (ad x0)), (1, .ref (ad x1)), (2, .ref (ad x2)), (3, .int x3), (4, .int x4)]) C dX10_wouldBe_82 (by decide) rfl ?_
  refine y_iload (pc := 84) (q := 0) C dX10_wouldBe_84 rfl ?_
  refine y_iload_n (pc := 86) (q := 4) C dX10_wouldBe_86 rfl rfl ?_
  refine y_icmp_le (pc := 87) (tgt := 95) C dX10_wouldBe_87 (by decide) (fun c103 => ?_) (fun c103 => ?_)
  · rw [if_pos c103] at h
    refine y_iload_n (pc := 95) (q := 4) C dX10_wouldBe_95 rfl rfl ?_
    refine y_sub [1, 2, 3, 5] (lv' := [(0, .ref (ad x0)), (1, .ref (ad x1)), (2, .ref (ad x2)), (4, .int x4)]) rfl ?_
    exact tX10_wouldBe_96 (fu := fu) C hx0 hx1 hx2 hk5 h
  · rw [if_neg c103] at h
    refine y_iload (pc := 90) (q := 0) C dX10_wouldBe_90 rfl ?_
    refine y_goto (pc := 92) (tgt := 96) C dX10_wouldBe_92 (by decide) ?_
    refine y_sub [1, 2, 3, 5] (lv' := [(0, .ref (ad x0)), (1, .ref (ad x1)), (2, .ref (ad x2)), (4, .int x4)]) rfl ?_
    exact tX10_wouldBe_96 (fu := fu) C hx0 hx1 hx2 hk5 h
noncomputable def fX10_wouldBe_47 (fu : Nat) (k5 : Int32 → Int32 → St → Option (Int32 × St)) (x0 : Nat) (x1 : Nat) (x2 : Nat) (x3 : Int32) (x4 : Int32) (x5 : Int32) (s0 : Int32) (σ : St) : Option (Int32 × St) :=
  (ald σ (rf x0 13) 7 x5).bind fun (v101 : Int32) =>
  if s0 = 0 then
    (ald σ x1 7 x5).bind fun (v103 : Int32) =>
    fX10_wouldBe_72 fu k5 x0 x1 x2 x3 x4 v101 v103 σ
  else
    (ald σ x2 7 x5).bind fun (v104 : Int32) =>
    fX10_wouldBe_72 fu k5 x0 x1 x2 x3 x4 v101 v104 σ
set_option maxHeartbeats 4000000 in
set_option maxRecDepth 100000 in
theorem tX10_wouldBe_47 {l : Launch} {D : va_G} {cA : ClassId} {bs : Nat} {ad : Nat → Nat} {p : Program} {e : Env} {s : State} {m : MethodId} {args : Array Value} {below : List Frame} {meth : Method} {c : Code} {fu : Nat} (C : Cx D cA bs ad RX10 cX10_wouldBe 8 (some .int) p s m args meth c) {k5 : Int32 → Int32 → St → Option (Int32 × St)} {x0 : Nat} {x1 : Nat} {x2 : Nat} {x3 : Int32} {x4 : Int32} {x5 : Int32} {s0 : Int32} {q : Int32 × St} (hx0 : xk x0 = 8) (hx1 : xk x1 = 16) (hx2 : xk x2 = 16) (hk5 : ∀ (x3 : Int32) (x4 : Int32) (σ : St), k5 x3 x4 σ = some q → Y D cA bs ad p l e (rmY 1 23) s m args below meth c 8 0 0 (QM D cA bs ad below args s (some (.int q.1)) q.2) σ 5 [(0, .ref (ad x0)), (1, .ref (ad x1)), (2, .ref (ad x2)), (3, .int x3), (4, .int x4)] []) {σ : St} (h : fX10_wouldBe_47 fu k5 x0 x1 x2 x3 x4 x5 s0 σ = some q) : Y D cA bs ad p l e (rmY 1 23) s m args below meth c 8 0 0 (QM D cA bs ad below args s (some (.int q.1)) q.2) σ 47 [(0, .ref (ad x0)), (1, .ref (ad x1)), (2, .ref (ad x2)), (3, .int x3), (4, .int x4), (5, .int x5)] [.int s0] := by
  unfold fX10_wouldBe_47 at h
  refine y_istore (pc := 47) (lv' := [(6, .int s0), (0, .ref (ad x0)), (1, .ref (ad x1)), (2, .ref (ad x2)), (3, .int x3), (4, .int x4), (5, .int x5)]) C dX10_wouldBe_47 (by decide) rfl ?_
  refine y_aload_n (pc := 49) (q := 1) C dX10_wouldBe_49 rfl rfl ?_
  refine y_getr (pc := 50) C faX10_13 rfl hx0 dX10_wouldBe_50 ?_
  refine y_iload (pc := 53) (q := 6) C dX10_wouldBe_53 rfl ?_
  obtain ⟨v101, ev101, h⟩ := bdS h
  refine y_iald (pc := 55) (n := 7) C (rf_8_13 _ hx0) (by decide) ev101 dX10_wouldBe_55 ?_
  refine y_iload (pc := 56) (q := 0) C dX10_wouldBe_56 rfl ?_
  refine y_if_eq (pc := 58) (tgt := 68) C dX10_wouldBe_58 (by decide) (fun c102 => ?_) (fun c102 => ?_)
  · rw [if_pos c102] at h
    refine y_aload_n (pc := 68) (q := 2) C dX10_wouldBe_68 rfl rfl ?_
    refine y_iload (pc := 69) (q := 6) C dX10_wouldBe_69 rfl ?_
    obtain ⟨v103, ev103, h⟩ := bdS h
    refine y_iald (pc := 71) (n := 7) C hx1 (by decide) ev103 dX10_wouldBe_71 ?_
    refine y_sub [1, 2, 3, 4, 5] (lv' := [(0, .ref (ad x0)), (1, .ref (ad x1)), (2, .ref (ad x2)), (3, .int x3), (4, .int x4)]) rfl ?_
    exact tX10_wouldBe_72 (fu := fu) C hx0 hx1 hx2 hk5 h
  · rw [if_neg c102] at h
    refine y_aload_n (pc := 61) (q := 3) C dX10_wouldBe_61 rfl rfl ?_
    refine y_iload (pc := 62) (q := 6) C dX10_wouldBe_62 rfl ?_
    obtain ⟨v104, ev104, h⟩ := bdS h
    refine y_iald (pc := 64) (n := 7) C hx2 (by decide) ev104 dX10_wouldBe_64 ?_
    refine y_goto (pc := 65) (tgt := 72) C dX10_wouldBe_65 (by decide) ?_
    refine y_sub [1, 2, 3, 4, 5] (lv' := [(0, .ref (ad x0)), (1, .ref (ad x1)), (2, .ref (ad x2)), (3, .int x3), (4, .int x4)]) rfl ?_
    exact tX10_wouldBe_72 (fu := fu) C hx0 hx1 hx2 hk5 h
noncomputable def fX10_wouldBe_46 (fu : Nat) (k5 : Int32 → Int32 → St → Option (Int32 × St)) (x0 : Nat) (x1 : Nat) (x2 : Nat) (x3 : Int32) (x4 : Int32) (x5 : Int32) (σ : St) : Option (Int32 × St) :=
  fX10_wouldBe_47 fu k5 x0 x1 x2 x3 x4 x5 (0 : Int32) σ
set_option maxHeartbeats 4000000 in
set_option maxRecDepth 100000 in
theorem tX10_wouldBe_46 {l : Launch} {D : va_G} {cA : ClassId} {bs : Nat} {ad : Nat → Nat} {p : Program} {e : Env} {s : State} {m : MethodId} {args : Array Value} {below : List Frame} {meth : Method} {c : Code} {fu : Nat} (C : Cx D cA bs ad RX10 cX10_wouldBe 8 (some .int) p s m args meth c) {k5 : Int32 → Int32 → St → Option (Int32 × St)} {x0 : Nat} {x1 : Nat} {x2 : Nat} {x3 : Int32} {x4 : Int32} {x5 : Int32} {q : Int32 × St} (hx0 : xk x0 = 8) (hx1 : xk x1 = 16) (hx2 : xk x2 = 16) (hk5 : ∀ (x3 : Int32) (x4 : Int32) (σ : St), k5 x3 x4 σ = some q → Y D cA bs ad p l e (rmY 1 23) s m args below meth c 8 0 0 (QM D cA bs ad below args s (some (.int q.1)) q.2) σ 5 [(0, .ref (ad x0)), (1, .ref (ad x1)), (2, .ref (ad x2)), (3, .int x3), (4, .int x4)] []) {σ : St} (h : fX10_wouldBe_46 fu k5 x0 x1 x2 x3 x4 x5 σ = some q) : Y D cA bs ad p l e (rmY 1 23) s m args below meth c 8 0 0 (QM D cA bs ad below args s (some (.int q.1)) q.2) σ 46 [(0, .ref (ad x0)), (1, .ref (ad x1)), (2, .ref (ad x2)), (3, .int x3), (4, .int x4), (5, .int x5)] [] := by
  unfold fX10_wouldBe_46 at h
  refine y_iconst (pc := 46) (v := (0 : Int32)) C dX10_wouldBe_46 (by decide) ?_
  exact tX10_wouldBe_47 (fu := fu) C hx0 hx1 hx2 hk5 h
noncomputable def fX10_wouldBe_5b (fu : Nat) (k5 : Int32 → Int32 → St → Option (Int32 × St)) (x0 : Nat) (x1 : Nat) (x2 : Nat) (x3 : Int32) (x4 : Int32) (σ : St) : Option (Int32 × St) :=
  if (σ.1 x0 12) ≤ x4 then
    some (x3, σ)
  else
    (ald σ (rf x0 19) 7 x4).bind fun (v102 : Int32) =>
    if (σ.1 x0 3) = (1 : Int32) then
      (ald σ (rf x0 13) 7 v102).bind fun (v104 : Int32) =>
      if v104 = (4 : Int32) then
        fX10_wouldBe_46 fu k5 x0 x1 x2 x3 x4 v102 σ
      else
        fX10_wouldBe_47 fu k5 x0 x1 x2 x3 x4 v102 (1 : Int32) σ
    else
      fX10_wouldBe_46 fu k5 x0 x1 x2 x3 x4 v102 σ
set_option maxHeartbeats 4000000 in
set_option maxRecDepth 100000 in
theorem tX10_wouldBe_5b {l : Launch} {D : va_G} {cA : ClassId} {bs : Nat} {ad : Nat → Nat} {p : Program} {e : Env} {s : State} {m : MethodId} {args : Array Value} {below : List Frame} {meth : Method} {c : Code} {fu : Nat} (C : Cx D cA bs ad RX10 cX10_wouldBe 8 (some .int) p s m args meth c) {k5 : Int32 → Int32 → St → Option (Int32 × St)} {x0 : Nat} {x1 : Nat} {x2 : Nat} {x3 : Int32} {x4 : Int32} {q : Int32 × St} (hx0 : xk x0 = 8) (hx1 : xk x1 = 16) (hx2 : xk x2 = 16) (hk5 : ∀ (x3 : Int32) (x4 : Int32) (σ : St), k5 x3 x4 σ = some q → Y D cA bs ad p l e (rmY 1 23) s m args below meth c 8 0 0 (QM D cA bs ad below args s (some (.int q.1)) q.2) σ 5 [(0, .ref (ad x0)), (1, .ref (ad x1)), (2, .ref (ad x2)), (3, .int x3), (4, .int x4)] []) {σ : St} (h : fX10_wouldBe_5b fu k5 x0 x1 x2 x3 x4 σ = some q) : Y D cA bs ad p l e (rmY 1 23) s m args below meth c 8 0 0 (QM D cA bs ad below args s (some (.int q.1)) q.2) σ 5 [(0, .ref (ad x0)), (1, .ref (ad x1)), (2, .ref (ad x2)), (3, .int x3), (4, .int x4)] [] := by
  unfold fX10_wouldBe_5b at h
  refine y_iload (pc := 5) (q := 4) C dX10_wouldBe_5 rfl ?_
  refine y_aload_n (pc := 7) (q := 0) C dX10_wouldBe_7 rfl rfl ?_
  refine y_geti (pc := 8) C faX10_105 rfl hx0 dX10_wouldBe_8 ?_
  refine y_icmp_ge (pc := 11) (tgt := 103) C dX10_wouldBe_11 (by decide) (fun c101 => ?_) (fun c101 => ?_)
  · rw [if_pos c101] at h
    refine y_iload_n (pc := 103) (q := 3) C dX10_wouldBe_103 rfl rfl ?_
    cases h
    exact y_iret (pc := 104) C dX10_wouldBe_104
  · rw [if_neg c101] at h
    refine y_aload_n (pc := 14) (q := 0) C dX10_wouldBe_14 rfl rfl ?_
    refine y_getr (pc := 15) C faX10_31 rfl hx0 dX10_wouldBe_15 ?_
    refine y_iload (pc := 18) (q := 4) C dX10_wouldBe_18 rfl ?_
    obtain ⟨v102, ev102, h⟩ := bdS h
    refine y_iald (pc := 20) (n := 7) C (rf_8_19 _ hx0) (by decide) ev102 dX10_wouldBe_20 ?_
    refine y_istore (pc := 21) (lv' := [(5, .int v102), (0, .ref (ad x0)), (1, .ref (ad x1)), (2, .ref (ad x2)), (3, .int x3), (4, .int x4)]) C dX10_wouldBe_21 (by decide) rfl ?_
    refine y_aload_n (pc := 23) (q := 1) C dX10_wouldBe_23 rfl rfl ?_
    refine y_geti (pc := 24) C faX10_92 rfl hx0 dX10_wouldBe_24 ?_
    refine y_iconst (pc := 27) (v := (1 : Int32)) C dX10_wouldBe_27 (by decide) ?_
    refine y_icmp_ne (pc := 28) (tgt := 46) C dX10_wouldBe_28 (by decide) (fun c103 => ?_) (fun c103 => ?_)
    · rw [if_neg c103] at h
      refine y_sub [1, 2, 3, 4, 5, 0] (lv' := [(0, .ref (ad x0)), (1, .ref (ad x1)), (2, .ref (ad x2)), (3, .int x3), (4, .int x4), (5, .int v102)]) rfl ?_
      exact tX10_wouldBe_46 (fu := fu) C hx0 hx1 hx2 hk5 h
    · rw [if_pos c103] at h
      refine y_aload_n (pc := 31) (q := 1) C dX10_wouldBe_31 rfl rfl ?_
      refine y_getr (pc := 32) C faX10_13 rfl hx0 dX10_wouldBe_32 ?_
      refine y_iload (pc := 35) (q := 0) C dX10_wouldBe_35 rfl ?_
      obtain ⟨v104, ev104, h⟩ := bdS h
      refine y_iald (pc := 37) (n := 7) C (rf_8_13 _ hx0) (by decide) ev104 dX10_wouldBe_37 ?_
      refine y_iconst (pc := 38) (v := (4 : Int32)) C dX10_wouldBe_38 (by decide) ?_
      refine y_icmp_eq (pc := 39) (tgt := 46) C dX10_wouldBe_39 (by decide) (fun c105 => ?_) (fun c105 => ?_)
      · rw [if_pos c105] at h
        refine y_sub [1, 2, 3, 4, 5, 0] (lv' := [(0, .ref (ad x0)), (1, .ref (ad x1)), (2, .ref (ad x2)), (3, .int x3), (4, .int x4), (5, .int v102)]) rfl ?_
        exact tX10_wouldBe_46 (fu := fu) C hx0 hx1 hx2 hk5 h
      · rw [if_neg c105] at h
        refine y_iconst (pc := 42) (v := (1 : Int32)) C dX10_wouldBe_42 (by decide) ?_
        refine y_goto (pc := 43) (tgt := 47) C dX10_wouldBe_43 (by decide) ?_
        refine y_sub [1, 2, 3, 4, 5, 0] (lv' := [(0, .ref (ad x0)), (1, .ref (ad x1)), (2, .ref (ad x2)), (3, .int x3), (4, .int x4), (5, .int v102)]) rfl ?_
        exact tX10_wouldBe_47 (fu := fu) C hx0 hx1 hx2 hk5 h
noncomputable def fX10_wouldBe_5 (fu : Nat) (x0 : Nat) (x1 : Nat) (x2 : Nat) : Nat → Int32 → Int32 → St → Option (Int32 × St) := lp (fun k5 => fX10_wouldBe_5b fu k5 x0 x1 x2) (fun _ _ _ => none)
set_option maxHeartbeats 4000000 in
theorem tX10_wouldBe_5 {l : Launch} {D : va_G} {cA : ClassId} {bs : Nat} {ad : Nat → Nat} {p : Program} {e : Env} {s : State} {m : MethodId} {args : Array Value} {below : List Frame} {meth : Method} {c : Code} {fu : Nat} (C : Cx D cA bs ad RX10 cX10_wouldBe 8 (some .int) p s m args meth c) {x0 : Nat} {x1 : Nat} {x2 : Nat} {q : Int32 × St} (hx0 : xk x0 = 8) (hx1 : xk x1 = 16) (hx2 : xk x2 = 16)  : ∀ (n : Nat) (x3 : Int32) (x4 : Int32) (σ : St), fX10_wouldBe_5 fu  x0 x1 x2 n x3 x4 σ = some q → Y D cA bs ad p l e (rmY 1 23) s m args below meth c 8 0 0 (QM D cA bs ad below args s (some (.int q.1)) q.2) σ 5 [(0, .ref (ad x0)), (1, .ref (ad x1)), (2, .ref (ad x2)), (3, .int x3), (4, .int x4)] [] := by
  intro n
  induction n with
  | zero => intro x3 x4 σ h; cases h
  | succ n ih => intro x3 x4 σ h; exact tX10_wouldBe_5b (fu := fu) C hx0 hx1 hx2 ih h
noncomputable def fX10_wouldBe_0 (fu : Nat) (x0 : Nat) (x1 : Nat) (x2 : Nat) (σ : St) : Option (Int32 × St) :=
  fX10_wouldBe_5 fu x0 x1 x2 fu (0 : Int32) (0 : Int32) σ
set_option maxHeartbeats 4000000 in
set_option maxRecDepth 100000 in
theorem tX10_wouldBe_0 {l : Launch} {D : va_G} {cA : ClassId} {bs : Nat} {ad : Nat → Nat} {p : Program} {e : Env} {s : State} {m : MethodId} {args : Array Value} {below : List Frame} {meth : Method} {c : Code} {fu : Nat} (C : Cx D cA bs ad RX10 cX10_wouldBe 8 (some .int) p s m args meth c) {x0 : Nat} {x1 : Nat} {x2 : Nat} {q : Int32 × St} (hx0 : xk x0 = 8) (hx1 : xk x1 = 16) (hx2 : xk x2 = 16) {σ : St} (h : fX10_wouldBe_0 fu x0 x1 x2 σ = some q) : Y D cA bs ad p l e (rmY 1 23) s m args below meth c 8 0 0 (QM D cA bs ad below args s (some (.int q.1)) q.2) σ 0 [(0, .ref (ad x0)), (1, .ref (ad x1)), (2, .ref (ad x2))] [] := by
  unfold fX10_wouldBe_0 at h
  refine y_iconst (pc := 0) (v := (0 : Int32)) C dX10_wouldBe_0 (by decide) ?_
  refine y_istore_n (pc := 1) (lv' := [(3, .int (0 : Int32)), (0, .ref (ad x0)), (1, .ref (ad x1)), (2, .ref (ad x2))]) C dX10_wouldBe_1 rfl (by decide) rfl ?_
  refine y_iconst (pc := 2) (v := (0 : Int32)) C dX10_wouldBe_2 (by decide) ?_
  refine y_istore (pc := 3) (lv' := [(4, .int (0 : Int32)), (3, .int (0 : Int32)), (0, .ref (ad x0)), (1, .ref (ad x1)), (2, .ref (ad x2))]) C dX10_wouldBe_3 (by decide) rfl ?_
  refine y_sub [2, 3, 4, 1, 0] (lv' := [(0, .ref (ad x0)), (1, .ref (ad x1)), (2, .ref (ad x2)), (3, .int (0 : Int32)), (4, .int (0 : Int32))]) rfl ?_
  exact tX10_wouldBe_5 (fu := fu) C hx0 hx1 hx2 fu _ _ _ h
noncomputable def fX10_wouldBe (fu : Nat) (x0 : Nat) (x1 : Nat) (x2 : Nat) (σ : St) : Option (Int32 × St) := if xk x0 = 8 then if xk x1 = 16 then if xk x2 = 16 then fX10_wouldBe_0 fu x0 x1 x2 σ else none else none else none
theorem mX10_wouldBe {l : Launch} {D : va_G} {cA : ClassId} {bs fu : Nat} {ad : Nat → Nat} {x0 : Nat} {x1 : Nat} {x2 : Nat} {σ : St} {q : Int32 × St} (h : fX10_wouldBe fu x0 x1 x2 σ = some q) : Ct l D cA bs ad yX10_wouldBe cX10_wouldBe 8 (some .int) 1 23 [.ref (ad x0), .ref (ad x1), .ref (ad x2)] σ (some (.int q.1)) q.2 := by
  unfold fX10_wouldBe at h
  by_cases hx0 : xk x0 = 8
  case neg => rw [if_neg hx0] at h; cases h
  rw [if_pos hx0] at h
  by_cases hx1 : xk x1 = 16
  case neg => rw [if_neg hx1] at h; cases h
  rw [if_pos hx1] at h
  by_cases hx2 : xk x2 = 16
  case neg => rw [if_neg hx2] at h; cases h
  rw [if_pos hx2] at h
  exact Ct.of (by decide) (Nat.le_of_ble_eq_true rfl) (fun p e s m args below meth c C => tX10_wouldBe_0 (fu := fu) C hx0 hx1 hx2 h)
noncomputable def fX10_findBest_91 (fu : Nat) (k21 : Int32 → Int32 → St → Option (Int32 × St)) (x0 : Nat) (x1 : Nat) (x2 : Nat) (x3 : Nat) (x4 : Int32) (σ : St) : Option (Int32 × St) :=
  (fX10_nextOrder fu x0 σ).bind fun (q101 : Int32 × St) =>
  k21 x4 q101.1 q101.2
set_option maxHeartbeats 4000000 in
set_option maxRecDepth 100000 in
theorem tX10_findBest_91 {l : Launch} {D : va_G} {cA : ClassId} {bs : Nat} {ad : Nat → Nat} {p : Program} {e : Env} {s : State} {m : MethodId} {args : Array Value} {below : List Frame} {meth : Method} {c : Code} {fu : Nat} (C : Cx D cA bs ad RX10 cX10_findBest 7 (some .int) p s m args meth c) {k21 : Int32 → Int32 → St → Option (Int32 × St)} {x0 : Nat} {x1 : Nat} {x2 : Nat} {x3 : Nat} {x4 : Int32} {q : Int32 × St} (hx0 : xk x0 = 8) (hx1 : xk x1 = 16) (hx2 : xk x2 = 16) (hx3 : xk x3 = 16) (hk21 : ∀ (x4 : Int32) (x5 : Int32) (σ : St), k21 x4 x5 σ = some q → Y D cA bs ad p l e (rmY 2 50) s m args below meth c 7 0 0 (QM D cA bs ad below args s (some (.int q.1)) q.2) σ 21 [(0, .ref (ad x0)), (1, .ref (ad x1)), (2, .ref (ad x2)), (3, .ref (ad x3)), (4, .int x4), (5, .int x5)] []) {σ : St} (h : fX10_findBest_91 fu k21 x0 x1 x2 x3 x4 σ = some q) : Y D cA bs ad p l e (rmY 2 50) s m args below meth c 7 0 0 (QM D cA bs ad below args s (some (.int q.1)) q.2) σ 91 [(0, .ref (ad x0)), (1, .ref (ad x1)), (2, .ref (ad x2)), (3, .ref (ad x3)), (4, .int x4)] [] := by
  unfold fX10_findBest_91 at h
  refine y_aload_n (pc := 91) (q := 0) C dX10_findBest_91 rfl rfl ?_
  obtain ⟨q101, eq101, h⟩ := bdS h
  refine y_callV (pc := 92) (As := []) (rest := []) C (mX10_nextOrder (fu := fu) eq101) vwX10_179 rfl (by decide) hx0 rfl rfl (Nat.le_of_ble_eq_true rfl) ⟨Nat.le_of_ble_eq_true rfl, Nat.le_of_ble_eq_true rfl⟩ ⟨Nat.le_refl _, Nat.le_refl _⟩ dX10_findBest_92 ?_
  show Y _ _ _ _ _ _ _ _ _ _ _ _ _ _ _ _ _ _ q101.2 95 [(0, .ref (ad x0)), (1, .ref (ad x1)), (2, .ref (ad x2)), (3, .ref (ad x3)), (4, .int x4)] [.int q101.1]
  refine y_istore (pc := 95) (lv' := [(5, .int q101.1), (0, .ref (ad x0)), (1, .ref (ad x1)), (2, .ref (ad x2)), (3, .ref (ad x3)), (4, .int x4)]) C dX10_findBest_95 (by decide) rfl ?_
  refine y_goto (pc := 97) (tgt := 21) C dX10_findBest_97 (by decide) ?_
  refine y_sub [1, 2, 3, 4, 5, 0] (lv' := [(0, .ref (ad x0)), (1, .ref (ad x1)), (2, .ref (ad x2)), (3, .ref (ad x3)), (4, .int x4), (5, .int q101.1)]) rfl ?_
  exact hk21 _ _ _ h
noncomputable def fX10_findBest_88 (fu : Nat) (k21 : Int32 → Int32 → St → Option (Int32 × St)) (x0 : Nat) (x1 : Nat) (x2 : Nat) (x3 : Nat) (x4 : Int32) (s0 : Nat) (s1 : Int32) (σ : St) : Option (Int32 × St) :=
  nm (si σ s0 24 s1) fun (σ101 : St) =>
  fX10_findBest_91 fu k21 x0 x1 x2 x3 x4 σ101
set_option maxHeartbeats 4000000 in
set_option maxRecDepth 100000 in
theorem tX10_findBest_88 {l : Launch} {D : va_G} {cA : ClassId} {bs : Nat} {ad : Nat → Nat} {p : Program} {e : Env} {s : State} {m : MethodId} {args : Array Value} {below : List Frame} {meth : Method} {c : Code} {fu : Nat} (C : Cx D cA bs ad RX10 cX10_findBest 7 (some .int) p s m args meth c) {k21 : Int32 → Int32 → St → Option (Int32 × St)} {x0 : Nat} {x1 : Nat} {x2 : Nat} {x3 : Nat} {x4 : Int32} {s0 : Nat} {s1 : Int32} {q : Int32 × St} (hx0 : xk x0 = 8) (hx1 : xk x1 = 16) (hx2 : xk x2 = 16) (hx3 : xk x3 = 16) (hs0 : xk s0 = 8) (hk21 : ∀ (x4 : Int32) (x5 : Int32) (σ : St), k21 x4 x5 σ = some q → Y D cA bs ad p l e (rmY 2 50) s m args below meth c 7 0 0 (QM D cA bs ad below args s (some (.int q.1)) q.2) σ 21 [(0, .ref (ad x0)), (1, .ref (ad x1)), (2, .ref (ad x2)), (3, .ref (ad x3)), (4, .int x4), (5, .int x5)] []) {σ : St} (h : fX10_findBest_88 fu k21 x0 x1 x2 x3 x4 s0 s1 σ = some q) : Y D cA bs ad p l e (rmY 2 50) s m args below meth c 7 0 0 (QM D cA bs ad below args s (some (.int q.1)) q.2) σ 88 [(0, .ref (ad x0)), (1, .ref (ad x1)), (2, .ref (ad x2)), (3, .ref (ad x3)), (4, .int x4)] [.int s1, .ref (ad s0)] := by
  unfold fX10_findBest_88 at h
  obtain ⟨σ101, eσ101, h⟩ := nmS h
  refine y_puti (pc := 88) C fpX10_166 rfl hs0 rfl rfl dX10_findBest_88 ?_
  rw [← eσ101]
  exact tX10_findBest_91 (fu := fu) C hx0 hx1 hx2 hx3 hk21 h
noncomputable def fX10_findBest_66 (fu : Nat) (k21 : Int32 → Int32 → St → Option (Int32 × St)) (x0 : Nat) (x1 : Nat) (x2 : Nat) (x3 : Nat) (x4 : Int32) (x6 : Int32) (s0 : Nat) (s1 : Int32) (σ : St) : Option (Int32 × St) :=
  nm (si σ s0 23 s1) fun (σ101 : St) =>
  if (σ101.1 x0 24) ≤ x6 then
    fX10_findBest_88 fu k21 x0 x1 x2 x3 x4 x0 (σ101.1 x0 24) σ101
  else
    fX10_findBest_88 fu k21 x0 x1 x2 x3 x4 x0 x6 σ101
set_option maxHeartbeats 4000000 in
set_option maxRecDepth 100000 in
theorem tX10_findBest_66 {l : Launch} {D : va_G} {cA : ClassId} {bs : Nat} {ad : Nat → Nat} {p : Program} {e : Env} {s : State} {m : MethodId} {args : Array Value} {below : List Frame} {meth : Method} {c : Code} {fu : Nat} (C : Cx D cA bs ad RX10 cX10_findBest 7 (some .int) p s m args meth c) {k21 : Int32 → Int32 → St → Option (Int32 × St)} {x0 : Nat} {x1 : Nat} {x2 : Nat} {x3 : Nat} {x4 : Int32} {x6 : Int32} {s0 : Nat} {s1 : Int32} {q : Int32 × St} (hx0 : xk x0 = 8) (hx1 : xk x1 = 16) (hx2 : xk x2 = 16) (hx3 : xk x3 = 16) (hs0 : xk s0 = 8) (hk21 : ∀ (x4 : Int32) (x5 : Int32) (σ : St), k21 x4 x5 σ = some q → Y D cA bs ad p l e (rmY 2 50) s m args below meth c 7 0 0 (QM D cA bs ad below args s (some (.int q.1)) q.2) σ 21 [(0, .ref (ad x0)), (1, .ref (ad x1)), (2, .ref (ad x2)), (3, .ref (ad x3)), (4, .int x4), (5, .int x5)] []) {σ : St} (h : fX10_findBest_66 fu k21 x0 x1 x2 x3 x4 x6 s0 s1 σ = some q) : Y D cA bs ad p l e (rmY 2 50) s m args below meth c 7 0 0 (QM D cA bs ad below args s (some (.int q.1)) q.2) σ 66 [(0, .ref (ad x0)), (1, .ref (ad x1)), (2, .ref (ad x2)), (3, .ref (ad x3)), (4, .int x4), (6, .int x6)] [.int s1, .ref (ad s0)] := by
  unfold fX10_findBest_66 at h
  obtain ⟨σ101, eσ101, h⟩ := nmS h
  refine y_puti (pc := 66) C fpX10_162 rfl hs0 rfl rfl dX10_findBest_66 ?_
  rw [← eσ101]
  refine y_aload_n (pc := 69) (q := 0) C dX10_findBest_69 rfl rfl ?_
  refine y_iload (pc := 70) (q := 5) C dX10_findBest_70 rfl ?_
  refine y_aload_n (pc := 72) (q := 0) C dX10_findBest_72 rfl rfl ?_
  refine y_geti (pc := 73) C faX10_166 rfl hx0 dX10_findBest_73 ?_
  refine y_icmp_ge (pc := 76) (tgt := 84) C dX10_findBest_76 (by decide) (fun c102 => ?_) (fun c102 => ?_)
  · rw [if_pos c102] at h
    refine y_aload_n (pc := 84) (q := 0) C dX10_findBest_84 rfl rfl ?_
    refine y_geti (pc := 85) C faX10_166 rfl hx0 dX10_findBest_85 ?_
    refine y_sub [0, 1, 2, 3, 4] (lv' := [(0, .ref (ad x0)), (1, .ref (ad x1)), (2, .ref (ad x2)), (3, .ref (ad x3)), (4, .int x4)]) rfl ?_
    exact tX10_findBest_88 (fu := fu) C hx0 hx1 hx2 hx3 hx0 hk21 h
  · rw [if_neg c102] at h
    refine y_iload (pc := 79) (q := 5) C dX10_findBest_79 rfl ?_
    refine y_goto (pc := 81) (tgt := 88) C dX10_findBest_81 (by decide) ?_
    refine y_sub [0, 1, 2, 3, 4] (lv' := [(0, .ref (ad x0)), (1, .ref (ad x1)), (2, .ref (ad x2)), (3, .ref (ad x3)), (4, .int x4)]) rfl ?_
    exact tX10_findBest_88 (fu := fu) C hx0 hx1 hx2 hx3 hx0 hk21 h
noncomputable def fX10_findBest_21b (fu : Nat) (k21 : Int32 → Int32 → St → Option (Int32 × St)) (x0 : Nat) (x1 : Nat) (x2 : Nat) (x3 : Nat) (x4 : Int32) (x5 : Int32) (σ : St) : Option (Int32 × St) :=
  if x5 = 0 then
    some (x4, σ)
  else
    (fX10_isLawful fu x0 x3 σ).bind fun (q102 : Int32 × St) =>
    if q102.1 = 0 then
      fX10_findBest_91 fu k21 x0 x1 x2 x3 x4 q102.2
    else
      nm (x4 + (1 : Int32)) fun (y104 : Int32) =>
      (fX10_wouldBe fu x0 x1 x2 q102.2).bind fun (q105 : Int32 × St) =>
      if (q105.2.1 x0 24) ≤ q105.1 then
        fX10_findBest_66 fu k21 x0 x1 x2 x3 y104 q105.1 x0 (q105.2.1 x0 23) q105.2
      else
        (fX10_numberOf fu x0 q105.2).bind fun (q107 : Int32 × St) =>
        fX10_findBest_66 fu k21 x0 x1 x2 x3 y104 q105.1 x0 q107.1 q107.2
set_option maxHeartbeats 4000000 in
set_option maxRecDepth 100000 in
theorem tX10_findBest_21b {l : Launch} {D : va_G} {cA : ClassId} {bs : Nat} {ad : Nat → Nat} {p : Program} {e : Env} {s : State} {m : MethodId} {args : Array Value} {below : List Frame} {meth : Method} {c : Code} {fu : Nat} (C : Cx D cA bs ad RX10 cX10_findBest 7 (some .int) p s m args meth c) {k21 : Int32 → Int32 → St → Option (Int32 × St)} {x0 : Nat} {x1 : Nat} {x2 : Nat} {x3 : Nat} {x4 : Int32} {x5 : Int32} {q : Int32 × St} (hx0 : xk x0 = 8) (hx1 : xk x1 = 16) (hx2 : xk x2 = 16) (hx3 : xk x3 = 16) (hk21 : ∀ (x4 : Int32) (x5 : Int32) (σ : St), k21 x4 x5 σ = some q → Y D cA bs ad p l e (rmY 2 50) s m args below meth c 7 0 0 (QM D cA bs ad below args s (some (.int q.1)) q.2) σ 21 [(0, .ref (ad x0)), (1, .ref (ad x1)), (2, .ref (ad x2)), (3, .ref (ad x3)), (4, .int x4), (5, .int x5)] []) {σ : St} (h : fX10_findBest_21b fu k21 x0 x1 x2 x3 x4 x5 σ = some q) : Y D cA bs ad p l e (rmY 2 50) s m args below meth c 7 0 0 (QM D cA bs ad below args s (some (.int q.1)) q.2) σ 21 [(0, .ref (ad x0)), (1, .ref (ad x1)), (2, .ref (ad x2)), (3, .ref (ad x3)), (4, .int x4), (5, .int x5)] [] := by
  unfold fX10_findBest_21b at h
  refine y_iload (pc := 21) (q := 5) C dX10_findBest_21 rfl ?_
  refine y_if_eq (pc := 23) (tgt := 100) C dX10_findBest_23 (by decide) (fun c101 => ?_) (fun c101 => ?_)
  · rw [if_pos c101] at h
    refine y_iload (pc := 100) (q := 4) C dX10_findBest_100 rfl ?_
    cases h
    exact y_iret (pc := 102) C dX10_findBest_102
  · rw [if_neg c101] at h
    refine y_aload_n (pc := 26) (q := 0) C dX10_findBest_26 rfl rfl ?_
    refine y_aload_n (pc := 27) (q := 3) C dX10_findBest_27 rfl rfl ?_
    obtain ⟨q102, eq102, h⟩ := bdS h
    refine y_callV (pc := 28) (As := [.ref (ad x3)]) (rest := []) C (mX10_isLawful (fu := fu) eq102) vwX10_144 rfl (by decide) hx0 rfl rfl (Nat.le_of_ble_eq_true rfl) ⟨Nat.le_of_ble_eq_true rfl, Nat.le_of_ble_eq_true rfl⟩ ⟨Nat.le_refl _, Nat.le_refl _⟩ dX10_findBest_28 ?_
    show Y _ _ _ _ _ _ _ _ _ _ _ _ _ _ _ _ _ _ q102.2 31 [(0, .ref (ad x0)), (1, .ref (ad x1)), (2, .ref (ad x2)), (3, .ref (ad x3)), (4, .int x4), (5, .int x5)] [.int q102.1]
    refine y_if_eq (pc := 31) (tgt := 91) C dX10_findBest_31 (by decide) (fun c103 => ?_) (fun c103 => ?_)
    · rw [if_pos c103] at h
      refine y_sub [0, 1, 2, 3, 4] (lv' := [(0, .ref (ad x0)), (1, .ref (ad x1)), (2, .ref (ad x2)), (3, .ref (ad x3)), (4, .int x4)]) rfl ?_
      exact tX10_findBest_91 (fu := fu) C hx0 hx1 hx2 hx3 hk21 h
    · rw [if_neg c103] at h
      obtain ⟨y104, ey104, h⟩ := nmS h
      refine y_iinc (pc := 34) (v := y104) (k := 4) (lv' := [(4, .int y104), (0, .ref (ad x0)), (1, .ref (ad x1)), (2, .ref (ad x2)), (3, .ref (ad x3)), (5, .int x5)]) C dX10_findBest_34 rfl (by rw [ey104]; rfl) (by decide) rfl ?_
      refine y_aload_n (pc := 37) (q := 1) C dX10_findBest_37 rfl rfl ?_
      refine y_aload_n (pc := 38) (q := 2) C dX10_findBest_38 rfl rfl ?_
      refine y_aload_n (pc := 39) (q := 3) C dX10_findBest_39 rfl rfl ?_
      obtain ⟨q105, eq105, h⟩ := bdS h
      refine y_callV (pc := 40) (As := [.ref (ad x1), .ref (ad x2)]) (rest := []) C (mX10_wouldBe (fu := fu) eq105) vwX10_172 rfl (by decide) hx0 rfl rfl (Nat.le_of_ble_eq_true rfl) ⟨Nat.le_of_ble_eq_true rfl, Nat.le_of_ble_eq_true rfl⟩ ⟨Nat.le_refl _, Nat.le_refl _⟩ dX10_findBest_40 ?_
      show Y _ _ _ _ _ _ _ _ _ _ _ _ _ _ _ _ _ _ q105.2 43 [(4, .int y104), (0, .ref (ad x0)), (1, .ref (ad x1)), (2, .ref (ad x2)), (3, .ref (ad x3)), (5, .int x5)] [.int q105.1]
      refine y_istore (pc := 43) (lv' := [(6, .int q105.1), (4, .int y104), (0, .ref (ad x0)), (1, .ref (ad x1)), (2, .ref (ad x2)), (3, .ref (ad x3)), (5, .int x5)]) C dX10_findBest_43 (by decide) rfl ?_
      refine y_aload_n (pc := 45) (q := 2) C dX10_findBest_45 rfl rfl ?_
      refine y_iload (pc := 46) (q := 0) C dX10_findBest_46 rfl ?_
      refine y_aload_n (pc := 48) (q := 2) C dX10_findBest_48 rfl rfl ?_
      refine y_geti (pc := 49) C faX10_166 rfl hx0 dX10_findBest_49 ?_
      refine y_icmp_ge (pc := 52) (tgt := 62) C dX10_findBest_52 (by decide) (fun c106 => ?_) (fun c106 => ?_)
      · rw [if_pos c106] at h
        refine y_aload_n (pc := 62) (q := 2) C dX10_findBest_62 rfl rfl ?_
        refine y_geti (pc := 63) C faX10_162 rfl hx0 dX10_findBest_63 ?_
        refine y_sub [2, 3, 4, 5, 1, 0] (lv' := [(0, .ref (ad x0)), (1, .ref (ad x1)), (2, .ref (ad x2)), (3, .ref (ad x3)), (4, .int y104), (6, .int q105.1)]) rfl ?_
        exact tX10_findBest_66 (fu := fu) C hx0 hx1 hx2 hx3 hx0 hk21 h
      · rw [if_neg c106] at h
        refine y_aload_n (pc := 55) (q := 2) C dX10_findBest_55 rfl rfl ?_
        obtain ⟨q107, eq107, h⟩ := bdS h
        refine y_callV (pc := 56) (As := []) (rest := [.ref (ad x0)]) C (mX10_numberOf (fu := fu) eq107) vwX10_176 rfl (by decide) hx0 rfl rfl (Nat.le_of_ble_eq_true rfl) ⟨Nat.le_of_ble_eq_true rfl, Nat.le_of_ble_eq_true rfl⟩ ⟨Nat.le_refl _, Nat.le_refl _⟩ dX10_findBest_56 ?_
        show Y _ _ _ _ _ _ _ _ _ _ _ _ _ _ _ _ _ _ q107.2 59 [(6, .int q105.1), (4, .int y104), (0, .ref (ad x0)), (1, .ref (ad x1)), (2, .ref (ad x2)), (3, .ref (ad x3)), (5, .int x5)] [.int q107.1, .ref (ad x0)]
        refine y_goto (pc := 59) (tgt := 66) C dX10_findBest_59 (by decide) ?_
        refine y_sub [2, 3, 4, 5, 1, 0] (lv' := [(0, .ref (ad x0)), (1, .ref (ad x1)), (2, .ref (ad x2)), (3, .ref (ad x3)), (4, .int y104), (6, .int q105.1)]) rfl ?_
        exact tX10_findBest_66 (fu := fu) C hx0 hx1 hx2 hx3 hx0 hk21 h
noncomputable def fX10_findBest_21 (fu : Nat) (x0 : Nat) (x1 : Nat) (x2 : Nat) (x3 : Nat) : Nat → Int32 → Int32 → St → Option (Int32 × St) := lp (fun k21 => fX10_findBest_21b fu k21 x0 x1 x2 x3) (fun _ _ _ => none)
set_option maxHeartbeats 4000000 in
theorem tX10_findBest_21 {l : Launch} {D : va_G} {cA : ClassId} {bs : Nat} {ad : Nat → Nat} {p : Program} {e : Env} {s : State} {m : MethodId} {args : Array Value} {below : List Frame} {meth : Method} {c : Code} {fu : Nat} (C : Cx D cA bs ad RX10 cX10_findBest 7 (some .int) p s m args meth c) {x0 : Nat} {x1 : Nat} {x2 : Nat} {x3 : Nat} {q : Int32 × St} (hx0 : xk x0 = 8) (hx1 : xk x1 = 16) (hx2 : xk x2 = 16) (hx3 : xk x3 = 16)  : ∀ (n : Nat) (x4 : Int32) (x5 : Int32) (σ : St), fX10_findBest_21 fu  x0 x1 x2 x3 n x4 x5 σ = some q → Y D cA bs ad p l e (rmY 2 50) s m args below meth c 7 0 0 (QM D cA bs ad below args s (some (.int q.1)) q.2) σ 21 [(0, .ref (ad x0)), (1, .ref (ad x1)), (2, .ref (ad x2)), (3, .ref (ad x3)), (4, .int x4), (5, .int x5)] [] := by
  intro n
  induction n with
  | zero => intro x4 x5 σ h; cases h
  | succ n ih => intro x4 x5 σ h; exact tX10_findBest_21b (fu := fu) C hx0 hx1 hx2 hx3 ih h
noncomputable def fX10_findBest_0 (fu : Nat) (x0 : Nat) (x1 : Nat) (x2 : Nat) (x3 : Nat) (σ : St) : Option (Int32 × St) :=
  nm (si σ x0 23 (-1 : Int32)) fun (σ101 : St) =>
  nm (si σ101 x0 24 (100000 : Int32)) fun (σ102 : St) =>
  (fX10_firstOrder fu x0 σ102).bind fun (q103 : St) =>
  fX10_findBest_21 fu x0 x1 x2 x3 fu (0 : Int32) (1 : Int32) q103
set_option maxHeartbeats 4000000 in
set_option maxRecDepth 100000 in
theorem tX10_findBest_0 {l : Launch} {D : va_G} {cA : ClassId} {bs : Nat} {ad : Nat → Nat} {p : Program} {e : Env} {s : State} {m : MethodId} {args : Array Value} {below : List Frame} {meth : Method} {c : Code} {fu : Nat} (C : Cx D cA bs ad RX10 cX10_findBest 7 (some .int) p s m args meth c) {x0 : Nat} {x1 : Nat} {x2 : Nat} {x3 : Nat} {q : Int32 × St} (hx0 : xk x0 = 8) (hx1 : xk x1 = 16) (hx2 : xk x2 = 16) (hx3 : xk x3 = 16) {σ : St} (h : fX10_findBest_0 fu x0 x1 x2 x3 σ = some q) : Y D cA bs ad p l e (rmY 2 50) s m args below meth c 7 0 0 (QM D cA bs ad below args s (some (.int q.1)) q.2) σ 0 [(0, .ref (ad x0)), (1, .ref (ad x1)), (2, .ref (ad x2)), (3, .ref (ad x3))] [] := by
  unfold fX10_findBest_0 at h
  refine y_aload_n (pc := 0) (q := 0) C dX10_findBest_0 rfl rfl ?_
  refine y_iconst (pc := 1) (v := (-1 : Int32)) C dX10_findBest_1 (by decide) ?_
  obtain ⟨σ101, eσ101, h⟩ := nmS h
  refine y_puti (pc := 2) C fpX10_162 rfl hx0 rfl rfl dX10_findBest_2 ?_
  rw [← eσ101]
  refine y_aload_n (pc := 5) (q := 0) C dX10_findBest_5 rfl rfl ?_
  refine y_ldc (pc := 6) C dX10_findBest_6 cwX10_165 ?_
  obtain ⟨σ102, eσ102, h⟩ := nmS h
  refine y_puti (pc := 8) C fpX10_166 rfl hx0 rfl rfl dX10_findBest_8 ?_
  rw [← eσ102]
  refine y_iconst (pc := 11) (v := (0 : Int32)) C dX10_findBest_11 (by decide) ?_
  refine y_istore (pc := 12) (lv' := [(4, .int (0 : Int32)), (0, .ref (ad x0)), (1, .ref (ad x1)), (2, .ref (ad x2)), (3, .ref (ad x3))]) C dX10_findBest_12 (by decide) rfl ?_
  refine y_iconst (pc := 14) (v := (1 : Int32)) C dX10_findBest_14 (by decide) ?_
  refine y_istore (pc := 15) (lv' := [(5, .int (1 : Int32)), (4, .int (0 : Int32)), (0, .ref (ad x0)), (1, .ref (ad x1)), (2, .ref (ad x2)), (3, .ref (ad x3))]) C dX10_findBest_15 (by decide) rfl ?_
  refine y_aload_n (pc := 17) (q := 2) C dX10_findBest_17 rfl rfl ?_
  obtain ⟨q103, eq103, h⟩ := bdS h
  refine y_callV (pc := 18) (As := []) (rest := []) C (mX10_firstOrder (fu := fu) eq103) vwX10_169 rfl (by decide) hx0 rfl rfl (Nat.le_of_ble_eq_true rfl) ⟨Nat.le_of_ble_eq_true rfl, Nat.le_of_ble_eq_true rfl⟩ ⟨Nat.le_refl _, Nat.le_refl _⟩ dX10_findBest_18 ?_
  show Y _ _ _ _ _ _ _ _ _ _ _ _ _ _ _ _ _ _ q103 21 [(5, .int (1 : Int32)), (4, .int (0 : Int32)), (0, .ref (ad x0)), (1, .ref (ad x1)), (2, .ref (ad x2)), (3, .ref (ad x3))] []
  refine y_sub [2, 3, 4, 5, 1, 0] (lv' := [(0, .ref (ad x0)), (1, .ref (ad x1)), (2, .ref (ad x2)), (3, .ref (ad x3)), (4, .int (0 : Int32)), (5, .int (1 : Int32))]) rfl ?_
  exact tX10_findBest_21 (fu := fu) C hx0 hx1 hx2 hx3 fu _ _ _ h
noncomputable def fX10_findBest (fu : Nat) (x0 : Nat) (x1 : Nat) (x2 : Nat) (x3 : Nat) (σ : St) : Option (Int32 × St) := if xk x0 = 8 then if xk x1 = 16 then if xk x2 = 16 then if xk x3 = 16 then fX10_findBest_0 fu x0 x1 x2 x3 σ else none else none else none else none
theorem mX10_findBest {l : Launch} {D : va_G} {cA : ClassId} {bs fu : Nat} {ad : Nat → Nat} {x0 : Nat} {x1 : Nat} {x2 : Nat} {x3 : Nat} {σ : St} {q : Int32 × St} (h : fX10_findBest fu x0 x1 x2 x3 σ = some q) : Ct l D cA bs ad yX10_findBest cX10_findBest 7 (some .int) 2 50 [.ref (ad x0), .ref (ad x1), .ref (ad x2), .ref (ad x3)] σ (some (.int q.1)) q.2 := by
  unfold fX10_findBest at h
  by_cases hx0 : xk x0 = 8
  case neg => rw [if_neg hx0] at h; cases h
  rw [if_pos hx0] at h
  by_cases hx1 : xk x1 = 16
  case neg => rw [if_neg hx1] at h; cases h
  rw [if_pos hx1] at h
  by_cases hx2 : xk x2 = 16
  case neg => rw [if_neg hx2] at h; cases h
  rw [if_pos hx2] at h
  by_cases hx3 : xk x3 = 16
  case neg => rw [if_neg hx3] at h; cases h
  rw [if_pos hx3] at h
  exact Ct.of (by decide) (Nat.le_of_ble_eq_true rfl) (fun p e s m args below meth c C => tX10_findBest_0 (fu := fu) C hx0 hx1 hx2 hx3 h)
noncomputable def fX10_best_82 (fu : Nat) (x0 : Nat) (x1 : Int32) (s0 : Int32) (σ : St) : Option (Int32 × St) :=
  some (s0, σ)
set_option maxHeartbeats 4000000 in
set_option maxRecDepth 100000 in
theorem tX10_best_82 {l : Launch} {D : va_G} {cA : ClassId} {bs : Nat} {ad : Nat → Nat} {p : Program} {e : Env} {s : State} {m : MethodId} {args : Array Value} {below : List Frame} {meth : Method} {c : Code} {fu : Nat} (C : Cx D cA bs ad RX10 cX10_best 3 (some .int) p s m args meth c) {x0 : Nat} {x1 : Int32} {s0 : Int32} {q : Int32 × St} (hx0 : xk x0 = 8) {σ : St} (h : fX10_best_82 fu x0 x1 s0 σ = some q) : Y D cA bs ad p l e (rmY 3 76) s m args below meth c 3 0 0 (QM D cA bs ad below args s (some (.int q.1)) q.2) σ 82 [(0, .ref (ad x0)), (1, .int x1)] [.int s0] := by
  unfold fX10_best_82 at h
  cases h
  exact y_iret (pc := 82) C dX10_best_82
noncomputable def fX10_best_71 (fu : Nat) (x0 : Nat) (x1 : Int32) (σ : St) : Option (Int32 × St) :=
  fX10_best_82 fu x0 x1 (σ.1 x0 23) σ
set_option maxHeartbeats 4000000 in
set_option maxRecDepth 100000 in
theorem tX10_best_71 {l : Launch} {D : va_G} {cA : ClassId} {bs : Nat} {ad : Nat → Nat} {p : Program} {e : Env} {s : State} {m : MethodId} {args : Array Value} {below : List Frame} {meth : Method} {c : Code} {fu : Nat} (C : Cx D cA bs ad RX10 cX10_best 3 (some .int) p s m args meth c) {x0 : Nat} {x1 : Int32} {q : Int32 × St} (hx0 : xk x0 = 8) {σ : St} (h : fX10_best_71 fu x0 x1 σ = some q) : Y D cA bs ad p l e (rmY 3 76) s m args below meth c 3 0 0 (QM D cA bs ad below args s (some (.int q.1)) q.2) σ 71 [(0, .ref (ad x0)), (1, .int x1)] [] := by
  unfold fX10_best_71 at h
  refine y_aload_n (pc := 71) (q := 0) C dX10_best_71 rfl rfl ?_
  refine y_geti (pc := 72) C faX10_162 rfl hx0 dX10_best_72 ?_
  refine y_goto (pc := 75) (tgt := 82) C dX10_best_75 (by decide) ?_
  exact tX10_best_82 (fu := fu) C hx0 h
noncomputable def fX10_best_0 (fu : Nat) (x0 : Nat) (x1 : Int32) (σ : St) : Option (Int32 × St) :=
  (fX10_lacks fu x0 σ).bind fun (q101 : Int32 × St) =>
  if q101.1 = 0 then
    (fX10_in fu x1.toInt64 (0 : Int64) (1 : Int64) q101.2).bind fun (q103 : Int32 × St) =>
    if q103.1 = 0 then
      some ((-102 : Int32), q103.2)
    else
      if (q103.2.1 x0 25) = (40 : Int32) then
        some ((-103 : Int32), q103.2)
      else
        nm (si q103.2 x0 25 ((q103.2.1 x0 25) + (1 : Int32))) fun (σ106 : St) =>
        (fX10_findBest fu x0 (rf x0 14) (rf x0 15) (rf x0 16) σ106).bind fun (q107 : Int32 × St) =>
        if q107.1 = 0 then
          fX10_best_71 fu x0 x1 q107.2
        else
          if x1 = (1 : Int32) then
            fX10_best_71 fu x0 x1 q107.2
          else
            fX10_best_82 fu x0 x1 (q107.2.1 x0 24) q107.2
  else
    some ((-103 : Int32), q101.2)
set_option maxHeartbeats 4000000 in
set_option maxRecDepth 100000 in
theorem tX10_best_0 {l : Launch} {D : va_G} {cA : ClassId} {bs : Nat} {ad : Nat → Nat} {p : Program} {e : Env} {s : State} {m : MethodId} {args : Array Value} {below : List Frame} {meth : Method} {c : Code} {fu : Nat} (C : Cx D cA bs ad RX10 cX10_best 3 (some .int) p s m args meth c) {x0 : Nat} {x1 : Int32} {q : Int32 × St} (hx0 : xk x0 = 8) {σ : St} (h : fX10_best_0 fu x0 x1 σ = some q) : Y D cA bs ad p l e (rmY 3 76) s m args below meth c 3 0 0 (QM D cA bs ad below args s (some (.int q.1)) q.2) σ 0 [(0, .ref (ad x0)), (1, .int x1)] [] := by
  unfold fX10_best_0 at h
  refine y_aload_n (pc := 0) (q := 0) C dX10_best_0 rfl rfl ?_
  obtain ⟨q101, eq101, h⟩ := bdS h
  refine y_callV (pc := 1) (As := []) (rest := []) C (mX10_lacks (fu := fu) eq101) vwX10_137 rfl (by decide) hx0 rfl rfl (Nat.le_of_ble_eq_true rfl) ⟨Nat.le_of_ble_eq_true rfl, Nat.le_of_ble_eq_true rfl⟩ ⟨Nat.le_refl _, Nat.le_refl _⟩ dX10_best_1 ?_
  show Y _ _ _ _ _ _ _ _ _ _ _ _ _ _ _ _ _ _ q101.2 4 [(0, .ref (ad x0)), (1, .int x1)] [.int q101.1]
  refine y_if_eq (pc := 4) (tgt := 10) C dX10_best_4 (by decide) (fun c102 => ?_) (fun c102 => ?_)
  · rw [if_pos c102] at h
    refine y_iload_n (pc := 10) (q := 1) C dX10_best_10 rfl rfl ?_
    refine y_i2l (pc := 11) C dX10_best_11 ?_
    refine y_lconst (pc := 12) (v := (0 : Int64)) C dX10_best_12 (by decide) ?_
    refine y_lconst (pc := 13) (v := (1 : Int64)) C dX10_best_13 (by decide) ?_
    obtain ⟨q103, eq103, h⟩ := bdS h
    refine y_callS (pc := 14) (As := [.long x1.toInt64, .long (0 : Int64), .long (1 : Int64)]) (rest := []) C (mX10_in (fu := fu) eq103) vwX10_68 rfl rfl (Nat.le_of_ble_eq_true rfl) ⟨Nat.le_of_ble_eq_true rfl, Nat.le_of_ble_eq_true rfl⟩ ⟨Nat.le_refl _, Nat.le_refl _⟩ dX10_best_14 ?_
    show Y _ _ _ _ _ _ _ _ _ _ _ _ _ _ _ _ _ _ q103.2 17 [(0, .ref (ad x0)), (1, .int x1)] [.int q103.1]
    refine y_if_ne (pc := 17) (tgt := 23) C dX10_best_17 (by decide) (fun c104 => ?_) (fun c104 => ?_)
    · rw [if_neg c104] at h
      refine y_aload_n (pc := 23) (q := 0) C dX10_best_23 rfl rfl ?_
      refine y_geti (pc := 24) C faX10_182 rfl hx0 dX10_best_24 ?_
      refine y_bipush (pc := 27) (v := (40 : Int32)) C dX10_best_27 (by decide) ?_
      refine y_icmp_ne (pc := 29) (tgt := 35) C dX10_best_29 (by decide) (fun c105 => ?_) (fun c105 => ?_)
      · rw [if_neg c105] at h
        refine y_aload_n (pc := 35) (q := 0) C dX10_best_35 rfl rfl ?_
        refine y_dup (pc := 36) C dX10_best_36 rfl ?_
        refine y_geti (pc := 37) C faX10_182 rfl hx0 dX10_best_37 ?_
        refine y_iconst (pc := 40) (v := (1 : Int32)) C dX10_best_40 (by decide) ?_
        refine y_iadd (pc := 41) C dX10_best_41 ?_
        obtain ⟨σ106, eσ106, h⟩ := nmS h
        refine y_puti (pc := 42) C fpX10_182 rfl hx0 rfl rfl dX10_best_42 ?_
        rw [← eσ106]
        refine y_aload_n (pc := 45) (q := 0) C dX10_best_45 rfl rfl ?_
        refine y_aload_n (pc := 46) (q := 0) C dX10_best_46 rfl rfl ?_
        refine y_getr (pc := 47) C faX10_16 rfl hx0 dX10_best_47 ?_
        refine y_aload_n (pc := 50) (q := 0) C dX10_best_50 rfl rfl ?_
        refine y_getr (pc := 51) C faX10_19 rfl hx0 dX10_best_51 ?_
        refine y_aload_n (pc := 54) (q := 0) C dX10_best_54 rfl rfl ?_
        refine y_getr (pc := 55) C faX10_22 rfl hx0 dX10_best_55 ?_
        obtain ⟨q107, eq107, h⟩ := bdS h
        refine y_callV (pc := 58) (As := [.ref (ad (rf x0 14)), .ref (ad (rf x0 15)), .ref (ad (rf x0 16))]) (rest := []) C (mX10_findBest (fu := fu) eq107) vwX10_185 rfl (by decide) hx0 rfl rfl (Nat.le_of_ble_eq_true rfl) ⟨Nat.le_of_ble_eq_true rfl, Nat.le_of_ble_eq_true rfl⟩ ⟨Nat.le_refl _, Nat.le_refl _⟩ dX10_best_58 ?_
        show Y _ _ _ _ _ _ _ _ _ _ _ _ _ _ _ _ _ _ q107.2 61 [(0, .ref (ad x0)), (1, .int x1)] [.int q107.1]
        refine y_istore_n (pc := 61) (lv' := [(2, .int q107.1), (0, .ref (ad x0)), (1, .int x1)]) C dX10_best_61 rfl (by decide) rfl ?_
        refine y_iload_n (pc := 62) (q := 0) C dX10_best_62 rfl rfl ?_
        refine y_if_eq (pc := 63) (tgt := 71) C dX10_best_63 (by decide) (fun c108 => ?_) (fun c108 => ?_)
        · rw [if_pos c108] at h
          refine y_sub [1, 2] (lv' := [(0, .ref (ad x0)), (1, .int x1)]) rfl ?_
          exact tX10_best_71 (fu := fu) C hx0 h
        · rw [if_neg c108] at h
          refine y_iload_n (pc := 66) (q := 2) C dX10_best_66 rfl rfl ?_
          refine y_iconst (pc := 67) (v := (1 : Int32)) C dX10_best_67 (by decide) ?_
          refine y_icmp_ne (pc := 68) (tgt := 78) C dX10_best_68 (by decide) (fun c109 => ?_) (fun c109 => ?_)
          · rw [if_neg c109] at h
            refine y_aload_n (pc := 78) (q := 1) C dX10_best_78 rfl rfl ?_
            refine y_geti (pc := 79) C faX10_166 rfl hx0 dX10_best_79 ?_
            refine y_sub [1, 2] (lv' := [(0, .ref (ad x0)), (1, .int x1)]) rfl ?_
            exact tX10_best_82 (fu := fu) C hx0 h
          · rw [if_pos c109] at h
            refine y_sub [1, 2] (lv' := [(0, .ref (ad x0)), (1, .int x1)]) rfl ?_
            exact tX10_best_71 (fu := fu) C hx0 h
      · rw [if_pos c105] at h
        refine y_bipush (pc := 32) (v := (-103 : Int32)) C dX10_best_32 (by decide) ?_
        cases h
        exact y_iret (pc := 34) C dX10_best_34
    · rw [if_pos c104] at h
      refine y_bipush (pc := 20) (v := (-102 : Int32)) C dX10_best_20 (by decide) ?_
      cases h
      exact y_iret (pc := 22) C dX10_best_22
  · rw [if_neg c102] at h
    refine y_bipush (pc := 7) (v := (-103 : Int32)) C dX10_best_7 (by decide) ?_
    cases h
    exact y_iret (pc := 9) C dX10_best_9
noncomputable def fX10_best (fu : Nat) (x0 : Nat) (x1 : Int32) (σ : St) : Option (Int32 × St) := if xk x0 = 8 then fX10_best_0 fu x0 x1 σ else none
theorem mX10_best {l : Launch} {D : va_G} {cA : ClassId} {bs fu : Nat} {ad : Nat → Nat} {x0 : Nat} {x1 : Int32} {σ : St} {q : Int32 × St} (h : fX10_best fu x0 x1 σ = some q) : Ct l D cA bs ad yX10_best cX10_best 3 (some .int) 3 76 [.ref (ad x0), .int x1] σ (some (.int q.1)) q.2 := by
  unfold fX10_best at h
  by_cases hx0 : xk x0 = 8
  case neg => rw [if_neg hx0] at h; cases h
  rw [if_pos hx0] at h
  exact Ct.of (by decide) (Nat.le_of_ble_eq_true rfl) (fun p e s m args below meth c C => tX10_best_0 (fu := fu) C hx0 h)
noncomputable def fX10_howMany_16 (fu : Nat) (x0 : Nat) (σ : St) : Option (Int32 × St) :=
  some ((-103 : Int32), σ)
set_option maxHeartbeats 4000000 in
set_option maxRecDepth 100000 in
theorem tX10_howMany_16 {l : Launch} {D : va_G} {cA : ClassId} {bs : Nat} {ad : Nat → Nat} {p : Program} {e : Env} {s : State} {m : MethodId} {args : Array Value} {below : List Frame} {meth : Method} {c : Code} {fu : Nat} (C : Cx D cA bs ad RX10 cX10_howMany 1 (some .int) p s m args meth c) {x0 : Nat} {q : Int32 × St} (hx0 : xk x0 = 8) {σ : St} (h : fX10_howMany_16 fu x0 σ = some q) : Y D cA bs ad p l e (rmY 3 76) s m args below meth c 1 0 0 (QM D cA bs ad below args s (some (.int q.1)) q.2) σ 16 [(0, .ref (ad x0))] [] := by
  unfold fX10_howMany_16 at h
  refine y_bipush (pc := 16) (v := (-103 : Int32)) C dX10_howMany_16 (by decide) ?_
  cases h
  exact y_iret (pc := 18) C dX10_howMany_18
noncomputable def fX10_howMany_0 (fu : Nat) (x0 : Nat) (σ : St) : Option (Int32 × St) :=
  (fX10_lacks fu x0 σ).bind fun (q101 : Int32 × St) =>
  if q101.1 = 0 then
    if (q101.2.1 x0 25) = (40 : Int32) then
      fX10_howMany_16 fu x0 q101.2
    else
      nm (si q101.2 x0 25 ((q101.2.1 x0 25) + (1 : Int32))) fun (σ104 : St) =>
      (fX10_findBest fu x0 (rf x0 14) (rf x0 15) (rf x0 16) σ104).bind fun (q105 : Int32 × St) =>
      some (q105.1, q105.2)
  else
    fX10_howMany_16 fu x0 q101.2
set_option maxHeartbeats 4000000 in
set_option maxRecDepth 100000 in
theorem tX10_howMany_0 {l : Launch} {D : va_G} {cA : ClassId} {bs : Nat} {ad : Nat → Nat} {p : Program} {e : Env} {s : State} {m : MethodId} {args : Array Value} {below : List Frame} {meth : Method} {c : Code} {fu : Nat} (C : Cx D cA bs ad RX10 cX10_howMany 1 (some .int) p s m args meth c) {x0 : Nat} {q : Int32 × St} (hx0 : xk x0 = 8) {σ : St} (h : fX10_howMany_0 fu x0 σ = some q) : Y D cA bs ad p l e (rmY 3 76) s m args below meth c 1 0 0 (QM D cA bs ad below args s (some (.int q.1)) q.2) σ 0 [(0, .ref (ad x0))] [] := by
  unfold fX10_howMany_0 at h
  refine y_aload_n (pc := 0) (q := 0) C dX10_howMany_0 rfl rfl ?_
  obtain ⟨q101, eq101, h⟩ := bdS h
  refine y_callV (pc := 1) (As := []) (rest := []) C (mX10_lacks (fu := fu) eq101) vwX10_137 rfl (by decide) hx0 rfl rfl (Nat.le_of_ble_eq_true rfl) ⟨Nat.le_of_ble_eq_true rfl, Nat.le_of_ble_eq_true rfl⟩ ⟨Nat.le_refl _, Nat.le_refl _⟩ dX10_howMany_1 ?_
  show Y _ _ _ _ _ _ _ _ _ _ _ _ _ _ _ _ _ _ q101.2 4 [(0, .ref (ad x0))] [.int q101.1]
  refine y_if_ne (pc := 4) (tgt := 16) C dX10_howMany_4 (by decide) (fun c102 => ?_) (fun c102 => ?_)
  · rw [if_neg c102] at h
    exact tX10_howMany_16 (fu := fu) C hx0 h
  · rw [if_pos c102] at h
    refine y_aload_n (pc := 7) (q := 0) C dX10_howMany_7 rfl rfl ?_
    refine y_geti (pc := 8) C faX10_182 rfl hx0 dX10_howMany_8 ?_
    refine y_bipush (pc := 11) (v := (40 : Int32)) C dX10_howMany_11 (by decide) ?_
    refine y_icmp_ne (pc := 13) (tgt := 19) C dX10_howMany_13 (by decide) (fun c103 => ?_) (fun c103 => ?_)
    · rw [if_neg c103] at h
      refine y_aload_n (pc := 19) (q := 0) C dX10_howMany_19 rfl rfl ?_
      refine y_dup (pc := 20) C dX10_howMany_20 rfl ?_
      refine y_geti (pc := 21) C faX10_182 rfl hx0 dX10_howMany_21 ?_
      refine y_iconst (pc := 24) (v := (1 : Int32)) C dX10_howMany_24 (by decide) ?_
      refine y_iadd (pc := 25) C dX10_howMany_25 ?_
      obtain ⟨σ104, eσ104, h⟩ := nmS h
      refine y_puti (pc := 26) C fpX10_182 rfl hx0 rfl rfl dX10_howMany_26 ?_
      rw [← eσ104]
      refine y_aload_n (pc := 29) (q := 0) C dX10_howMany_29 rfl rfl ?_
      refine y_aload_n (pc := 30) (q := 0) C dX10_howMany_30 rfl rfl ?_
      refine y_getr (pc := 31) C faX10_16 rfl hx0 dX10_howMany_31 ?_
      refine y_aload_n (pc := 34) (q := 0) C dX10_howMany_34 rfl rfl ?_
      refine y_getr (pc := 35) C faX10_19 rfl hx0 dX10_howMany_35 ?_
      refine y_aload_n (pc := 38) (q := 0) C dX10_howMany_38 rfl rfl ?_
      refine y_getr (pc := 39) C faX10_22 rfl hx0 dX10_howMany_39 ?_
      obtain ⟨q105, eq105, h⟩ := bdS h
      refine y_callV (pc := 42) (As := [.ref (ad (rf x0 14)), .ref (ad (rf x0 15)), .ref (ad (rf x0 16))]) (rest := []) C (mX10_findBest (fu := fu) eq105) vwX10_185 rfl (by decide) hx0 rfl rfl (Nat.le_of_ble_eq_true rfl) ⟨Nat.le_of_ble_eq_true rfl, Nat.le_of_ble_eq_true rfl⟩ ⟨Nat.le_refl _, Nat.le_refl _⟩ dX10_howMany_42 ?_
      show Y _ _ _ _ _ _ _ _ _ _ _ _ _ _ _ _ _ _ q105.2 45 [(0, .ref (ad x0))] [.int q105.1]
      cases h
      exact y_iret (pc := 45) C dX10_howMany_45
    · rw [if_pos c103] at h
      exact tX10_howMany_16 (fu := fu) C hx0 h
noncomputable def fX10_howMany (fu : Nat) (x0 : Nat) (σ : St) : Option (Int32 × St) := if xk x0 = 8 then fX10_howMany_0 fu x0 σ else none
theorem mX10_howMany {l : Launch} {D : va_G} {cA : ClassId} {bs fu : Nat} {ad : Nat → Nat} {x0 : Nat} {σ : St} {q : Int32 × St} (h : fX10_howMany fu x0 σ = some q) : Ct l D cA bs ad yX10_howMany cX10_howMany 1 (some .int) 3 76 [.ref (ad x0)] σ (some (.int q.1)) q.2 := by
  unfold fX10_howMany at h
  by_cases hx0 : xk x0 = 8
  case neg => rw [if_neg hx0] at h; cases h
  rw [if_pos hx0] at h
  exact Ct.of (by decide) (Nat.le_of_ble_eq_true rfl) (fun p e s m args below meth c C => tX10_howMany_0 (fu := fu) C hx0 h)
noncomputable def fX10_tellCarried_106b (fu : Nat) (k13 : Int32 → Int32 → Int32 → Int32 → Int32 → St → Option (Int32 × St)) (k106 : Int32 → Int32 → Int32 → Int32 → Int32 → Int32 → St → Option (Int32 × St)) (x0 : Nat) (x1 : Int32) (x2 : Int32) (x3 : Int32) (x4 : Int32) (x5 : Int32) (x6 : Int32) (x8 : Int32) (σ : St) : Option (Int32 × St) :=
  if ((x5 >>> (x8 &&& 31)) &&& (1 : Int32)) = 0 then
    nm (x5 ||| ((1 : Int32) <<< (x8 &&& 31))) fun (y103 : Int32) =>
    (ald σ (rf x0 19) 7 x8).bind fun (v104 : Int32) =>
    (ald σ (rf x0 16) 7 v104).bind fun (v105 : Int32) =>
    k106 x2 x3 x4 y103 x6 v105 σ
  else
    nm (x6 + (1 : Int32)) fun (y102 : Int32) =>
    k13 x2 x3 x4 x5 y102 σ
set_option maxHeartbeats 4000000 in
set_option maxRecDepth 100000 in
theorem tX10_tellCarried_106b {l : Launch} {D : va_G} {cA : ClassId} {bs : Nat} {ad : Nat → Nat} {p : Program} {e : Env} {s : State} {m : MethodId} {args : Array Value} {below : List Frame} {meth : Method} {c : Code} {fu : Nat} (C : Cx D cA bs ad RX10 cX10_tellCarried 9 (some .int) p s m args meth c) {k13 : Int32 → Int32 → Int32 → Int32 → Int32 → St → Option (Int32 × St)} {k106 : Int32 → Int32 → Int32 → Int32 → Int32 → Int32 → St → Option (Int32 × St)} {x0 : Nat} {x1 : Int32} {x2 : Int32} {x3 : Int32} {x4 : Int32} {x5 : Int32} {x6 : Int32} {x8 : Int32} {q : Int32 × St} (hx0 : xk x0 = 8) (hk13 : ∀ (x2 : Int32) (x3 : Int32) (x4 : Int32) (x5 : Int32) (x6 : Int32) (σ : St), k13 x2 x3 x4 x5 x6 σ = some q → Y D cA bs ad p l e (rmY 1 20) s m args below meth c 9 0 0 (QM D cA bs ad below args s (some (.int q.1)) q.2) σ 13 [(0, .ref (ad x0)), (1, .int x1), (2, .int x2), (3, .int x3), (4, .int x4), (5, .int x5), (6, .int x6)] []) (hk106 : ∀ (x2 : Int32) (x3 : Int32) (x4 : Int32) (x5 : Int32) (x6 : Int32) (x8 : Int32) (σ : St), k106 x2 x3 x4 x5 x6 x8 σ = some q → Y D cA bs ad p l e (rmY 1 20) s m args below meth c 9 0 0 (QM D cA bs ad below args s (some (.int q.1)) q.2) σ 106 [(0, .ref (ad x0)), (1, .int x1), (2, .int x2), (3, .int x3), (4, .int x4), (5, .int x5), (6, .int x6), (8, .int x8)] []) {σ : St} (h : fX10_tellCarried_106b fu k13 k106 x0 x1 x2 x3 x4 x5 x6 x8 σ = some q) : Y D cA bs ad p l e (rmY 1 20) s m args below meth c 9 0 0 (QM D cA bs ad below args s (some (.int q.1)) q.2) σ 106 [(0, .ref (ad x0)), (1, .int x1), (2, .int x2), (3, .int x3), (4, .int x4), (5, .int x5), (6, .int x6), (8, .int x8)] [] := by
  unfold fX10_tellCarried_106b at h
  refine y_iload (pc := 106) (q := 5) C dX10_tellCarried_106 rfl ?_
  refine y_iload (pc := 108) (q := 7) C dX10_tellCarried_108 rfl ?_
  refine y_ishr (pc := 110) C dX10_tellCarried_110 ?_
  refine y_iconst (pc := 111) (v := (1 : Int32)) C dX10_tellCarried_111 (by decide) ?_
  refine y_iand (pc := 112) C dX10_tellCarried_112 ?_
  refine y_if_ne (pc := 113) (tgt := 142) C dX10_tellCarried_113 (by decide) (fun c101 => ?_) (fun c101 => ?_)
  · rw [if_neg c101] at h
    obtain ⟨y102, ey102, h⟩ := nmS h
    refine y_iinc (pc := 142) (v := y102) (k := 6) (lv' := [(6, .int y102), (0, .ref (ad x0)), (1, .int x1), (2, .int x2), (3, .int x3), (4, .int x4), (5, .int x5), (8, .int x8)]) C dX10_tellCarried_142 rfl (by rw [ey102]; rfl) (by decide) rfl ?_
    refine y_goto (pc := 145) (tgt := 13) C dX10_tellCarried_145 (by decide) ?_
    refine y_sub [1, 2, 3, 4, 5, 6, 0] (lv' := [(0, .ref (ad x0)), (1, .int x1), (2, .int x2), (3, .int x3), (4, .int x4), (5, .int x5), (6, .int y102)]) rfl ?_
    exact hk13 _ _ _ _ _ _ h
  · rw [if_pos c101] at h
    refine y_iload (pc := 116) (q := 5) C dX10_tellCarried_116 rfl ?_
    refine y_iconst (pc := 118) (v := (1 : Int32)) C dX10_tellCarried_118 (by decide) ?_
    refine y_iload (pc := 119) (q := 7) C dX10_tellCarried_119 rfl ?_
    refine y_ishl (pc := 121) C dX10_tellCarried_121 ?_
    refine y_ior (pc := 122) C dX10_tellCarried_122 ?_
    obtain ⟨y103, ey103, h⟩ := nmS h
    refine y_nmI y103 ey103 ?_
    refine y_istore (pc := 123) (lv' := [(5, .int y103), (0, .ref (ad x0)), (1, .int x1), (2, .int x2), (3, .int x3), (4, .int x4), (6, .int x6), (8, .int x8)]) C dX10_tellCarried_123 (by decide) rfl ?_
    refine y_aload_n (pc := 125) (q := 1) C dX10_tellCarried_125 rfl rfl ?_
    refine y_getr (pc := 126) C faX10_22 rfl hx0 dX10_tellCarried_126 ?_
    refine y_aload_n (pc := 129) (q := 1) C dX10_tellCarried_129 rfl rfl ?_
    refine y_getr (pc := 130) C faX10_31 rfl hx0 dX10_tellCarried_130 ?_
    refine y_iload (pc := 133) (q := 7) C dX10_tellCarried_133 rfl ?_
    obtain ⟨v104, ev104, h⟩ := bdS h
    refine y_iald (pc := 135) (n := 7) C (rf_8_19 _ hx0) (by decide) ev104 dX10_tellCarried_135 ?_
    obtain ⟨v105, ev105, h⟩ := bdS h
    refine y_iald (pc := 136) (n := 7) C (rf_8_16 _ hx0) (by decide) ev105 dX10_tellCarried_136 ?_
    refine y_istore (pc := 137) (lv' := [(8, .int v105), (5, .int y103), (0, .ref (ad x0)), (1, .int x1), (2, .int x2), (3, .int x3), (4, .int x4), (6, .int x6)]) C dX10_tellCarried_137 (by decide) rfl ?_
    refine y_goto (pc := 139) (tgt := 106) C dX10_tellCarried_139 (by decide) ?_
    refine y_sub [2, 3, 4, 5, 6, 1, 7, 0] (lv' := [(0, .ref (ad x0)), (1, .int x1), (2, .int x2), (3, .int x3), (4, .int x4), (5, .int y103), (6, .int x6), (8, .int v105)]) rfl ?_
    exact hk106 _ _ _ _ _ _ _ h
noncomputable def fX10_tellCarried_106 (fu : Nat) (k13 : Int32 → Int32 → Int32 → Int32 → Int32 → St → Option (Int32 × St)) (x0 : Nat) (x1 : Int32) : Nat → Int32 → Int32 → Int32 → Int32 → Int32 → Int32 → St → Option (Int32 × St) := lp (fun k106 => fX10_tellCarried_106b fu k13 k106 x0 x1) (fun _ _ _ _ _ _ _ => none)
set_option maxHeartbeats 4000000 in
theorem tX10_tellCarried_106 {l : Launch} {D : va_G} {cA : ClassId} {bs : Nat} {ad : Nat → Nat} {p : Program} {e : Env} {s : State} {m : MethodId} {args : Array Value} {below : List Frame} {meth : Method} {c : Code} {fu : Nat} (C : Cx D cA bs ad RX10 cX10_tellCarried 9 (some .int) p s m args meth c) {k13 : Int32 → Int32 → Int32 → Int32 → Int32 → St → Option (Int32 × St)} {x0 : Nat} {x1 : Int32} {q : Int32 × St} (hx0 : xk x0 = 8) (hk13 : ∀ (x2 : Int32) (x3 : Int32) (x4 : Int32) (x5 : Int32) (x6 : Int32) (σ : St), k13 x2 x3 x4 x5 x6 σ = some q → Y D cA bs ad p l e (rmY 1 20) s m args below meth c 9 0 0 (QM D cA bs ad below args s (some (.int q.1)) q.2) σ 13 [(0, .ref (ad x0)), (1, .int x1), (2, .int x2), (3, .int x3), (4, .int x4), (5, .int x5), (6, .int x6)] []) : ∀ (n : Nat) (x2 : Int32) (x3 : Int32) (x4 : Int32) (x5 : Int32) (x6 : Int32) (x8 : Int32) (σ : St), fX10_tellCarried_106 fu k13 x0 x1 n x2 x3 x4 x5 x6 x8 σ = some q → Y D cA bs ad p l e (rmY 1 20) s m args below meth c 9 0 0 (QM D cA bs ad below args s (some (.int q.1)) q.2) σ 106 [(0, .ref (ad x0)), (1, .int x1), (2, .int x2), (3, .int x3), (4, .int x4), (5, .int x5), (6, .int x6), (8, .int x8)] [] := by
  intro n
  induction n with
  | zero => intro x2 x3 x4 x5 x6 x8 σ h; cases h
  | succ n ih => intro x2 x3 x4 x5 x6 x8 σ h; exact tX10_tellCarried_106b (fu := fu) C hx0 hk13 ih h
noncomputable def fX10_tellCarried_99 (fu : Nat) (k13 : Int32 → Int32 → Int32 → Int32 → Int32 → St → Option (Int32 × St)) (x0 : Nat) (x1 : Int32) (x2 : Int32) (x3 : Int32) (x5 : Int32) (x6 : Int32) (s0 : Int32) (s1 : Int32) (σ : St) : Option (Int32 × St) :=
  nm (s0 + s1) fun (y101 : Int32) =>
  fX10_tellCarried_106 fu k13 x0 x1 fu x2 x3 y101 x5 x6 x6 σ
set_option maxHeartbeats 4000000 in
set_option maxRecDepth 100000 in
theorem tX10_tellCarried_99 {l : Launch} {D : va_G} {cA : ClassId} {bs : Nat} {ad : Nat → Nat} {p : Program} {e : Env} {s : State} {m : MethodId} {args : Array Value} {below : List Frame} {meth : Method} {c : Code} {fu : Nat} (C : Cx D cA bs ad RX10 cX10_tellCarried 9 (some .int) p s m args meth c) {k13 : Int32 → Int32 → Int32 → Int32 → Int32 → St → Option (Int32 × St)} {x0 : Nat} {x1 : Int32} {x2 : Int32} {x3 : Int32} {x5 : Int32} {x6 : Int32} {s0 : Int32} {s1 : Int32} {q : Int32 × St} (hx0 : xk x0 = 8) (hk13 : ∀ (x2 : Int32) (x3 : Int32) (x4 : Int32) (x5 : Int32) (x6 : Int32) (σ : St), k13 x2 x3 x4 x5 x6 σ = some q → Y D cA bs ad p l e (rmY 1 20) s m args below meth c 9 0 0 (QM D cA bs ad below args s (some (.int q.1)) q.2) σ 13 [(0, .ref (ad x0)), (1, .int x1), (2, .int x2), (3, .int x3), (4, .int x4), (5, .int x5), (6, .int x6)] []) {σ : St} (h : fX10_tellCarried_99 fu k13 x0 x1 x2 x3 x5 x6 s0 s1 σ = some q) : Y D cA bs ad p l e (rmY 1 20) s m args below meth c 9 0 0 (QM D cA bs ad below args s (some (.int q.1)) q.2) σ 99 [(0, .ref (ad x0)), (1, .int x1), (2, .int x2), (3, .int x3), (5, .int x5), (6, .int x6)] [.int s1, .int s0] := by
  unfold fX10_tellCarried_99 at h
  refine y_iadd (pc := 99) C dX10_tellCarried_99 ?_
  obtain ⟨y101, ey101, h⟩ := nmS h
  refine y_nmI y101 ey101 ?_
  refine y_istore (pc := 100) (lv' := [(4, .int y101), (0, .ref (ad x0)), (1, .int x1), (2, .int x2), (3, .int x3), (5, .int x5), (6, .int x6)]) C dX10_tellCarried_100 (by decide) rfl ?_
  refine y_iload (pc := 102) (q := 6) C dX10_tellCarried_102 rfl ?_
  refine y_istore (pc := 104) (lv' := [(8, .int x6), (4, .int y101), (0, .ref (ad x0)), (1, .int x1), (2, .int x2), (3, .int x3), (5, .int x5), (6, .int x6)]) C dX10_tellCarried_104 (by decide) rfl ?_
  refine y_sub [2, 3, 4, 5, 1, 6, 7, 0] (lv' := [(0, .ref (ad x0)), (1, .int x1), (2, .int x2), (3, .int x3), (4, .int y101), (5, .int x5), (6, .int x6), (8, .int x6)]) rfl ?_
  exact tX10_tellCarried_106 (fu := fu) C hx0 hk13 fu _ _ _ _ _ _ _ h
noncomputable def fX10_tellCarried_80 (fu : Nat) (k13 : Int32 → Int32 → Int32 → Int32 → Int32 → St → Option (Int32 × St)) (x0 : Nat) (x1 : Int32) (x2 : Int32) (x4 : Int32) (x5 : Int32) (x6 : Int32) (s0 : Int32) (s1 : Int32) (σ : St) : Option (Int32 × St) :=
  nm (s0 + s1) fun (y101 : Int32) =>
  if ((x5 >>> (x6 &&& 31)) &&& (1 : Int32)) = 0 then
    fX10_tellCarried_99 fu k13 x0 x1 x2 y101 x5 x6 x4 (1 : Int32) σ
  else
    fX10_tellCarried_99 fu k13 x0 x1 x2 y101 x5 x6 x4 (0 : Int32) σ
set_option maxHeartbeats 4000000 in
set_option maxRecDepth 100000 in
theorem tX10_tellCarried_80 {l : Launch} {D : va_G} {cA : ClassId} {bs : Nat} {ad : Nat → Nat} {p : Program} {e : Env} {s : State} {m : MethodId} {args : Array Value} {below : List Frame} {meth : Method} {c : Code} {fu : Nat} (C : Cx D cA bs ad RX10 cX10_tellCarried 9 (some .int) p s m args meth c) {k13 : Int32 → Int32 → Int32 → Int32 → Int32 → St → Option (Int32 × St)} {x0 : Nat} {x1 : Int32} {x2 : Int32} {x4 : Int32} {x5 : Int32} {x6 : Int32} {s0 : Int32} {s1 : Int32} {q : Int32 × St} (hx0 : xk x0 = 8) (hk13 : ∀ (x2 : Int32) (x3 : Int32) (x4 : Int32) (x5 : Int32) (x6 : Int32) (σ : St), k13 x2 x3 x4 x5 x6 σ = some q → Y D cA bs ad p l e (rmY 1 20) s m args below meth c 9 0 0 (QM D cA bs ad below args s (some (.int q.1)) q.2) σ 13 [(0, .ref (ad x0)), (1, .int x1), (2, .int x2), (3, .int x3), (4, .int x4), (5, .int x5), (6, .int x6)] []) {σ : St} (h : fX10_tellCarried_80 fu k13 x0 x1 x2 x4 x5 x6 s0 s1 σ = some q) : Y D cA bs ad p l e (rmY 1 20) s m args below meth c 9 0 0 (QM D cA bs ad below args s (some (.int q.1)) q.2) σ 80 [(0, .ref (ad x0)), (1, .int x1), (2, .int x2), (4, .int x4), (5, .int x5), (6, .int x6)] [.int s1, .int s0] := by
  unfold fX10_tellCarried_80 at h
  refine y_iadd (pc := 80) C dX10_tellCarried_80 ?_
  obtain ⟨y101, ey101, h⟩ := nmS h
  refine y_nmI y101 ey101 ?_
  refine y_istore_n (pc := 81) (lv' := [(3, .int y101), (0, .ref (ad x0)), (1, .int x1), (2, .int x2), (4, .int x4), (5, .int x5), (6, .int x6)]) C dX10_tellCarried_81 rfl (by decide) rfl ?_
  refine y_iload (pc := 82) (q := 4) C dX10_tellCarried_82 rfl ?_
  refine y_iload (pc := 84) (q := 5) C dX10_tellCarried_84 rfl ?_
  refine y_iload (pc := 86) (q := 6) C dX10_tellCarried_86 rfl ?_
  refine y_ishr (pc := 88) C dX10_tellCarried_88 ?_
  refine y_iconst (pc := 89) (v := (1 : Int32)) C dX10_tellCarried_89 (by decide) ?_
  refine y_iand (pc := 90) C dX10_tellCarried_90 ?_
  refine y_if_ne (pc := 91) (tgt := 98) C dX10_tellCarried_91 (by decide) (fun c102 => ?_) (fun c102 => ?_)
  · rw [if_neg c102] at h
    refine y_iconst (pc := 98) (v := (0 : Int32)) C dX10_tellCarried_98 (by decide) ?_
    refine y_sub [1, 2, 3, 0, 5, 6] (lv' := [(0, .ref (ad x0)), (1, .int x1), (2, .int x2), (3, .int y101), (5, .int x5), (6, .int x6)]) rfl ?_
    exact tX10_tellCarried_99 (fu := fu) C hx0 hk13 h
  · rw [if_pos c102] at h
    refine y_iconst (pc := 94) (v := (1 : Int32)) C dX10_tellCarried_94 (by decide) ?_
    refine y_goto (pc := 95) (tgt := 99) C dX10_tellCarried_95 (by decide) ?_
    refine y_sub [1, 2, 3, 0, 5, 6] (lv' := [(0, .ref (ad x0)), (1, .int x1), (2, .int x2), (3, .int y101), (5, .int x5), (6, .int x6)]) rfl ?_
    exact tX10_tellCarried_99 (fu := fu) C hx0 hk13 h
noncomputable def fX10_tellCarried_60 (fu : Nat) (k13 : Int32 → Int32 → Int32 → Int32 → Int32 → St → Option (Int32 × St)) (x0 : Nat) (x1 : Int32) (x3 : Int32) (x4 : Int32) (x5 : Int32) (x6 : Int32) (x7 : Int32) (s0 : Int32) (s1 : Int32) (σ : St) : Option (Int32 × St) :=
  nm (s0 + s1) fun (y101 : Int32) =>
  if ((σ.1 x0 12) / (2 : Int32)) ≤ x6 then
    fX10_tellCarried_80 fu k13 x0 x1 y101 x4 x5 x6 x3 x7 σ
  else
    fX10_tellCarried_80 fu k13 x0 x1 y101 x4 x5 x6 x3 (0 : Int32) σ
set_option maxHeartbeats 4000000 in
set_option maxRecDepth 100000 in
theorem tX10_tellCarried_60 {l : Launch} {D : va_G} {cA : ClassId} {bs : Nat} {ad : Nat → Nat} {p : Program} {e : Env} {s : State} {m : MethodId} {args : Array Value} {below : List Frame} {meth : Method} {c : Code} {fu : Nat} (C : Cx D cA bs ad RX10 cX10_tellCarried 9 (some .int) p s m args meth c) {k13 : Int32 → Int32 → Int32 → Int32 → Int32 → St → Option (Int32 × St)} {x0 : Nat} {x1 : Int32} {x3 : Int32} {x4 : Int32} {x5 : Int32} {x6 : Int32} {x7 : Int32} {s0 : Int32} {s1 : Int32} {q : Int32 × St} (hx0 : xk x0 = 8) (hk13 : ∀ (x2 : Int32) (x3 : Int32) (x4 : Int32) (x5 : Int32) (x6 : Int32) (σ : St), k13 x2 x3 x4 x5 x6 σ = some q → Y D cA bs ad p l e (rmY 1 20) s m args below meth c 9 0 0 (QM D cA bs ad below args s (some (.int q.1)) q.2) σ 13 [(0, .ref (ad x0)), (1, .int x1), (2, .int x2), (3, .int x3), (4, .int x4), (5, .int x5), (6, .int x6)] []) {σ : St} (h : fX10_tellCarried_60 fu k13 x0 x1 x3 x4 x5 x6 x7 s0 s1 σ = some q) : Y D cA bs ad p l e (rmY 1 20) s m args below meth c 9 0 0 (QM D cA bs ad below args s (some (.int q.1)) q.2) σ 60 [(0, .ref (ad x0)), (1, .int x1), (3, .int x3), (4, .int x4), (5, .int x5), (6, .int x6), (7, .int x7)] [.int s1, .int s0] := by
  unfold fX10_tellCarried_60 at h
  refine y_iadd (pc := 60) C dX10_tellCarried_60 ?_
  obtain ⟨y101, ey101, h⟩ := nmS h
  refine y_nmI y101 ey101 ?_
  refine y_istore_n (pc := 61) (lv' := [(2, .int y101), (0, .ref (ad x0)), (1, .int x1), (3, .int x3), (4, .int x4), (5, .int x5), (6, .int x6), (7, .int x7)]) C dX10_tellCarried_61 rfl (by decide) rfl ?_
  refine y_iload_n (pc := 62) (q := 3) C dX10_tellCarried_62 rfl rfl ?_
  refine y_iload (pc := 63) (q := 6) C dX10_tellCarried_63 rfl ?_
  refine y_aload_n (pc := 65) (q := 1) C dX10_tellCarried_65 rfl rfl ?_
  refine y_geti (pc := 66) C faX10_105 rfl hx0 dX10_tellCarried_66 ?_
  refine y_iconst (pc := 69) (v := (2 : Int32)) C dX10_tellCarried_69 (by decide) ?_
  refine y_idiv (pc := 70) C dX10_tellCarried_70 (by decide) ?_
  refine y_icmp_ge (pc := 71) (tgt := 78) C dX10_tellCarried_71 (by decide) (fun c103 => ?_) (fun c103 => ?_)
  · rw [if_pos c103] at h
    refine y_iload (pc := 78) (q := 7) C dX10_tellCarried_78 rfl ?_
    refine y_sub [1, 2, 0, 4, 5, 6] (lv' := [(0, .ref (ad x0)), (1, .int x1), (2, .int y101), (4, .int x4), (5, .int x5), (6, .int x6)]) rfl ?_
    exact tX10_tellCarried_80 (fu := fu) C hx0 hk13 h
  · rw [if_neg c103] at h
    refine y_iconst (pc := 74) (v := (0 : Int32)) C dX10_tellCarried_74 (by decide) ?_
    refine y_goto (pc := 75) (tgt := 80) C dX10_tellCarried_75 (by decide) ?_
    refine y_sub [1, 2, 0, 4, 5, 6] (lv' := [(0, .ref (ad x0)), (1, .int x1), (2, .int y101), (4, .int x4), (5, .int x5), (6, .int x6)]) rfl ?_
    exact tX10_tellCarried_80 (fu := fu) C hx0 hk13 h
noncomputable def fX10_tellCarried_183 (fu : Nat) (x0 : Nat) (x1 : Int32) (s0 : Int32) (σ : St) : Option (Int32 × St) :=
  some (s0, σ)
set_option maxHeartbeats 4000000 in
set_option maxRecDepth 100000 in
theorem tX10_tellCarried_183 {l : Launch} {D : va_G} {cA : ClassId} {bs : Nat} {ad : Nat → Nat} {p : Program} {e : Env} {s : State} {m : MethodId} {args : Array Value} {below : List Frame} {meth : Method} {c : Code} {fu : Nat} (C : Cx D cA bs ad RX10 cX10_tellCarried 9 (some .int) p s m args meth c) {x0 : Nat} {x1 : Int32} {s0 : Int32} {q : Int32 × St} (hx0 : xk x0 = 8) {σ : St} (h : fX10_tellCarried_183 fu x0 x1 s0 σ = some q) : Y D cA bs ad p l e (rmY 1 20) s m args below meth c 9 0 0 (QM D cA bs ad below args s (some (.int q.1)) q.2) σ 183 [(0, .ref (ad x0)), (1, .int x1)] [.int s0] := by
  unfold fX10_tellCarried_183 at h
  cases h
  exact y_iret (pc := 183) C dX10_tellCarried_183
noncomputable def fX10_tellCarried_13b (fu : Nat) (k13 : Int32 → Int32 → Int32 → Int32 → Int32 → St → Option (Int32 × St)) (x0 : Nat) (x1 : Int32) (x2 : Int32) (x3 : Int32) (x4 : Int32) (x5 : Int32) (x6 : Int32) (σ : St) : Option (Int32 × St) :=
  if (σ.1 x0 12) ≤ x6 then
    if x1 = 0 then
      fX10_tellCarried_183 fu x0 x1 (x2 + x3) σ
    else
      if x1 = (1 : Int32) then
        fX10_tellCarried_183 fu x0 x1 ((σ.1 x0 12) - x4) σ
      else
        if x2 ≤ x3 then
          fX10_tellCarried_183 fu x0 x1 x3 σ
        else
          fX10_tellCarried_183 fu x0 x1 x2 σ
  else
    (ald σ (rf x0 19) 7 x6).bind fun (v105 : Int32) =>
    (ald σ (rf x0 16) 7 v105).bind fun (v106 : Int32) =>
    (fX10_size fu (v106 - x6) σ).bind fun (q107 : Int32 × St) =>
    if ((q107.2.1 x0 12) / (2 : Int32)) ≤ x6 then
      fX10_tellCarried_60 fu k13 x0 x1 x3 x4 x5 x6 q107.1 x2 (0 : Int32) q107.2
    else
      fX10_tellCarried_60 fu k13 x0 x1 x3 x4 x5 x6 q107.1 x2 q107.1 q107.2
set_option maxHeartbeats 4000000 in
set_option maxRecDepth 100000 in
theorem tX10_tellCarried_13b {l : Launch} {D : va_G} {cA : ClassId} {bs : Nat} {ad : Nat → Nat} {p : Program} {e : Env} {s : State} {m : MethodId} {args : Array Value} {below : List Frame} {meth : Method} {c : Code} {fu : Nat} (C : Cx D cA bs ad RX10 cX10_tellCarried 9 (some .int) p s m args meth c) {k13 : Int32 → Int32 → Int32 → Int32 → Int32 → St → Option (Int32 × St)} {x0 : Nat} {x1 : Int32} {x2 : Int32} {x3 : Int32} {x4 : Int32} {x5 : Int32} {x6 : Int32} {q : Int32 × St} (hx0 : xk x0 = 8) (hk13 : ∀ (x2 : Int32) (x3 : Int32) (x4 : Int32) (x5 : Int32) (x6 : Int32) (σ : St), k13 x2 x3 x4 x5 x6 σ = some q → Y D cA bs ad p l e (rmY 1 20) s m args below meth c 9 0 0 (QM D cA bs ad below args s (some (.int q.1)) q.2) σ 13 [(0, .ref (ad x0)), (1, .int x1), (2, .int x2), (3, .int x3), (4, .int x4), (5, .int x5), (6, .int x6)] []) {σ : St} (h : fX10_tellCarried_13b fu k13 x0 x1 x2 x3 x4 x5 x6 σ = some q) : Y D cA bs ad p l e (rmY 1 20) s m args below meth c 9 0 0 (QM D cA bs ad below args s (some (.int q.1)) q.2) σ 13 [(0, .ref (ad x0)), (1, .int x1), (2, .int x2), (3, .int x3), (4, .int x4), (5, .int x5), (6, .int x6)] [] := by
  unfold fX10_tellCarried_13b at h
  refine y_iload (pc := 13) (q := 6) C dX10_tellCarried_13 rfl ?_
  refine y_aload_n (pc := 15) (q := 0) C dX10_tellCarried_15 rfl rfl ?_
  refine y_geti (pc := 16) C faX10_105 rfl hx0 dX10_tellCarried_16 ?_
  refine y_icmp_ge (pc := 19) (tgt := 148) C dX10_tellCarried_19 (by decide) (fun c101 => ?_) (fun c101 => ?_)
  · rw [if_pos c101] at h
    refine y_iload_n (pc := 148) (q := 1) C dX10_tellCarried_148 rfl rfl ?_
    refine y_if_ne (pc := 149) (tgt := 158) C dX10_tellCarried_149 (by decide) (fun c102 => ?_) (fun c102 => ?_)
    · rw [if_neg c102] at h
      refine y_iload_n (pc := 158) (q := 1) C dX10_tellCarried_158 rfl rfl ?_
      refine y_iconst (pc := 159) (v := (1 : Int32)) C dX10_tellCarried_159 (by decide) ?_
      refine y_icmp_ne (pc := 160) (tgt := 173) C dX10_tellCarried_160 (by decide) (fun c103 => ?_) (fun c103 => ?_)
      · rw [if_neg c103] at h
        refine y_iload_n (pc := 173) (q := 2) C dX10_tellCarried_173 rfl rfl ?_
        refine y_iload_n (pc := 174) (q := 3) C dX10_tellCarried_174 rfl rfl ?_
        refine y_icmp_le (pc := 175) (tgt := 182) C dX10_tellCarried_175 (by decide) (fun c104 => ?_) (fun c104 => ?_)
        · rw [if_pos c104] at h
          refine y_iload_n (pc := 182) (q := 3) C dX10_tellCarried_182 rfl rfl ?_
          refine y_sub [0, 1] (lv' := [(0, .ref (ad x0)), (1, .int x1)]) rfl ?_
          exact tX10_tellCarried_183 (fu := fu) C hx0 h
        · rw [if_neg c104] at h
          refine y_iload_n (pc := 178) (q := 2) C dX10_tellCarried_178 rfl rfl ?_
          refine y_goto (pc := 179) (tgt := 183) C dX10_tellCarried_179 (by decide) ?_
          refine y_sub [0, 1] (lv' := [(0, .ref (ad x0)), (1, .int x1)]) rfl ?_
          exact tX10_tellCarried_183 (fu := fu) C hx0 h
      · rw [if_pos c103] at h
        refine y_aload_n (pc := 163) (q := 0) C dX10_tellCarried_163 rfl rfl ?_
        refine y_geti (pc := 164) C faX10_105 rfl hx0 dX10_tellCarried_164 ?_
        refine y_iload (pc := 167) (q := 4) C dX10_tellCarried_167 rfl ?_
        refine y_isub (pc := 169) C dX10_tellCarried_169 ?_
        refine y_goto (pc := 170) (tgt := 183) C dX10_tellCarried_170 (by decide) ?_
        refine y_sub [0, 1] (lv' := [(0, .ref (ad x0)), (1, .int x1)]) rfl ?_
        exact tX10_tellCarried_183 (fu := fu) C hx0 h
    · rw [if_pos c102] at h
      refine y_iload_n (pc := 152) (q := 2) C dX10_tellCarried_152 rfl rfl ?_
      refine y_iload_n (pc := 153) (q := 3) C dX10_tellCarried_153 rfl rfl ?_
      refine y_iadd (pc := 154) C dX10_tellCarried_154 ?_
      refine y_goto (pc := 155) (tgt := 183) C dX10_tellCarried_155 (by decide) ?_
      refine y_sub [0, 1] (lv' := [(0, .ref (ad x0)), (1, .int x1)]) rfl ?_
      exact tX10_tellCarried_183 (fu := fu) C hx0 h
  · rw [if_neg c101] at h
    refine y_aload_n (pc := 22) (q := 0) C dX10_tellCarried_22 rfl rfl ?_
    refine y_getr (pc := 23) C faX10_22 rfl hx0 dX10_tellCarried_23 ?_
    refine y_aload_n (pc := 26) (q := 0) C dX10_tellCarried_26 rfl rfl ?_
    refine y_getr (pc := 27) C faX10_31 rfl hx0 dX10_tellCarried_27 ?_
    refine y_iload (pc := 30) (q := 6) C dX10_tellCarried_30 rfl ?_
    obtain ⟨v105, ev105, h⟩ := bdS h
    refine y_iald (pc := 32) (n := 7) C (rf_8_19 _ hx0) (by decide) ev105 dX10_tellCarried_32 ?_
    obtain ⟨v106, ev106, h⟩ := bdS h
    refine y_iald (pc := 33) (n := 7) C (rf_8_16 _ hx0) (by decide) ev106 dX10_tellCarried_33 ?_
    refine y_iload (pc := 34) (q := 6) C dX10_tellCarried_34 rfl ?_
    refine y_isub (pc := 36) C dX10_tellCarried_36 ?_
    obtain ⟨q107, eq107, h⟩ := bdS h
    refine y_callS (pc := 37) (As := [.int (v106 - x6)]) (rest := []) C (mX10_size (fu := fu) eq107) vwX10_130 rfl rfl (Nat.le_of_ble_eq_true rfl) ⟨Nat.le_of_ble_eq_true rfl, Nat.le_of_ble_eq_true rfl⟩ ⟨Nat.le_refl _, Nat.le_refl _⟩ dX10_tellCarried_37 ?_
    show Y _ _ _ _ _ _ _ _ _ _ _ _ _ _ _ _ _ _ q107.2 40 [(0, .ref (ad x0)), (1, .int x1), (2, .int x2), (3, .int x3), (4, .int x4), (5, .int x5), (6, .int x6)] [.int q107.1]
    refine y_istore (pc := 40) (lv' := [(7, .int q107.1), (0, .ref (ad x0)), (1, .int x1), (2, .int x2), (3, .int x3), (4, .int x4), (5, .int x5), (6, .int x6)]) C dX10_tellCarried_40 (by decide) rfl ?_
    refine y_iload_n (pc := 42) (q := 3) C dX10_tellCarried_42 rfl rfl ?_
    refine y_iload (pc := 43) (q := 7) C dX10_tellCarried_43 rfl ?_
    refine y_aload_n (pc := 45) (q := 1) C dX10_tellCarried_45 rfl rfl ?_
    refine y_geti (pc := 46) C faX10_105 rfl hx0 dX10_tellCarried_46 ?_
    refine y_iconst (pc := 49) (v := (2 : Int32)) C dX10_tellCarried_49 (by decide) ?_
    refine y_idiv (pc := 50) C dX10_tellCarried_50 (by decide) ?_
    refine y_icmp_ge (pc := 51) (tgt := 59) C dX10_tellCarried_51 (by decide) (fun c109 => ?_) (fun c109 => ?_)
    · rw [if_pos c109] at h
      refine y_iconst (pc := 59) (v := (0 : Int32)) C dX10_tellCarried_59 (by decide) ?_
      refine y_sub [1, 2, 4, 5, 6, 7, 0] (lv' := [(0, .ref (ad x0)), (1, .int x1), (3, .int x3), (4, .int x4), (5, .int x5), (6, .int x6), (7, .int q107.1)]) rfl ?_
      exact tX10_tellCarried_60 (fu := fu) C hx0 hk13 h
    · rw [if_neg c109] at h
      refine y_iload (pc := 54) (q := 0) C dX10_tellCarried_54 rfl ?_
      refine y_goto (pc := 56) (tgt := 60) C dX10_tellCarried_56 (by decide) ?_
      refine y_sub [1, 2, 4, 5, 6, 7, 0] (lv' := [(0, .ref (ad x0)), (1, .int x1), (3, .int x3), (4, .int x4), (5, .int x5), (6, .int x6), (7, .int q107.1)]) rfl ?_
      exact tX10_tellCarried_60 (fu := fu) C hx0 hk13 h
noncomputable def fX10_tellCarried_13 (fu : Nat) (x0 : Nat) (x1 : Int32) : Nat → Int32 → Int32 → Int32 → Int32 → Int32 → St → Option (Int32 × St) := lp (fun k13 => fX10_tellCarried_13b fu k13 x0 x1) (fun _ _ _ _ _ _ => none)
set_option maxHeartbeats 4000000 in
theorem tX10_tellCarried_13 {l : Launch} {D : va_G} {cA : ClassId} {bs : Nat} {ad : Nat → Nat} {p : Program} {e : Env} {s : State} {m : MethodId} {args : Array Value} {below : List Frame} {meth : Method} {c : Code} {fu : Nat} (C : Cx D cA bs ad RX10 cX10_tellCarried 9 (some .int) p s m args meth c) {x0 : Nat} {x1 : Int32} {q : Int32 × St} (hx0 : xk x0 = 8)  : ∀ (n : Nat) (x2 : Int32) (x3 : Int32) (x4 : Int32) (x5 : Int32) (x6 : Int32) (σ : St), fX10_tellCarried_13 fu  x0 x1 n x2 x3 x4 x5 x6 σ = some q → Y D cA bs ad p l e (rmY 1 20) s m args below meth c 9 0 0 (QM D cA bs ad below args s (some (.int q.1)) q.2) σ 13 [(0, .ref (ad x0)), (1, .int x1), (2, .int x2), (3, .int x3), (4, .int x4), (5, .int x5), (6, .int x6)] [] := by
  intro n
  induction n with
  | zero => intro x2 x3 x4 x5 x6 σ h; cases h
  | succ n ih => intro x2 x3 x4 x5 x6 σ h; exact tX10_tellCarried_13b (fu := fu) C hx0 ih h
noncomputable def fX10_tellCarried_0 (fu : Nat) (x0 : Nat) (x1 : Int32) (σ : St) : Option (Int32 × St) :=
  fX10_tellCarried_13 fu x0 x1 fu (0 : Int32) (0 : Int32) (0 : Int32) (0 : Int32) (0 : Int32) σ
set_option maxHeartbeats 4000000 in
set_option maxRecDepth 100000 in
theorem tX10_tellCarried_0 {l : Launch} {D : va_G} {cA : ClassId} {bs : Nat} {ad : Nat → Nat} {p : Program} {e : Env} {s : State} {m : MethodId} {args : Array Value} {below : List Frame} {meth : Method} {c : Code} {fu : Nat} (C : Cx D cA bs ad RX10 cX10_tellCarried 9 (some .int) p s m args meth c) {x0 : Nat} {x1 : Int32} {q : Int32 × St} (hx0 : xk x0 = 8) {σ : St} (h : fX10_tellCarried_0 fu x0 x1 σ = some q) : Y D cA bs ad p l e (rmY 1 20) s m args below meth c 9 0 0 (QM D cA bs ad below args s (some (.int q.1)) q.2) σ 0 [(0, .ref (ad x0)), (1, .int x1)] [] := by
  unfold fX10_tellCarried_0 at h
  refine y_iconst (pc := 0) (v := (0 : Int32)) C dX10_tellCarried_0 (by decide) ?_
  refine y_istore_n (pc := 1) (lv' := [(2, .int (0 : Int32)), (0, .ref (ad x0)), (1, .int x1)]) C dX10_tellCarried_1 rfl (by decide) rfl ?_
  refine y_iconst (pc := 2) (v := (0 : Int32)) C dX10_tellCarried_2 (by decide) ?_
  refine y_istore_n (pc := 3) (lv' := [(3, .int (0 : Int32)), (2, .int (0 : Int32)), (0, .ref (ad x0)), (1, .int x1)]) C dX10_tellCarried_3 rfl (by decide) rfl ?_
  refine y_iconst (pc := 4) (v := (0 : Int32)) C dX10_tellCarried_4 (by decide) ?_
  refine y_istore (pc := 5) (lv' := [(4, .int (0 : Int32)), (3, .int (0 : Int32)), (2, .int (0 : Int32)), (0, .ref (ad x0)), (1, .int x1)]) C dX10_tellCarried_5 (by decide) rfl ?_
  refine y_iconst (pc := 7) (v := (0 : Int32)) C dX10_tellCarried_7 (by decide) ?_
  refine y_istore (pc := 8) (lv' := [(5, .int (0 : Int32)), (4, .int (0 : Int32)), (3, .int (0 : Int32)), (2, .int (0 : Int32)), (0, .ref (ad x0)), (1, .int x1)]) C dX10_tellCarried_8 (by decide) rfl ?_
  refine y_iconst (pc := 10) (v := (0 : Int32)) C dX10_tellCarried_10 (by decide) ?_
  refine y_istore (pc := 11) (lv' := [(6, .int (0 : Int32)), (5, .int (0 : Int32)), (4, .int (0 : Int32)), (3, .int (0 : Int32)), (2, .int (0 : Int32)), (0, .ref (ad x0)), (1, .int x1)]) C dX10_tellCarried_11 (by decide) rfl ?_
  refine y_sub [5, 6, 4, 3, 2, 1, 0] (lv' := [(0, .ref (ad x0)), (1, .int x1), (2, .int (0 : Int32)), (3, .int (0 : Int32)), (4, .int (0 : Int32)), (5, .int (0 : Int32)), (6, .int (0 : Int32))]) rfl ?_
  exact tX10_tellCarried_13 (fu := fu) C hx0 fu _ _ _ _ _ _ h
noncomputable def fX10_tellCarried (fu : Nat) (x0 : Nat) (x1 : Int32) (σ : St) : Option (Int32 × St) := if xk x0 = 8 then fX10_tellCarried_0 fu x0 x1 σ else none
theorem mX10_tellCarried {l : Launch} {D : va_G} {cA : ClassId} {bs fu : Nat} {ad : Nat → Nat} {x0 : Nat} {x1 : Int32} {σ : St} {q : Int32 × St} (h : fX10_tellCarried fu x0 x1 σ = some q) : Ct l D cA bs ad yX10_tellCarried cX10_tellCarried 9 (some .int) 1 20 [.ref (ad x0), .int x1] σ (some (.int q.1)) q.2 := by
  unfold fX10_tellCarried at h
  by_cases hx0 : xk x0 = 8
  case neg => rw [if_neg hx0] at h; cases h
  rw [if_pos hx0] at h
  exact Ct.of (by decide) (Nat.le_of_ble_eq_true rfl) (fun p e s m args below meth c C => tX10_tellCarried_0 (fu := fu) C hx0 h)
noncomputable def fX10_carried_40 (fu : Nat) (x0 : Nat) (x1 : Int32) (x2 : Int32) (s0 : Int32) (σ : St) : Option (Int32 × St) :=
  some (s0, σ)
set_option maxHeartbeats 4000000 in
set_option maxRecDepth 100000 in
theorem tX10_carried_40 {l : Launch} {D : va_G} {cA : ClassId} {bs : Nat} {ad : Nat → Nat} {p : Program} {e : Env} {s : State} {m : MethodId} {args : Array Value} {below : List Frame} {meth : Method} {c : Code} {fu : Nat} (C : Cx D cA bs ad RX10 cX10_carried 3 (some .int) p s m args meth c) {x0 : Nat} {x1 : Int32} {x2 : Int32} {s0 : Int32} {q : Int32 × St} (hx0 : xk x0 = 8) {σ : St} (h : fX10_carried_40 fu x0 x1 x2 s0 σ = some q) : Y D cA bs ad p l e (rmY 2 48) s m args below meth c 3 0 0 (QM D cA bs ad below args s (some (.int q.1)) q.2) σ 40 [(0, .ref (ad x0)), (1, .int x1), (2, .int x2)] [.int s0] := by
  unfold fX10_carried_40 at h
  cases h
  exact y_iret (pc := 40) C dX10_carried_40
noncomputable def fX10_carried_38 (fu : Nat) (x0 : Nat) (x1 : Int32) (x2 : Int32) (σ : St) : Option (Int32 × St) :=
  fX10_carried_40 fu x0 x1 x2 (-102 : Int32) σ
set_option maxHeartbeats 4000000 in
set_option maxRecDepth 100000 in
theorem tX10_carried_38 {l : Launch} {D : va_G} {cA : ClassId} {bs : Nat} {ad : Nat → Nat} {p : Program} {e : Env} {s : State} {m : MethodId} {args : Array Value} {below : List Frame} {meth : Method} {c : Code} {fu : Nat} (C : Cx D cA bs ad RX10 cX10_carried 3 (some .int) p s m args meth c) {x0 : Nat} {x1 : Int32} {x2 : Int32} {q : Int32 × St} (hx0 : xk x0 = 8) {σ : St} (h : fX10_carried_38 fu x0 x1 x2 σ = some q) : Y D cA bs ad p l e (rmY 2 48) s m args below meth c 3 0 0 (QM D cA bs ad below args s (some (.int q.1)) q.2) σ 38 [(0, .ref (ad x0)), (1, .int x1), (2, .int x2)] [] := by
  unfold fX10_carried_38 at h
  refine y_bipush (pc := 38) (v := (-102 : Int32)) C dX10_carried_38 (by decide) ?_
  exact tX10_carried_40 (fu := fu) C hx0 h
noncomputable def fX10_carried_0 (fu : Nat) (x0 : Nat) (x1 : Int32) (x2 : Int32) (σ : St) : Option (Int32 × St) :=
  (fX10_lacks fu x0 σ).bind fun (q101 : Int32 × St) =>
  if q101.1 = 0 then
    (fX10_readOrder fu x0 x1 q101.2).bind fun (q103 : Int32 × St) =>
    if q103.1 = 0 then
      fX10_carried_38 fu x0 x1 x2 q103.2
    else
      (fX10_in fu x2.toInt64 (0 : Int64) (2 : Int64) q103.2).bind fun (q105 : Int32 × St) =>
      if q105.1 = 0 then
        fX10_carried_38 fu x0 x1 x2 q105.2
      else
        (fX10_tellCarried fu x0 x2 q105.2).bind fun (q107 : Int32 × St) =>
        fX10_carried_40 fu x0 x1 x2 q107.1 q107.2
  else
    some ((-103 : Int32), q101.2)
set_option maxHeartbeats 4000000 in
set_option maxRecDepth 100000 in
theorem tX10_carried_0 {l : Launch} {D : va_G} {cA : ClassId} {bs : Nat} {ad : Nat → Nat} {p : Program} {e : Env} {s : State} {m : MethodId} {args : Array Value} {below : List Frame} {meth : Method} {c : Code} {fu : Nat} (C : Cx D cA bs ad RX10 cX10_carried 3 (some .int) p s m args meth c) {x0 : Nat} {x1 : Int32} {x2 : Int32} {q : Int32 × St} (hx0 : xk x0 = 8) {σ : St} (h : fX10_carried_0 fu x0 x1 x2 σ = some q) : Y D cA bs ad p l e (rmY 2 48) s m args below meth c 3 0 0 (QM D cA bs ad below args s (some (.int q.1)) q.2) σ 0 [(0, .ref (ad x0)), (1, .int x1), (2, .int x2)] [] := by
  unfold fX10_carried_0 at h
  refine y_aload_n (pc := 0) (q := 0) C dX10_carried_0 rfl rfl ?_
  obtain ⟨q101, eq101, h⟩ := bdS h
  refine y_callV (pc := 1) (As := []) (rest := []) C (mX10_lacks (fu := fu) eq101) vwX10_137 rfl (by decide) hx0 rfl rfl (Nat.le_of_ble_eq_true rfl) ⟨Nat.le_of_ble_eq_true rfl, Nat.le_of_ble_eq_true rfl⟩ ⟨Nat.le_refl _, Nat.le_refl _⟩ dX10_carried_1 ?_
  show Y _ _ _ _ _ _ _ _ _ _ _ _ _ _ _ _ _ _ q101.2 4 [(0, .ref (ad x0)), (1, .int x1), (2, .int x2)] [.int q101.1]
  refine y_if_eq (pc := 4) (tgt := 10) C dX10_carried_4 (by decide) (fun c102 => ?_) (fun c102 => ?_)
  · rw [if_pos c102] at h
    refine y_aload_n (pc := 10) (q := 0) C dX10_carried_10 rfl rfl ?_
    refine y_iload_n (pc := 11) (q := 1) C dX10_carried_11 rfl rfl ?_
    obtain ⟨q103, eq103, h⟩ := bdS h
    refine y_callV (pc := 12) (As := [.int x1]) (rest := []) C (mX10_readOrder (fu := fu) eq103) vwX10_141 rfl (by decide) hx0 rfl rfl (Nat.le_of_ble_eq_true rfl) ⟨Nat.le_of_ble_eq_true rfl, Nat.le_of_ble_eq_true rfl⟩ ⟨Nat.le_refl _, Nat.le_refl _⟩ dX10_carried_12 ?_
    show Y _ _ _ _ _ _ _ _ _ _ _ _ _ _ _ _ _ _ q103.2 15 [(0, .ref (ad x0)), (1, .int x1), (2, .int x2)] [.int q103.1]
    refine y_if_eq (pc := 15) (tgt := 38) C dX10_carried_15 (by decide) (fun c104 => ?_) (fun c104 => ?_)
    · rw [if_pos c104] at h
      exact tX10_carried_38 (fu := fu) C hx0 h
    · rw [if_neg c104] at h
      refine y_iload_n (pc := 18) (q := 2) C dX10_carried_18 rfl rfl ?_
      refine y_i2l (pc := 19) C dX10_carried_19 ?_
      refine y_lconst (pc := 20) (v := (0 : Int64)) C dX10_carried_20 (by decide) ?_
      refine y_ldc2 (pc := 21) C dX10_carried_21 cwX10_189 ?_
      obtain ⟨q105, eq105, h⟩ := bdS h
      refine y_callS (pc := 24) (As := [.long x2.toInt64, .long (0 : Int64), .long (2 : Int64)]) (rest := []) C (mX10_in (fu := fu) eq105) vwX10_68 rfl rfl (Nat.le_of_ble_eq_true rfl) ⟨Nat.le_of_ble_eq_true rfl, Nat.le_of_ble_eq_true rfl⟩ ⟨Nat.le_refl _, Nat.le_refl _⟩ dX10_carried_24 ?_
      show Y _ _ _ _ _ _ _ _ _ _ _ _ _ _ _ _ _ _ q105.2 27 [(0, .ref (ad x0)), (1, .int x1), (2, .int x2)] [.int q105.1]
      refine y_if_eq (pc := 27) (tgt := 38) C dX10_carried_27 (by decide) (fun c106 => ?_) (fun c106 => ?_)
      · rw [if_pos c106] at h
        exact tX10_carried_38 (fu := fu) C hx0 h
      · rw [if_neg c106] at h
        refine y_aload_n (pc := 30) (q := 0) C dX10_carried_30 rfl rfl ?_
        refine y_iload_n (pc := 31) (q := 2) C dX10_carried_31 rfl rfl ?_
        obtain ⟨q107, eq107, h⟩ := bdS h
        refine y_callV (pc := 32) (As := [.int x2]) (rest := []) C (mX10_tellCarried (fu := fu) eq107) vwX10_191 rfl (by decide) hx0 rfl rfl (Nat.le_of_ble_eq_true rfl) ⟨Nat.le_of_ble_eq_true rfl, Nat.le_of_ble_eq_true rfl⟩ ⟨Nat.le_refl _, Nat.le_refl _⟩ dX10_carried_32 ?_
        show Y _ _ _ _ _ _ _ _ _ _ _ _ _ _ _ _ _ _ q107.2 35 [(0, .ref (ad x0)), (1, .int x1), (2, .int x2)] [.int q107.1]
        refine y_goto (pc := 35) (tgt := 40) C dX10_carried_35 (by decide) ?_
        exact tX10_carried_40 (fu := fu) C hx0 h
  · rw [if_neg c102] at h
    refine y_bipush (pc := 7) (v := (-103 : Int32)) C dX10_carried_7 (by decide) ?_
    cases h
    exact y_iret (pc := 9) C dX10_carried_9
noncomputable def fX10_carried (fu : Nat) (x0 : Nat) (x1 : Int32) (x2 : Int32) (σ : St) : Option (Int32 × St) := if xk x0 = 8 then fX10_carried_0 fu x0 x1 x2 σ else none
theorem mX10_carried {l : Launch} {D : va_G} {cA : ClassId} {bs fu : Nat} {ad : Nat → Nat} {x0 : Nat} {x1 : Int32} {x2 : Int32} {σ : St} {q : Int32 × St} (h : fX10_carried fu x0 x1 x2 σ = some q) : Ct l D cA bs ad yX10_carried cX10_carried 3 (some .int) 2 48 [.ref (ad x0), .int x1, .int x2] σ (some (.int q.1)) q.2 := by
  unfold fX10_carried at h
  by_cases hx0 : xk x0 = 8
  case neg => rw [if_neg hx0] at h; cases h
  rw [if_pos hx0] at h
  exact Ct.of (by decide) (Nat.le_of_ble_eq_true rfl) (fun p e s m args below meth c C => tX10_carried_0 (fu := fu) C hx0 h)
