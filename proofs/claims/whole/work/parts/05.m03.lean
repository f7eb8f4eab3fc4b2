noncomputable def fX4_told_40 (fu : Nat) (x0 : Nat) (x1 : Int32) (s0 : Int32) (σ : St) : Option (Int32 × St) :=
  some (s0, σ)
set_option maxHeartbeats 4000000 in
set_option maxRecDepth 100000 in
theorem tX4_told_40 {l : Launch} {D : va_G} {cA : ClassId} {bs : Nat} {ad : Nat → Nat} {p : Program} {e : Env} {s : State} {m : MethodId} {args : Array Value} {below : List Frame} {meth : Method} {c : Code} {fu : Nat} (C : Cx D cA bs ad RX4 cX4_told 2 (some .int) p s m args meth c) {x0 : Nat} {x1 : Int32} {s0 : Int32} {q : Int32 × St} (hx0 : xk x0 = 2) {σ : St} (h : fX4_told_40 fu x0 x1 s0 σ = some q) : Y D cA bs ad p l e (rmY 0 0) s m args below meth c 2 0 0 (QM D cA bs ad below args s (some (.int q.1)) q.2) σ 40 [(0, .ref (ad x0)), (1, .int x1)] [.int s0] := by
  unfold fX4_told_40 at h
  cases h
  exact y_iret (pc := 40) C dX4_told_40
noncomputable def fX4_told_53 (fu : Nat) (x0 : Nat) (x1 : Int32) (s0 : Int32) (σ : St) : Option (Int32 × St) :=
  some (s0, σ)
set_option maxHeartbeats 4000000 in
set_option maxRecDepth 100000 in
theorem tX4_told_53 {l : Launch} {D : va_G} {cA : ClassId} {bs : Nat} {ad : Nat → Nat} {p : Program} {e : Env} {s : State} {m : MethodId} {args : Array Value} {below : List Frame} {meth : Method} {c : Code} {fu : Nat} (C : Cx D cA bs ad RX4 cX4_told 2 (some .int) p s m args meth c) {x0 : Nat} {x1 : Int32} {s0 : Int32} {q : Int32 × St} (hx0 : xk x0 = 2) {σ : St} (h : fX4_told_53 fu x0 x1 s0 σ = some q) : Y D cA bs ad p l e (rmY 0 0) s m args below meth c 2 0 0 (QM D cA bs ad below args s (some (.int q.1)) q.2) σ 53 [(0, .ref (ad x0)), (1, .int x1)] [.int s0] := by
  unfold fX4_told_53 at h
  cases h
  exact y_iret (pc := 53) C dX4_told_53
noncomputable def fX4_told_66 (fu : Nat) (x0 : Nat) (x1 : Int32) (s0 : Int32) (σ : St) : Option (Int32 × St) :=
  some (s0, σ)
set_option maxHeartbeats 4000000 in
set_option maxRecDepth 100000 in
theorem tX4_told_66 {l : Launch} {D : va_G} {cA : ClassId} {bs : Nat} {ad : Nat → Nat} {p : Program} {e : Env} {s : State} {m : MethodId} {args : Array Value} {below : List Frame} {meth : Method} {c : Code} {fu : Nat} (C : Cx D cA bs ad RX4 cX4_told 2 (some .int) p s m args meth c) {x0 : Nat} {x1 : Int32} {s0 : Int32} {q : Int32 × St} (hx0 : xk x0 = 2) {σ : St} (h : fX4_told_66 fu x0 x1 s0 σ = some q) : Y D cA bs ad p l e (rmY 0 0) s m args below meth c 2 0 0 (QM D cA bs ad below args s (some (.int q.1)) q.2) σ 66 [(0, .ref (ad x0)), (1, .int x1)] [.int s0] := by
  unfold fX4_told_66 at h
  cases h
  exact y_iret (pc := 66) C dX4_told_66
noncomputable def fX4_told_0 (fu : Nat) (x0 : Nat) (x1 : Int32) (σ : St) : Option (Int32 × St) :=
  if x1 = (0 : Int32) then
    if (σ.1 x0 0) = 0 then
      fX4_told_40 fu x0 x1 (0 : Int32) σ
    else
      fX4_told_40 fu x0 x1 (1 : Int32) σ
  else
  if x1 = (1 : Int32) then
    if (σ.1 x0 1) = 0 then
      fX4_told_53 fu x0 x1 (0 : Int32) σ
    else
      fX4_told_53 fu x0 x1 (1 : Int32) σ
  else
  if x1 = (2 : Int32) then
    if (σ.1 x0 2) = 0 then
      fX4_told_66 fu x0 x1 (0 : Int32) σ
    else
      fX4_told_66 fu x0 x1 (1 : Int32) σ
  else
  some ((σ.1 x0 3), σ)
set_option maxHeartbeats 4000000 in
set_option maxRecDepth 100000 in
theorem tX4_told_0 {l : Launch} {D : va_G} {cA : ClassId} {bs : Nat} {ad : Nat → Nat} {p : Program} {e : Env} {s : State} {m : MethodId} {args : Array Value} {below : List Frame} {meth : Method} {c : Code} {fu : Nat} (C : Cx D cA bs ad RX4 cX4_told 2 (some .int) p s m args meth c) {x0 : Nat} {x1 : Int32} {q : Int32 × St} (hx0 : xk x0 = 2) {σ : St} (h : fX4_told_0 fu x0 x1 σ = some q) : Y D cA bs ad p l e (rmY 0 0) s m args below meth c 2 0 0 (QM D cA bs ad below args s (some (.int q.1)) q.2) σ 0 [(0, .ref (ad x0)), (1, .int x1)] [] := by
  unfold fX4_told_0 at h
  refine y_iload_n (pc := 0) (q := 1) C dX4_told_0 rfl rfl ?_
  by_cases c101 : x1 = (0 : Int32)
  · rw [if_pos c101] at h
    refine y_tabI (pc := 1) (tgt := 28) (off := 27) C dX4_told_1 (by rw [c101]; decide) (by rw [c101]; decide) (by rw [c101]; decide +kernel) (by decide) ?_
    refine y_aload_n (pc := 28) (q := 0) C dX4_told_28 rfl rfl ?_
    refine y_geti (pc := 29) C faX4_13 rfl hx0 dX4_told_29 ?_
    refine y_if_eq (pc := 32) (tgt := 39) C dX4_told_32 (by decide) (fun c102 => ?_) (fun c102 => ?_)
    · rw [if_pos c102] at h
      refine y_iconst (pc := 39) (v := (0 : Int32)) C dX4_told_39 (by decide) ?_
      exact tX4_told_40 (fu := fu) C hx0 h
    · rw [if_neg c102] at h
      refine y_iconst (pc := 35) (v := (1 : Int32)) C dX4_told_35 (by decide) ?_
      refine y_goto (pc := 36) (tgt := 40) C dX4_told_36 (by decide) ?_
      exact tX4_told_40 (fu := fu) C hx0 h
  rw [if_neg c101] at h
  by_cases c103 : x1 = (1 : Int32)
  · rw [if_pos c103] at h
    refine y_tabI (pc := 1) (tgt := 41) (off := 40) C dX4_told_1 (by rw [c103]; decide) (by rw [c103]; decide) (by rw [c103]; decide +kernel) (by decide) ?_
    refine y_aload_n (pc := 41) (q := 0) C dX4_told_41 rfl rfl ?_
    refine y_geti (pc := 42) C faX4_17 rfl hx0 dX4_told_42 ?_
    refine y_if_eq (pc := 45) (tgt := 52) C dX4_told_45 (by decide) (fun c104 => ?_) (fun c104 => ?_)
    · rw [if_pos c104] at h
      refine y_iconst (pc := 52) (v := (0 : Int32)) C dX4_told_52 (by decide) ?_
      exact tX4_told_53 (fu := fu) C hx0 h
    · rw [if_neg c104] at h
      refine y_iconst (pc := 48) (v := (1 : Int32)) C dX4_told_48 (by decide) ?_
      refine y_goto (pc := 49) (tgt := 53) C dX4_told_49 (by decide) ?_
      exact tX4_told_53 (fu := fu) C hx0 h
  rw [if_neg c103] at h
  by_cases c105 : x1 = (2 : Int32)
  · rw [if_pos c105] at h
    refine y_tabI (pc := 1) (tgt := 54) (off := 53) C dX4_told_1 (by rw [c105]; decide) (by rw [c105]; decide) (by rw [c105]; decide +kernel) (by decide) ?_
    refine y_aload_n (pc := 54) (q := 0) C dX4_told_54 rfl rfl ?_
    refine y_geti (pc := 55) C faX4_20 rfl hx0 dX4_told_55 ?_
    refine y_if_eq (pc := 58) (tgt := 65) C dX4_told_58 (by decide) (fun c106 => ?_) (fun c106 => ?_)
    · rw [if_pos c106] at h
      refine y_iconst (pc := 65) (v := (0 : Int32)) C dX4_told_65 (by decide) ?_
      exact tX4_told_66 (fu := fu) C hx0 h
    · rw [if_neg c106] at h
      refine y_iconst (pc := 61) (v := (1 : Int32)) C dX4_told_61 (by decide) ?_
      refine y_goto (pc := 62) (tgt := 66) C dX4_told_62 (by decide) ?_
      exact tX4_told_66 (fu := fu) C hx0 h
  rw [if_neg c105] at h
  refine y_tabO (pc := 1) (tgt := 67) C dX4_told_1 (by have := lv_neT (a := 0) c101 (by decide); have := lv_neT (a := 1) c103 (by decide); have := lv_neT (a := 2) c105 (by decide); omega) (by decide) ?_
  refine y_aload_n (pc := 67) (q := 0) C dX4_told_67 rfl rfl ?_
  refine y_geti (pc := 68) C faX4_9 rfl hx0 dX4_told_68 ?_
  cases h
  exact y_iret (pc := 71) C dX4_told_71
noncomputable def fX4_told (fu : Nat) (x0 : Nat) (x1 : Int32) (σ : St) : Option (Int32 × St) := if xk x0 = 2 then fX4_told_0 fu x0 x1 σ else none
theorem mX4_told {l : Launch} {D : va_G} {cA : ClassId} {bs fu : Nat} {ad : Nat → Nat} {x0 : Nat} {x1 : Int32} {σ : St} {q : Int32 × St} (h : fX4_told fu x0 x1 σ = some q) : Ct l D cA bs ad yX4_told cX4_told 2 (some .int) 0 0 [.ref (ad x0), .int x1] σ (some (.int q.1)) q.2 := by
  unfold fX4_told at h
  by_cases hx0 : xk x0 = 2
  case neg => rw [if_neg hx0] at h; cases h
  rw [if_pos hx0] at h
  exact Ct.of (by decide) (Nat.le_of_ble_eq_true rfl) (fun p e s m args below meth c C => tX4_told_0 (fu := fu) C hx0 h)
noncomputable def fX4_hasTwinBeside_47 (fu : Nat) (x0 : Nat) (x1 : Nat) (x2 : Int32) (s0 : Int32) (σ : St) : Option (Int32 × St) :=
  if s0 = 0 ∨ s0 = 1 then some (s0, σ) else none
set_option maxHeartbeats 4000000 in
set_option maxRecDepth 100000 in
theorem tX4_hasTwinBeside_47 {l : Launch} {D : va_G} {cA : ClassId} {bs : Nat} {ad : Nat → Nat} {p : Program} {e : Env} {s : State} {m : MethodId} {args : Array Value} {below : List Frame} {meth : Method} {c : Code} {fu : Nat} (C : Cx D cA bs ad RX4 cX4_hasTwinBeside 3 (some .boolean) p s m args meth c) {x0 : Nat} {x1 : Nat} {x2 : Int32} {s0 : Int32} {q : Int32 × St} (hx0 : xk x0 = 6) (hx1 : xk x1 = 4) {σ : St} (h : fX4_hasTwinBeside_47 fu x0 x1 x2 s0 σ = some q) : Y D cA bs ad p l e (rmY 1 21) s m args below meth c 3 0 0 (QM D cA bs ad below args s (some (.int q.1)) q.2) σ 47 [(0, .ref (ad x0)), (1, .ref (ad x1)), (2, .int x2)] [.int s0] := by
  unfold fX4_hasTwinBeside_47 at h
  by_cases c101 : s0 = 0 ∨ s0 = 1
  case neg => rw [if_neg c101] at h; cases h
  rw [if_pos c101] at h
  cases h
  exact y_zret (pc := 47) C c101 dX4_hasTwinBeside_47
noncomputable def fX4_hasTwinBeside_42 (fu : Nat) (x0 : Nat) (x1 : Nat) (x2 : Int32) (σ : St) : Option (Int32 × St) :=
  fX4_hasTwinBeside_47 fu x0 x1 x2 (1 : Int32) σ
set_option maxHeartbeats 4000000 in
set_option maxRecDepth 100000 in
theorem tX4_hasTwinBeside_42 {l : Launch} {D : va_G} {cA : ClassId} {bs : Nat} {ad : Nat → Nat} {p : Program} {e : Env} {s : State} {m : MethodId} {args : Array Value} {below : List Frame} {meth : Method} {c : Code} {fu : Nat} (C : Cx D cA bs ad RX4 cX4_hasTwinBeside 3 (some .boolean) p s m args meth c) {x0 : Nat} {x1 : Nat} {x2 : Int32} {q : Int32 × St} (hx0 : xk x0 = 6) (hx1 : xk x1 = 4) {σ : St} (h : fX4_hasTwinBeside_42 fu x0 x1 x2 σ = some q) : Y D cA bs ad p l e (rmY 1 21) s m args below meth c 3 0 0 (QM D cA bs ad below args s (some (.int q.1)) q.2) σ 42 [(0, .ref (ad x0)), (1, .ref (ad x1)), (2, .int x2)] [] := by
  unfold fX4_hasTwinBeside_42 at h
  refine y_iconst (pc := 42) (v := (1 : Int32)) C dX4_hasTwinBeside_42 (by decide) ?_
  refine y_goto (pc := 43) (tgt := 47) C dX4_hasTwinBeside_43 (by decide) ?_
  exact tX4_hasTwinBeside_47 (fu := fu) C hx0 hx1 h
noncomputable def fX4_hasTwinBeside_46 (fu : Nat) (x0 : Nat) (x1 : Nat) (x2 : Int32) (σ : St) : Option (Int32 × St) :=
  fX4_hasTwinBeside_47 fu x0 x1 x2 (0 : Int32) σ
set_option maxHeartbeats 4000000 in
set_option maxRecDepth 100000 in
theorem tX4_hasTwinBeside_46 {l : Launch} {D : va_G} {cA : ClassId} {bs : Nat} {ad : Nat → Nat} {p : Program} {e : Env} {s : State} {m : MethodId} {args : Array Value} {below : List Frame} {meth : Method} {c : Code} {fu : Nat} (C : Cx D cA bs ad RX4 cX4_hasTwinBeside 3 (some .boolean) p s m args meth c) {x0 : Nat} {x1 : Nat} {x2 : Int32} {q : Int32 × St} (hx0 : xk x0 = 6) (hx1 : xk x1 = 4) {σ : St} (h : fX4_hasTwinBeside_46 fu x0 x1 x2 σ = some q) : Y D cA bs ad p l e (rmY 1 21) s m args below meth c 3 0 0 (QM D cA bs ad below args s (some (.int q.1)) q.2) σ 46 [(0, .ref (ad x0)), (1, .ref (ad x1)), (2, .int x2)] [] := by
  unfold fX4_hasTwinBeside_46 at h
  refine y_iconst (pc := 46) (v := (0 : Int32)) C dX4_hasTwinBeside_46 (by decide) ?_
  exact tX4_hasTwinBeside_47 (fu := fu) C hx0 hx1 h
noncomputable def fX4_hasTwinBeside_18 (fu : Nat) (x0 : Nat) (x1 : Nat) (x2 : Int32) (σ : St) : Option (Int32 × St) :=
  (fX6_size fu x1 σ).bind fun (q101 : Int32 × St) =>
  if q101.1 ≤ (x2 + (1 : Int32)) then
    fX4_hasTwinBeside_46 fu x0 x1 x2 q101.2
  else
    (fX6_blockIn fu x1 (x2 + (1 : Int32)) q101.2).bind fun (q103 : Int32 × St) =>
    (fX8_isTwin fu x0 q103.1 q103.2).bind fun (q104 : Int32 × St) =>
    if q104.1 = 0 then
      fX4_hasTwinBeside_46 fu x0 x1 x2 q104.2
    else
      fX4_hasTwinBeside_42 fu x0 x1 x2 q104.2
set_option maxHeartbeats 4000000 in
set_option maxRecDepth 100000 in
theorem tX4_hasTwinBeside_18 {l : Launch} {D : va_G} {cA : ClassId} {bs : Nat} {ad : Nat → Nat} {p : Program} {e : Env} {s : State} {m : MethodId} {args : Array Value} {below : List Frame} {meth : Method} {c : Code} {fu : Nat} (C : Cx D cA bs ad RX4 cX4_hasTwinBeside 3 (some .boolean) p s m args meth c) {x0 : Nat} {x1 : Nat} {x2 : Int32} {q : Int32 × St} (hx0 : xk x0 = 6) (hx1 : xk x1 = 4) {σ : St} (h : fX4_hasTwinBeside_18 fu x0 x1 x2 σ = some q) : Y D cA bs ad p l e (rmY 1 21) s m args below meth c 3 0 0 (QM D cA bs ad below args s (some (.int q.1)) q.2) σ 18 [(0, .ref (ad x0)), (1, .ref (ad x1)), (2, .int x2)] [] := by
  unfold fX4_hasTwinBeside_18 at h
  refine y_iload_n (pc := 18) (q := 2) C dX4_hasTwinBeside_18 rfl rfl ?_
  refine y_iconst (pc := 19) (v := (1 : Int32)) C dX4_hasTwinBeside_19 (by decide) ?_
  refine y_iadd (pc := 20) C dX4_hasTwinBeside_20 ?_
  refine y_aload_n (pc := 21) (q := 1) C dX4_hasTwinBeside_21 rfl rfl ?_
  obtain ⟨q101, eq101, h⟩ := bdS h
  refine y_callV (pc := 22) (As := []) (rest := [.int (x2 + (1 : Int32))]) C (mX6_size (fu := fu) eq101) vwX4_47 rfl (by decide) hx1 rfl rfl (Nat.le_of_ble_eq_true rfl) ⟨Nat.le_of_ble_eq_true rfl, Nat.le_of_ble_eq_true rfl⟩ ⟨Nat.le_refl _, Nat.le_refl _⟩ dX4_hasTwinBeside_22 ?_
  show Y _ _ _ _ _ _ _ _ _ _ _ _ _ _ _ _ _ _ q101.2 25 [(0, .ref (ad x0)), (1, .ref (ad x1)), (2, .int x2)] [.int q101.1, .int (x2 + (1 : Int32))]
  refine y_icmp_ge (pc := 25) (tgt := 46) C dX4_hasTwinBeside_25 (by decide) (fun c102 => ?_) (fun c102 => ?_)
  · rw [if_pos c102] at h
    exact tX4_hasTwinBeside_46 (fu := fu) C hx0 hx1 h
  · rw [if_neg c102] at h
    refine y_aload_n (pc := 28) (q := 0) C dX4_hasTwinBeside_28 rfl rfl ?_
    refine y_aload_n (pc := 29) (q := 1) C dX4_hasTwinBeside_29 rfl rfl ?_
    refine y_iload_n (pc := 30) (q := 2) C dX4_hasTwinBeside_30 rfl rfl ?_
    refine y_iconst (pc := 31) (v := (1 : Int32)) C dX4_hasTwinBeside_31 (by decide) ?_
    refine y_iadd (pc := 32) C dX4_hasTwinBeside_32 ?_
    obtain ⟨q103, eq103, h⟩ := bdS h
    refine y_callV (pc := 33) (As := [.int (x2 + (1 : Int32))]) (rest := [.ref (ad x0)]) C (mX6_blockIn (fu := fu) eq103) vwX4_52 rfl (by decide) hx1 rfl rfl (Nat.le_of_ble_eq_true rfl) ⟨Nat.le_of_ble_eq_true rfl, Nat.le_of_ble_eq_true rfl⟩ ⟨Nat.le_refl _, Nat.le_refl _⟩ dX4_hasTwinBeside_33 ?_
    show Y _ _ _ _ _ _ _ _ _ _ _ _ _ _ _ _ _ _ q103.2 36 [(0, .ref (ad x0)), (1, .ref (ad x1)), (2, .int x2)] [.int q103.1, .ref (ad x0)]
    obtain ⟨q104, eq104, h⟩ := bdS h
    refine y_callV (pc := 36) (As := [.int q103.1]) (rest := []) C (mX8_isTwin (fu := fu) eq104) vwX4_59 rfl (by decide) hx0 rfl rfl (Nat.le_of_ble_eq_true rfl) ⟨Nat.le_of_ble_eq_true rfl, Nat.le_of_ble_eq_true rfl⟩ ⟨Nat.le_refl _, Nat.le_refl _⟩ dX4_hasTwinBeside_36 ?_
    show Y _ _ _ _ _ _ _ _ _ _ _ _ _ _ _ _ _ _ q104.2 39 [(0, .ref (ad x0)), (1, .ref (ad x1)), (2, .int x2)] [.int q104.1]
    refine y_if_eq (pc := 39) (tgt := 46) C dX4_hasTwinBeside_39 (by decide) (fun c105 => ?_) (fun c105 => ?_)
    · rw [if_pos c105] at h
      exact tX4_hasTwinBeside_46 (fu := fu) C hx0 hx1 h
    · rw [if_neg c105] at h
      exact tX4_hasTwinBeside_42 (fu := fu) C hx0 hx1 h
noncomputable def fX4_hasTwinBeside_0 (fu : Nat) (x0 : Nat) (x1 : Nat) (x2 : Int32) (σ : St) : Option (Int32 × St) :=
  if x2 ≤ 0 then
    fX4_hasTwinBeside_18 fu x0 x1 x2 σ
  else
    (fX6_blockIn fu x1 (x2 - (1 : Int32)) σ).bind fun (q102 : Int32 × St) =>
    (fX8_isTwin fu x0 q102.1 q102.2).bind fun (q103 : Int32 × St) =>
    if q103.1 = 0 then
      fX4_hasTwinBeside_18 fu x0 x1 x2 q103.2
    else
      fX4_hasTwinBeside_42 fu x0 x1 x2 q103.2
set_option maxHeartbeats 4000000 in
set_option maxRecDepth 100000 in
theorem tX4_hasTwinBeside_0 {l : Launch} {D : va_G} {cA : ClassId} {bs : Nat} {ad : Nat → Nat} {p : Program} {e : Env} {s : State} {m : MethodId} {args : Array Value} {below : List Frame} {meth : Method} {c : Code} {fu : Nat} (C : Cx D cA bs ad RX4 cX4_hasTwinBeside 3 (some .boolean) p s m args meth c) {x0 : Nat} {x1 : Nat} {x2 : Int32} {q : Int32 × St} (hx0 : xk x0 = 6) (hx1 : xk x1 = 4) {σ : St} (h : fX4_hasTwinBeside_0 fu x0 x1 x2 σ = some q) : Y D cA bs ad p l e (rmY 1 21) s m args below meth c 3 0 0 (QM D cA bs ad below args s (some (.int q.1)) q.2) σ 0 [(0, .ref (ad x0)), (1, .ref (ad x1)), (2, .int x2)] [] := by
  unfold fX4_hasTwinBeside_0 at h
  refine y_iload_n (pc := 0) (q := 2) C dX4_hasTwinBeside_0 rfl rfl ?_
  refine y_if_le (pc := 1) (tgt := 18) C dX4_hasTwinBeside_1 (by decide) (fun c101 => ?_) (fun c101 => ?_)
  · rw [if_pos c101] at h
    exact tX4_hasTwinBeside_18 (fu := fu) C hx0 hx1 h
  · rw [if_neg c101] at h
    refine y_aload_n (pc := 4) (q := 0) C dX4_hasTwinBeside_4 rfl rfl ?_
    refine y_aload_n (pc := 5) (q := 1) C dX4_hasTwinBeside_5 rfl rfl ?_
    refine y_iload_n (pc := 6) (q := 2) C dX4_hasTwinBeside_6 rfl rfl ?_
    refine y_iconst (pc := 7) (v := (1 : Int32)) C dX4_hasTwinBeside_7 (by decide) ?_
    refine y_isub (pc := 8) C dX4_hasTwinBeside_8 ?_
    obtain ⟨q102, eq102, h⟩ := bdS h
    refine y_callV (pc := 9) (As := [.int (x2 - (1 : Int32))]) (rest := [.ref (ad x0)]) C (mX6_blockIn (fu := fu) eq102) vwX4_52 rfl (by decide) hx1 rfl rfl (Nat.le_of_ble_eq_true rfl) ⟨Nat.le_of_ble_eq_true rfl, Nat.le_of_ble_eq_true rfl⟩ ⟨Nat.le_refl _, Nat.le_refl _⟩ dX4_hasTwinBeside_9 ?_
    show Y _ _ _ _ _ _ _ _ _ _ _ _ _ _ _ _ _ _ q102.2 12 [(0, .ref (ad x0)), (1, .ref (ad x1)), (2, .int x2)] [.int q102.1, .ref (ad x0)]
    obtain ⟨q103, eq103, h⟩ := bdS h
    refine y_callV (pc := 12) (As := [.int q102.1]) (rest := []) C (mX8_isTwin (fu := fu) eq103) vwX4_59 rfl (by decide) hx0 rfl rfl (Nat.le_of_ble_eq_true rfl) ⟨Nat.le_of_ble_eq_true rfl, Nat.le_of_ble_eq_true rfl⟩ ⟨Nat.le_refl _, Nat.le_refl _⟩ dX4_hasTwinBeside_12 ?_
    show Y _ _ _ _ _ _ _ _ _ _ _ _ _ _ _ _ _ _ q103.2 15 [(0, .ref (ad x0)), (1, .ref (ad x1)), (2, .int x2)] [.int q103.1]
    refine y_if_ne (pc := 15) (tgt := 42) C dX4_hasTwinBeside_15 (by decide) (fun c104 => ?_) (fun c104 => ?_)
    · rw [if_neg c104] at h
      exact tX4_hasTwinBeside_42 (fu := fu) C hx0 hx1 h
    · rw [if_pos c104] at h
      exact tX4_hasTwinBeside_18 (fu := fu) C hx0 hx1 h
noncomputable def fX4_hasTwinBeside (fu : Nat) (x0 : Nat) (x1 : Nat) (x2 : Int32) (σ : St) : Option (Int32 × St) := if xk x0 = 6 then if xk x1 = 4 then fX4_hasTwinBeside_0 fu x0 x1 x2 σ else none else none
theorem mX4_hasTwinBeside {l : Launch} {D : va_G} {cA : ClassId} {bs fu : Nat} {ad : Nat → Nat} {x0 : Nat} {x1 : Nat} {x2 : Int32} {σ : St} {q : Int32 × St} (h : fX4_hasTwinBeside fu x0 x1 x2 σ = some q) : Ct l D cA bs ad yX4_hasTwinBeside cX4_hasTwinBeside 3 (some .boolean) 1 21 [.ref (ad x0), .ref (ad x1), .int x2] σ (some (.int q.1)) q.2 := by
  unfold fX4_hasTwinBeside at h
  by_cases hx0 : xk x0 = 6
  case neg => rw [if_neg hx0] at h; cases h
  rw [if_pos hx0] at h
  by_cases hx1 : xk x1 = 4
  case neg => rw [if_neg hx1] at h; cases h
  rw [if_pos hx1] at h
  exact Ct.of (by decide) (Nat.le_of_ble_eq_true rfl) (fun p e s m args below meth c C => tX4_hasTwinBeside_0 (fu := fu) C hx0 hx1 h)
noncomputable def fX4_allows_67 (fu : Nat) (k2 : Int32 → St → Option (Int32 × St)) (x0 : Nat) (x1 : Nat) (x2 : Nat) (x3 : Int32) (σ : St) : Option (Int32 × St) :=
  nm (x3 + (1 : Int32)) fun (y101 : Int32) =>
  k2 y101 σ
set_option maxHeartbeats 4000000 in
set_option maxRecDepth 100000 in
theorem tX4_allows_67 {l : Launch} {D : va_G} {cA : ClassId} {bs : Nat} {ad : Nat → Nat} {p : Program} {e : Env} {s : State} {m : MethodId} {args : Array Value} {below : List Frame} {meth : Method} {c : Code} {fu : Nat} (C : Cx D cA bs ad RX4 cX4_allows 5 (some .boolean) p s m args meth c) {k2 : Int32 → St → Option (Int32 × St)} {x0 : Nat} {x1 : Nat} {x2 : Nat} {x3 : Int32} {q : Int32 × St} (hx0 : xk x0 = 2) (hx1 : xk x1 = 6) (hx2 : xk x2 = 4) (hk2 : ∀ (x3 : Int32) (σ : St), k2 x3 σ = some q → Y D cA bs ad p l e (rmY 3 66) s m args below meth c 5 0 0 (QM D cA bs ad below args s (some (.int q.1)) q.2) σ 2 [(0, .ref (ad x0)), (1, .ref (ad x1)), (2, .ref (ad x2)), (3, .int x3)] []) {σ : St} (h : fX4_allows_67 fu k2 x0 x1 x2 x3 σ = some q) : Y D cA bs ad p l e (rmY 3 66) s m args below meth c 5 0 0 (QM D cA bs ad below args s (some (.int q.1)) q.2) σ 67 [(0, .ref (ad x0)), (1, .ref (ad x1)), (2, .ref (ad x2)), (3, .int x3)] [] := by
  unfold fX4_allows_67 at h
  obtain ⟨y101, ey101, h⟩ := nmS h
  refine y_iinc (pc := 67) (v := y101) (k := 3) (lv' := [(3, .int y101), (0, .ref (ad x0)), (1, .ref (ad x1)), (2, .ref (ad x2))]) C dX4_allows_67 rfl (by rw [ey101]; rfl) (by decide) rfl ?_
  refine y_goto (pc := 70) (tgt := 2) C dX4_allows_70 (by decide) ?_
  refine y_sub [1, 2, 3, 0] (lv' := [(0, .ref (ad x0)), (1, .ref (ad x1)), (2, .ref (ad x2)), (3, .int y101)]) rfl ?_
  exact hk2 _ _ h
noncomputable def fX4_allows_40 (fu : Nat) (k2 : Int32 → St → Option (Int32 × St)) (x0 : Nat) (x1 : Nat) (x2 : Nat) (x3 : Int32) (x4 : Int32) (σ : St) : Option (Int32 × St) :=
  if (σ.1 x0 2) = 0 then
    fX4_allows_67 fu k2 x0 x1 x2 x3 σ
  else
    (fX8_isTwin fu x1 x4 σ).bind fun (q102 : Int32 × St) =>
    if q102.1 = 0 then
      fX4_allows_67 fu k2 x0 x1 x2 x3 q102.2
    else
      (fX4_hasTwinBeside fu x1 x2 x3 q102.2).bind fun (q104 : Int32 × St) =>
      if q104.1 = 0 then
        some ((0 : Int32), q104.2)
      else
        fX4_allows_67 fu k2 x0 x1 x2 x3 q104.2
set_option maxHeartbeats 4000000 in
set_option maxRecDepth 100000 in
theorem tX4_allows_40 {l : Launch} {D : va_G} {cA : ClassId} {bs : Nat} {ad : Nat → Nat} {p : Program} {e : Env} {s : State} {m : MethodId} {args : Array Value} {below : List Frame} {meth : Method} {c : Code} {fu : Nat} (C : Cx D cA bs ad RX4 cX4_allows 5 (some .boolean) p s m args meth c) {k2 : Int32 → St → Option (Int32 × St)} {x0 : Nat} {x1 : Nat} {x2 : Nat} {x3 : Int32} {x4 : Int32} {q : Int32 × St} (hx0 : xk x0 = 2) (hx1 : xk x1 = 6) (hx2 : xk x2 = 4) (hk2 : ∀ (x3 : Int32) (σ : St), k2 x3 σ = some q → Y D cA bs ad p l e (rmY 3 66) s m args below meth c 5 0 0 (QM D cA bs ad below args s (some (.int q.1)) q.2) σ 2 [(0, .ref (ad x0)), (1, .ref (ad x1)), (2, .ref (ad x2)), (3, .int x3)] []) {σ : St} (h : fX4_allows_40 fu k2 x0 x1 x2 x3 x4 σ = some q) : Y D cA bs ad p l e (rmY 3 66) s m args below meth c 5 0 0 (QM D cA bs ad below args s (some (.int q.1)) q.2) σ 40 [(0, .ref (ad x0)), (1, .ref (ad x1)), (2, .ref (ad x2)), (3, .int x3), (4, .int x4)] [] := by
  unfold fX4_allows_40 at h
  refine y_aload_n (pc := 40) (q := 0) C dX4_allows_40 rfl rfl ?_
  refine y_geti (pc := 41) C faX4_20 rfl hx0 dX4_allows_41 ?_
  refine y_if_eq (pc := 44) (tgt := 67) C dX4_allows_44 (by decide) (fun c101 => ?_) (fun c101 => ?_)
  · rw [if_pos c101] at h
    refine y_sub [0, 1, 2, 3] (lv' := [(0, .ref (ad x0)), (1, .ref (ad x1)), (2, .ref (ad x2)), (3, .int x3)]) rfl ?_
    exact tX4_allows_67 (fu := fu) C hx0 hx1 hx2 hk2 h
  · rw [if_neg c101] at h
    refine y_aload_n (pc := 47) (q := 1) C dX4_allows_47 rfl rfl ?_
    refine y_iload (pc := 48) (q := 4) C dX4_allows_48 rfl ?_
    obtain ⟨q102, eq102, h⟩ := bdS h
    refine y_callV (pc := 50) (As := [.int x4]) (rest := []) C (mX8_isTwin (fu := fu) eq102) vwX4_59 rfl (by decide) hx1 rfl rfl (Nat.le_of_ble_eq_true rfl) ⟨Nat.le_of_ble_eq_true rfl, Nat.le_of_ble_eq_true rfl⟩ ⟨Nat.le_refl _, Nat.le_refl _⟩ dX4_allows_50 ?_
    show Y _ _ _ _ _ _ _ _ _ _ _ _ _ _ _ _ _ _ q102.2 53 [(0, .ref (ad x0)), (1, .ref (ad x1)), (2, .ref (ad x2)), (3, .int x3), (4, .int x4)] [.int q102.1]
    refine y_if_eq (pc := 53) (tgt := 67) C dX4_allows_53 (by decide) (fun c103 => ?_) (fun c103 => ?_)
    · rw [if_pos c103] at h
      refine y_sub [0, 1, 2, 3] (lv' := [(0, .ref (ad x0)), (1, .ref (ad x1)), (2, .ref (ad x2)), (3, .int x3)]) rfl ?_
      exact tX4_allows_67 (fu := fu) C hx0 hx1 hx2 hk2 h
    · rw [if_neg c103] at h
      refine y_aload_n (pc := 56) (q := 1) C dX4_allows_56 rfl rfl ?_
      refine y_aload_n (pc := 57) (q := 2) C dX4_allows_57 rfl rfl ?_
      refine y_iload_n (pc := 58) (q := 3) C dX4_allows_58 rfl rfl ?_
      obtain ⟨q104, eq104, h⟩ := bdS h
      refine y_callS (pc := 59) (As := [.ref (ad x1), .ref (ad x2), .int x3]) (rest := []) C (mX4_hasTwinBeside (fu := fu) eq104) vwX4_63 rfl rfl (Nat.le_of_ble_eq_true rfl) ⟨Nat.le_of_ble_eq_true rfl, Nat.le_of_ble_eq_true rfl⟩ ⟨Nat.le_refl _, Nat.le_refl _⟩ dX4_allows_59 ?_
      show Y _ _ _ _ _ _ _ _ _ _ _ _ _ _ _ _ _ _ q104.2 62 [(0, .ref (ad x0)), (1, .ref (ad x1)), (2, .ref (ad x2)), (3, .int x3), (4, .int x4)] [.int q104.1]
      refine y_if_ne (pc := 62) (tgt := 67) C dX4_allows_62 (by decide) (fun c105 => ?_) (fun c105 => ?_)
      · rw [if_neg c105] at h
        refine y_sub [0, 1, 2, 3] (lv' := [(0, .ref (ad x0)), (1, .ref (ad x1)), (2, .ref (ad x2)), (3, .int x3)]) rfl ?_
        exact tX4_allows_67 (fu := fu) C hx0 hx1 hx2 hk2 h
      · rw [if_pos c105] at h
        refine y_iconst (pc := 65) (v := (0 : Int32)) C dX4_allows_65 (by decide) ?_
        cases h
        exact y_zret (pc := 66) C (Or.inl rfl) dX4_allows_66
noncomputable def fX4_allows_2b (fu : Nat) (k2 : Int32 → St → Option (Int32 × St)) (x0 : Nat) (x1 : Nat) (x2 : Nat) (x3 : Int32) (σ : St) : Option (Int32 × St) :=
  (fX6_size fu x2 σ).bind fun (q101 : Int32 × St) =>
  if q101.1 ≤ x3 then
    some ((1 : Int32), q101.2)
  else
    (fX6_blockIn fu x2 x3 q101.2).bind fun (q103 : Int32 × St) =>
    if x3 ≤ 0 then
      fX4_allows_40 fu k2 x0 x1 x2 x3 q103.1 q103.2
    else
      (fX6_blockIn fu x2 (x3 - (1 : Int32)) q103.2).bind fun (q105 : Int32 × St) =>
      (fX4_letsLieTogether fu x0 x1 q105.1 q103.1 q105.2).bind fun (q106 : Int32 × St) =>
      if q106.1 = 0 then
        some ((0 : Int32), q106.2)
      else
        fX4_allows_40 fu k2 x0 x1 x2 x3 q103.1 q106.2
set_option maxHeartbeats 4000000 in
set_option maxRecDepth 100000 in
theorem tX4_allows_2b {l : Launch} {D : va_G} {cA : ClassId} {bs : Nat} {ad : Nat → Nat} {p : Program} {e : Env} {s : State} {m : MethodId} {args : Array Value} {below : List Frame} {meth : Method} {c : Code} {fu : Nat} (C : Cx D cA bs ad RX4 cX4_allows 5 (some .boolean) p s m args meth c) {k2 : Int32 → St → Option (Int32 × St)} {x0 : Nat} {x1 : Nat} {x2 : Nat} {x3 : Int32} {q : Int32 × St} (hx0 : xk x0 = 2) (hx1 : xk x1 = 6) (hx2 : xk x2 = 4) (hk2 : ∀ (x3 : Int32) (σ : St), k2 x3 σ = some q → Y D cA bs ad p l e (rmY 3 66) s m args below meth c 5 0 0 (QM D cA bs ad below args s (some (.int q.1)) q.2) σ 2 [(0, .ref (ad x0)), (1, .ref (ad x1)), (2, .ref (ad x2)), (3, .int x3)] []) {σ : St} (h : fX4_allows_2b fu k2 x0 x1 x2 x3 σ = some q) : Y D cA bs ad p l e (rmY 3 66) s m args below meth c 5 0 0 (QM D cA bs ad below args s (some (.int q.1)) q.2) σ 2 [(0, .ref (ad x0)), (1, .ref (ad x1)), (2, .ref (ad x2)), (3, .int x3)] [] := by
  unfold fX4_allows_2b at h
  refine y_iload_n (pc := 2) (q := 3) C dX4_allows_2 rfl rfl ?_
  refine y_aload_n (pc := 3) (q := 2) C dX4_allows_3 rfl rfl ?_
  obtain ⟨q101, eq101, h⟩ := bdS h
  refine y_callV (pc := 4) (As := []) (rest := [.int x3]) C (mX6_size (fu := fu) eq101) vwX4_47 rfl (by decide) hx2 rfl rfl (Nat.le_of_ble_eq_true rfl) ⟨Nat.le_of_ble_eq_true rfl, Nat.le_of_ble_eq_true rfl⟩ ⟨Nat.le_refl _, Nat.le_refl _⟩ dX4_allows_4 ?_
  show Y _ _ _ _ _ _ _ _ _ _ _ _ _ _ _ _ _ _ q101.2 7 [(0, .ref (ad x0)), (1, .ref (ad x1)), (2, .ref (ad x2)), (3, .int x3)] [.int q101.1, .int x3]
  refine y_icmp_ge (pc := 7) (tgt := 73) C dX4_allows_7 (by decide) (fun c102 => ?_) (fun c102 => ?_)
  · rw [if_pos c102] at h
    refine y_iconst (pc := 73) (v := (1 : Int32)) C dX4_allows_73 (by decide) ?_
    cases h
    exact y_zret (pc := 74) C (Or.inr rfl) dX4_allows_74
  · rw [if_neg c102] at h
    refine y_aload_n (pc := 10) (q := 2) C dX4_allows_10 rfl rfl ?_
    refine y_iload_n (pc := 11) (q := 3) C dX4_allows_11 rfl rfl ?_
    obtain ⟨q103, eq103, h⟩ := bdS h
    refine y_callV (pc := 12) (As := [.int x3]) (rest := []) C (mX6_blockIn (fu := fu) eq103) vwX4_52 rfl (by decide) hx2 rfl rfl (Nat.le_of_ble_eq_true rfl) ⟨Nat.le_of_ble_eq_true rfl, Nat.le_of_ble_eq_true rfl⟩ ⟨Nat.le_refl _, Nat.le_refl _⟩ dX4_allows_12 ?_
    show Y _ _ _ _ _ _ _ _ _ _ _ _ _ _ _ _ _ _ q103.2 15 [(0, .ref (ad x0)), (1, .ref (ad x1)), (2, .ref (ad x2)), (3, .int x3)] [.int q103.1]
    refine y_istore (pc := 15) (lv' := [(4, .int q103.1), (0, .ref (ad x0)), (1, .ref (ad x1)), (2, .ref (ad x2)), (3, .int x3)]) C dX4_allows_15 (by decide) rfl ?_
    refine y_iload_n (pc := 17) (q := 4) C dX4_allows_17 rfl rfl ?_
    refine y_if_le (pc := 18) (tgt := 40) C dX4_allows_18 (by decide) (fun c104 => ?_) (fun c104 => ?_)
    · rw [if_pos c104] at h
      refine y_sub [1, 2, 3, 4, 0] (lv' := [(0, .ref (ad x0)), (1, .ref (ad x1)), (2, .ref (ad x2)), (3, .int x3), (4, .int q103.1)]) rfl ?_
      exact tX4_allows_40 (fu := fu) C hx0 hx1 hx2 hk2 h
    · rw [if_neg c104] at h
      refine y_aload_n (pc := 21) (q := 1) C dX4_allows_21 rfl rfl ?_
      refine y_aload_n (pc := 22) (q := 2) C dX4_allows_22 rfl rfl ?_
      refine y_aload_n (pc := 23) (q := 3) C dX4_allows_23 rfl rfl ?_
      refine y_iload_n (pc := 24) (q := 4) C dX4_allows_24 rfl rfl ?_
      refine y_iconst (pc := 25) (v := (1 : Int32)) C dX4_allows_25 (by decide) ?_
      refine y_isub (pc := 26) C dX4_allows_26 ?_
      obtain ⟨q105, eq105, h⟩ := bdS h
      refine y_callV (pc := 27) (As := [.int (x3 - (1 : Int32))]) (rest := [.ref (ad x1), .ref (ad x0)]) C (mX6_blockIn (fu := fu) eq105) vwX4_52 rfl (by decide) hx2 rfl rfl (Nat.le_of_ble_eq_true rfl) ⟨Nat.le_of_ble_eq_true rfl, Nat.le_of_ble_eq_true rfl⟩ ⟨Nat.le_refl _, Nat.le_refl _⟩ dX4_allows_27 ?_
      show Y _ _ _ _ _ _ _ _ _ _ _ _ _ _ _ _ _ _ q105.2 30 [(4, .int q103.1), (0, .ref (ad x0)), (1, .ref (ad x1)), (2, .ref (ad x2)), (3, .int x3)] [.int q105.1, .ref (ad x1), .ref (ad x0)]
      refine y_iload (pc := 30) (q := 0) C dX4_allows_30 rfl ?_
      obtain ⟨q106, eq106, h⟩ := bdS h
      refine y_callV (pc := 32) (As := [.ref (ad x1), .int q105.1, .int q103.1]) (rest := []) C (mX4_letsLieTogether (fu := fu) eq106) vwX4_55 rfl (by decide) hx0 rfl rfl (Nat.le_of_ble_eq_true rfl) ⟨Nat.le_of_ble_eq_true rfl, Nat.le_of_ble_eq_true rfl⟩ ⟨Nat.le_refl _, Nat.le_refl _⟩ dX4_allows_32 ?_
      show Y _ _ _ _ _ _ _ _ _ _ _ _ _ _ _ _ _ _ q106.2 35 [(4, .int q103.1), (0, .ref (ad x0)), (1, .ref (ad x1)), (2, .ref (ad x2)), (3, .int x3)] [.int q106.1]
      refine y_if_ne (pc := 35) (tgt := 40) C dX4_allows_35 (by decide) (fun c107 => ?_) (fun c107 => ?_)
      · rw [if_neg c107] at h
        refine y_sub [1, 2, 3, 4, 0] (lv' := [(0, .ref (ad x0)), (1, .ref (ad x1)), (2, .ref (ad x2)), (3, .int x3), (4, .int q103.1)]) rfl ?_
        exact tX4_allows_40 (fu := fu) C hx0 hx1 hx2 hk2 h
      · rw [if_pos c107] at h
        refine y_iconst (pc := 38) (v := (0 : Int32)) C dX4_allows_38 (by decide) ?_
        cases h
        exact y_zret (pc := 39) C (Or.inl rfl) dX4_allows_39
noncomputable def fX4_allows_2 (fu : Nat) (x0 : Nat) (x1 : Nat) (x2 : Nat) : Nat → Int32 → St → Option (Int32 × St) := lp (fun k2 => fX4_allows_2b fu k2 x0 x1 x2) (fun _ _ => none)
set_option maxHeartbeats 4000000 in
theorem tX4_allows_2 {l : Launch} {D : va_G} {cA : ClassId} {bs : Nat} {ad : Nat → Nat} {p : Program} {e : Env} {s : State} {m : MethodId} {args : Array Value} {below : List Frame} {meth : Method} {c : Code} {fu : Nat} (C : Cx D cA bs ad RX4 cX4_allows 5 (some .boolean) p s m args meth c) {x0 : Nat} {x1 : Nat} {x2 : Nat} {q : Int32 × St} (hx0 : xk x0 = 2) (hx1 : xk x1 = 6) (hx2 : xk x2 = 4)  : ∀ (n : Nat) (x3 : Int32) (σ : St), fX4_allows_2 fu  x0 x1 x2 n x3 σ = some q → Y D cA bs ad p l e (rmY 3 66) s m args below meth c 5 0 0 (QM D cA bs ad below args s (some (.int q.1)) q.2) σ 2 [(0, .ref (ad x0)), (1, .ref (ad x1)), (2, .ref (ad x2)), (3, .int x3)] [] := by
  intro n
  induction n with
  | zero => intro x3 σ h; cases h
  | succ n ih => intro x3 σ h; exact tX4_allows_2b (fu := fu) C hx0 hx1 hx2 ih h
noncomputable def fX4_allows_0 (fu : Nat) (x0 : Nat) (x1 : Nat) (x2 : Nat) (σ : St) : Option (Int32 × St) :=
  fX4_allows_2 fu x0 x1 x2 fu (0 : Int32) σ
set_option maxHeartbeats 4000000 in
set_option maxRecDepth 100000 in
theorem tX4_allows_0 {l : Launch} {D : va_G} {cA : ClassId} {bs : Nat} {ad : Nat → Nat} {p : Program} {e : Env} {s : State} {m : MethodId} {args : Array Value} {below : List Frame} {meth : Method} {c : Code} {fu : Nat} (C : Cx D cA bs ad RX4 cX4_allows 5 (some .boolean) p s m args meth c) {x0 : Nat} {x1 : Nat} {x2 : Nat} {q : Int32 × St} (hx0 : xk x0 = 2) (hx1 : xk x1 = 6) (hx2 : xk x2 = 4) {σ : St} (h : fX4_allows_0 fu x0 x1 x2 σ = some q) : Y D cA bs ad p l e (rmY 3 66) s m args below meth c 5 0 0 (QM D cA bs ad below args s (some (.int q.1)) q.2) σ 0 [(0, .ref (ad x0)), (1, .ref (ad x1)), (2, .ref (ad x2))] [] := by
  unfold fX4_allows_0 at h
  refine y_iconst (pc := 0) (v := (0 : Int32)) C dX4_allows_0 (by decide) ?_
  refine y_istore_n (pc := 1) (lv' := [(3, .int (0 : Int32)), (0, .ref (ad x0)), (1, .ref (ad x1)), (2, .ref (ad x2))]) C dX4_allows_1 rfl (by decide) rfl ?_
  refine y_sub [1, 2, 3, 0] (lv' := [(0, .ref (ad x0)), (1, .ref (ad x1)), (2, .ref (ad x2)), (3, .int (0 : Int32))]) rfl ?_
  exact tX4_allows_2 (fu := fu) C hx0 hx1 hx2 fu _ _ h
noncomputable def fX4_allows (fu : Nat) (x0 : Nat) (x1 : Nat) (x2 : Nat) (σ : St) : Option (Int32 × St) := if xk x0 = 2 then if xk x1 = 6 then if xk x2 = 4 then fX4_allows_0 fu x0 x1 x2 σ else none else none else none
theorem mX4_allows {l : Launch} {D : va_G} {cA : ClassId} {bs fu : Nat} {ad : Nat → Nat} {x0 : Nat} {x1 : Nat} {x2 : Nat} {σ : St} {q : Int32 × St} (h : fX4_allows fu x0 x1 x2 σ = some q) : Ct l D cA bs ad yX4_allows cX4_allows 5 (some .boolean) 3 66 [.ref (ad x0), .ref (ad x1), .ref (ad x2)] σ (some (.int q.1)) q.2 := by
  unfold fX4_allows at h
  by_cases hx0 : xk x0 = 2
  case neg => rw [if_neg hx0] at h; cases h
  rw [if_pos hx0] at h
  by_cases hx1 : xk x1 = 6
  case neg => rw [if_neg hx1] at h; cases h
  rw [if_pos hx1] at h
  by_cases hx2 : xk x2 = 4
  case neg => rw [if_neg hx2] at h; cases h
  rw [if_pos hx2] at h
  exact Ct.of (by decide) (Nat.le_of_ble_eq_true rfl) (fun p e s m args below meth c C => tX4_allows_0 (fu := fu) C hx0 hx1 hx2 h)
noncomputable def fX6_read_45 (fu : Nat) (x0 : Nat) (x1 : Int32) (x2 : Int32) (σ : St) : Option (Int32 × St) :=
  some ((0 : Int32), σ)
set_option maxHeartbeats 4000000 in
set_option maxRecDepth 100000 in
theorem tX6_read_45 {l : Launch} {D : va_G} {cA : ClassId} {bs : Nat} {ad : Nat → Nat} {p : Program} {e : Env} {s : State} {m : MethodId} {args : Array Value} {below : List Frame} {meth : Method} {c : Code} {fu : Nat} (C : Cx D cA bs ad RX6 cX6_read 7 (some .boolean) p s m args meth c) {x0 : Nat} {x1 : Int32} {x2 : Int32} {q : Int32 × St} (hx0 : xk x0 = 4) {σ : St} (h : fX6_read_45 fu x0 x1 x2 σ = some q) : Y D cA bs ad p l e (rmY 1 21) s m args below meth c 7 0 0 (QM D cA bs ad below args s (some (.int q.1)) q.2) σ 45 [(0, .ref (ad x0)), (1, .int x1), (2, .int x2)] [] := by
  unfold fX6_read_45 at h
  refine y_iconst (pc := 45) (v := (0 : Int32)) C dX6_read_45 (by decide) ?_
  cases h
  exact y_zret (pc := 46) C (Or.inl rfl) dX6_read_46
noncomputable def fX6_read_81 (fu : Nat) (x0 : Nat) (x1 : Int32) (x2 : Int32) (s0 : Int32) (σ : St) : Option (Int32 × St) :=
  if s0 = 0 ∨ s0 = 1 then some (s0, σ) else none
set_option maxHeartbeats 4000000 in
set_option maxRecDepth 100000 in
theorem tX6_read_81 {l : Launch} {D : va_G} {cA : ClassId} {bs : Nat} {ad : Nat → Nat} {p : Program} {e : Env} {s : State} {m : MethodId} {args : Array Value} {below : List Frame} {meth : Method} {c : Code} {fu : Nat} (C : Cx D cA bs ad RX6 cX6_read 7 (some .boolean) p s m args meth c) {x0 : Nat} {x1 : Int32} {x2 : Int32} {s0 : Int32} {q : Int32 × St} (hx0 : xk x0 = 4) {σ : St} (h : fX6_read_81 fu x0 x1 x2 s0 σ = some q) : Y D cA bs ad p l e (rmY 1 21) s m args below meth c 7 0 0 (QM D cA bs ad below args s (some (.int q.1)) q.2) σ 81 [(0, .ref (ad x0)), (1, .int x1), (2, .int x2)] [.int s0] := by
  unfold fX6_read_81 at h
  by_cases c101 : s0 = 0 ∨ s0 = 1
  case neg => rw [if_neg c101] at h; cases h
  rw [if_pos c101] at h
  cases h
  exact y_zret (pc := 81) C c101 dX6_read_81
noncomputable def fX6_read_72 (fu : Nat) (x0 : Nat) (x1 : Int32) (x2 : Int32) (x3 : Int32) (σ : St) : Option (Int32 × St) :=
  if x3 = 0 then
    fX6_read_81 fu x0 x1 x2 (1 : Int32) σ
  else
    fX6_read_81 fu x0 x1 x2 (0 : Int32) σ
set_option maxHeartbeats 4000000 in
set_option maxRecDepth 100000 in
theorem tX6_read_72 {l : Launch} {D : va_G} {cA : ClassId} {bs : Nat} {ad : Nat → Nat} {p : Program} {e : Env} {s : State} {m : MethodId} {args : Array Value} {below : List Frame} {meth : Method} {c : Code} {fu : Nat} (C : Cx D cA bs ad RX6 cX6_read 7 (some .boolean) p s m args meth c) {x0 : Nat} {x1 : Int32} {x2 : Int32} {x3 : Int32} {q : Int32 × St} (hx0 : xk x0 = 4) {σ : St} (h : fX6_read_72 fu x0 x1 x2 x3 σ = some q) : Y D cA bs ad p l e (rmY 1 21) s m args below meth c 7 0 0 (QM D cA bs ad below args s (some (.int q.1)) q.2) σ 72 [(0, .ref (ad x0)), (1, .int x1), (2, .int x2), (3, .int x3)] [] := by
  unfold fX6_read_72 at h
  refine y_iload_n (pc := 72) (q := 3) C dX6_read_72 rfl rfl ?_
  refine y_if_ne (pc := 73) (tgt := 80) C dX6_read_73 (by decide) (fun c101 => ?_) (fun c101 => ?_)
  · rw [if_neg c101] at h
    refine y_iconst (pc := 80) (v := (0 : Int32)) C dX6_read_80 (by decide) ?_
    refine y_sub [0, 1, 2] (lv' := [(0, .ref (ad x0)), (1, .int x1), (2, .int x2)]) rfl ?_
    exact tX6_read_81 (fu := fu) C hx0 h
  · rw [if_pos c101] at h
    refine y_iconst (pc := 76) (v := (1 : Int32)) C dX6_read_76 (by decide) ?_
    refine y_goto (pc := 77) (tgt := 81) C dX6_read_77 (by decide) ?_
    refine y_sub [0, 1, 2] (lv' := [(0, .ref (ad x0)), (1, .int x1), (2, .int x2)]) rfl ?_
    exact tX6_read_81 (fu := fu) C hx0 h
noncomputable def fX6_read_12b (fu : Nat) (k12 : Int32 → Int32 → Int32 → St → Option (Int32 × St)) (x0 : Nat) (x1 : Int32) (x2 : Int32) (x3 : Int32) (x4 : Int32) (x5 : Int32) (σ : St) : Option (Int32 × St) :=
  if x2 ≤ x5 then
    fX6_read_72 fu x0 x1 x2 x3 σ
  else
    if x3 < 0 then
      fX6_read_72 fu x0 x1 x2 x3 σ
    else
      nm (x3 &&& (7 : Int32)) fun (y103 : Int32) =>
      if x2 ≤ y103 then
        fX6_read_45 fu x0 x1 x2 σ
      else
        if ((x4 >>> (y103 &&& 31)) &&& (1 : Int32)) = (1 : Int32) then
          fX6_read_45 fu x0 x1 x2 σ
        else
          nm (x4 ||| ((1 : Int32) <<< (y103 &&& 31))) fun (y106 : Int32) =>
          (fX6_append fu x0 y103 σ).bind fun (q107 : St) =>
          nm (x3 >>> ((3 : Int32) &&& 31)) fun (y108 : Int32) =>
          nm (x5 + (1 : Int32)) fun (y109 : Int32) =>
          k12 y108 y106 y109 q107
set_option maxHeartbeats 4000000 in
set_option maxRecDepth 100000 in
theorem tX6_read_12b {l : Launch} {D : va_G} {cA : ClassId} {bs : Nat} {ad : Nat → Nat} {p : Program} {e : Env} {s : State} {m : MethodId} {args : Array Value} {below : List Frame} {meth : Method} {c : Code} {fu : Nat} (C : Cx D cA bs ad RX6 cX6_read 7 (some .boolean) p s m args meth c) {k12 : Int32 → Int32 → Int32 → St → Option (Int32 × St)} {x0 : Nat} {x1 : Int32} {x2 : Int32} {x3 : Int32} {x4 : Int32} {x5 : Int32} {q : Int32 × St} (hx0 : xk x0 = 4) (hk12 : ∀ (x3 : Int32) (x4 : Int32) (x5 : Int32) (σ : St), k12 x3 x4 x5 σ = some q → Y D cA bs ad p l e (rmY 1 21) s m args below meth c 7 0 0 (QM D cA bs ad below args s (some (.int q.1)) q.2) σ 12 [(0, .ref (ad x0)), (1, .int x1), (2, .int x2), (3, .int x3), (4, .int x4), (5, .int x5)] []) {σ : St} (h : fX6_read_12b fu k12 x0 x1 x2 x3 x4 x5 σ = some q) : Y D cA bs ad p l e (rmY 1 21) s m args below meth c 7 0 0 (QM D cA bs ad below args s (some (.int q.1)) q.2) σ 12 [(0, .ref (ad x0)), (1, .int x1), (2, .int x2), (3, .int x3), (4, .int x4), (5, .int x5)] [] := by
  unfold fX6_read_12b at h
  refine y_iload (pc := 12) (q := 5) C dX6_read_12 rfl ?_
  refine y_iload_n (pc := 14) (q := 2) C dX6_read_14 rfl rfl ?_
  refine y_icmp_ge (pc := 15) (tgt := 72) C dX6_read_15 (by decide) (fun c101 => ?_) (fun c101 => ?_)
  · rw [if_pos c101] at h
    refine y_sub [0, 1, 2, 3] (lv' := [(0, .ref (ad x0)), (1, .int x1), (2, .int x2), (3, .int x3)]) rfl ?_
    exact tX6_read_72 (fu := fu) C hx0 h
  · rw [if_neg c101] at h
    refine y_iload_n (pc := 18) (q := 3) C dX6_read_18 rfl rfl ?_
    refine y_if_lt (pc := 19) (tgt := 72) C dX6_read_19 (by decide) (fun c102 => ?_) (fun c102 => ?_)
    · rw [if_pos c102] at h
      refine y_sub [0, 1, 2, 3] (lv' := [(0, .ref (ad x0)), (1, .int x1), (2, .int x2), (3, .int x3)]) rfl ?_
      exact tX6_read_72 (fu := fu) C hx0 h
    · rw [if_neg c102] at h
      refine y_iload_n (pc := 22) (q := 3) C dX6_read_22 rfl rfl ?_
      refine y_bipush (pc := 23) (v := (7 : Int32)) C dX6_read_23 (by decide) ?_
      refine y_iand (pc := 25) C dX6_read_25 ?_
      obtain ⟨y103, ey103, h⟩ := nmS h
      refine y_nmI y103 ey103 ?_
      refine y_istore (pc := 26) (lv' := [(6, .int y103), (0, .ref (ad x0)), (1, .int x1), (2, .int x2), (3, .int x3), (4, .int x4), (5, .int x5)]) C dX6_read_26 (by decide) rfl ?_
      refine y_iload (pc := 28) (q := 0) C dX6_read_28 rfl ?_
      refine y_iload_n (pc := 30) (q := 3) C dX6_read_30 rfl rfl ?_
      refine y_icmp_ge (pc := 31) (tgt := 45) C dX6_read_31 (by decide) (fun c104 => ?_) (fun c104 => ?_)
      · rw [if_pos c104] at h
        refine y_sub [1, 2, 3] (lv' := [(0, .ref (ad x0)), (1, .int x1), (2, .int x2)]) rfl ?_
        exact tX6_read_45 (fu := fu) C hx0 h
      · rw [if_neg c104] at h
        refine y_iload (pc := 34) (q := 5) C dX6_read_34 rfl ?_
        refine y_iload (pc := 36) (q := 0) C dX6_read_36 rfl ?_
        refine y_ishr (pc := 38) C dX6_read_38 ?_
        refine y_iconst (pc := 39) (v := (1 : Int32)) C dX6_read_39 (by decide) ?_
        refine y_iand (pc := 40) C dX6_read_40 ?_
        refine y_iconst (pc := 41) (v := (1 : Int32)) C dX6_read_41 (by decide) ?_
        refine y_icmp_ne (pc := 42) (tgt := 47) C dX6_read_42 (by decide) (fun c105 => ?_) (fun c105 => ?_)
        · rw [if_neg c105] at h
          refine y_iload (pc := 47) (q := 5) C dX6_read_47 rfl ?_
          refine y_iconst (pc := 49) (v := (1 : Int32)) C dX6_read_49 (by decide) ?_
          refine y_iload (pc := 50) (q := 0) C dX6_read_50 rfl ?_
          refine y_ishl (pc := 52) C dX6_read_52 ?_
          refine y_ior (pc := 53) C dX6_read_53 ?_
          obtain ⟨y106, ey106, h⟩ := nmS h
          refine y_nmI y106 ey106 ?_
          refine y_istore (pc := 54) (lv' := [(4, .int y106), (6, .int y103), (0, .ref (ad x0)), (1, .int x1), (2, .int x2), (3, .int x3), (5, .int x5)]) C dX6_read_54 (by decide) rfl ?_
          refine y_aload_n (pc := 56) (q := 2) C dX6_read_56 rfl rfl ?_
          refine y_iload (pc := 57) (q := 1) C dX6_read_57 rfl ?_
          obtain ⟨q107, eq107, h⟩ := bdS h
          refine y_callV (pc := 59) (As := [.int y103]) (rest := []) C (mX6_append (fu := fu) eq107) vwX6_22 rfl (by decide) hx0 rfl rfl (Nat.le_of_ble_eq_true rfl) ⟨Nat.le_of_ble_eq_true rfl, Nat.le_of_ble_eq_true rfl⟩ ⟨Nat.le_refl _, Nat.le_refl _⟩ dX6_read_59 ?_
          show Y _ _ _ _ _ _ _ _ _ _ _ _ _ _ _ _ _ _ q107 62 [(4, .int y106), (6, .int y103), (0, .ref (ad x0)), (1, .int x1), (2, .int x2), (3, .int x3), (5, .int x5)] []
          refine y_iload_n (pc := 62) (q := 5) C dX6_read_62 rfl rfl ?_
          refine y_iconst (pc := 63) (v := (3 : Int32)) C dX6_read_63 (by decide) ?_
          refine y_ishr (pc := 64) C dX6_read_64 ?_
          obtain ⟨y108, ey108, h⟩ := nmS h
          refine y_nmI y108 ey108 ?_
          refine y_istore_n (pc := 65) (lv' := [(3, .int y108), (4, .int y106), (6, .int y103), (0, .ref (ad x0)), (1, .int x1), (2, .int x2), (5, .int x5)]) C dX6_read_65 rfl (by decide) rfl ?_
          obtain ⟨y109, ey109, h⟩ := nmS h
          refine y_iinc (pc := 66) (v := y109) (k := 6) (lv' := [(5, .int y109), (3, .int y108), (4, .int y106), (6, .int y103), (0, .ref (ad x0)), (1, .int x1), (2, .int x2)]) C dX6_read_66 rfl (by rw [ey109]; rfl) (by decide) rfl ?_
          refine y_goto (pc := 69) (tgt := 12) C dX6_read_69 (by decide) ?_
          refine y_sub [4, 5, 6, 1, 2, 0] (lv' := [(0, .ref (ad x0)), (1, .int x1), (2, .int x2), (3, .int y108), (4, .int y106), (5, .int y109)]) rfl ?_
          exact hk12 _ _ _ _ h
        · rw [if_pos c105] at h
          refine y_sub [1, 2, 3] (lv' := [(0, .ref (ad x0)), (1, .int x1), (2, .int x2)]) rfl ?_
          exact tX6_read_45 (fu := fu) C hx0 h
noncomputable def fX6_read_12 (fu : Nat) (x0 : Nat) (x1 : Int32) (x2 : Int32) : Nat → Int32 → Int32 → Int32 → St → Option (Int32 × St) := lp (fun k12 => fX6_read_12b fu k12 x0 x1 x2) (fun _ _ _ _ => none)
set_option maxHeartbeats 4000000 in
theorem tX6_read_12 {l : Launch} {D : va_G} {cA : ClassId} {bs : Nat} {ad : Nat → Nat} {p : Program} {e : Env} {s : State} {m : MethodId} {args : Array Value} {below : List Frame} {meth : Method} {c : Code} {fu : Nat} (C : Cx D cA bs ad RX6 cX6_read 7 (some .boolean) p s m args meth c) {x0 : Nat} {x1 : Int32} {x2 : Int32} {q : Int32 × St} (hx0 : xk x0 = 4)  : ∀ (n : Nat) (x3 : Int32) (x4 : Int32) (x5 : Int32) (σ : St), fX6_read_12 fu  x0 x1 x2 n x3 x4 x5 σ = some q → Y D cA bs ad p l e (rmY 1 21) s m args below meth c 7 0 0 (QM D cA bs ad below args s (some (.int q.1)) q.2) σ 12 [(0, .ref (ad x0)), (1, .int x1), (2, .int x2), (3, .int x3), (4, .int x4), (5, .int x5)] [] := by
  intro n
  induction n with
  | zero => intro x3 x4 x5 σ h; cases h
  | succ n ih => intro x3 x4 x5 σ h; exact tX6_read_12b (fu := fu) C hx0 ih h
noncomputable def fX6_read_0 (fu : Nat) (x0 : Nat) (x1 : Int32) (x2 : Int32) (σ : St) : Option (Int32 × St) :=
  (fX6_clear fu x0 σ).bind fun (q101 : St) =>
  fX6_read_12 fu x0 x1 x2 fu x1 (0 : Int32) (0 : Int32) q101
set_option maxHeartbeats 4000000 in
set_option maxRecDepth 100000 in
theorem tX6_read_0 {l : Launch} {D : va_G} {cA : ClassId} {bs : Nat} {ad : Nat → Nat} {p : Program} {e : Env} {s : State} {m : MethodId} {args : Array Value} {below : List Frame} {meth : Method} {c : Code} {fu : Nat} (C : Cx D cA bs ad RX6 cX6_read 7 (some .boolean) p s m args meth c) {x0 : Nat} {x1 : Int32} {x2 : Int32} {q : Int32 × St} (hx0 : xk x0 = 4) {σ : St} (h : fX6_read_0 fu x0 x1 x2 σ = some q) : Y D cA bs ad p l e (rmY 1 21) s m args below meth c 7 0 0 (QM D cA bs ad below args s (some (.int q.1)) q.2) σ 0 [(0, .ref (ad x0)), (1, .int x1), (2, .int x2)] [] := by
  unfold fX6_read_0 at h
  refine y_aload_n (pc := 0) (q := 0) C dX6_read_0 rfl rfl ?_
  obtain ⟨q101, eq101, h⟩ := bdS h
  refine y_callV (pc := 1) (As := []) (rest := []) C (mX6_clear (fu := fu) eq101) vwX6_19 rfl (by decide) hx0 rfl rfl (Nat.le_of_ble_eq_true rfl) ⟨Nat.le_of_ble_eq_true rfl, Nat.le_of_ble_eq_true rfl⟩ ⟨Nat.le_refl _, Nat.le_refl _⟩ dX6_read_1 ?_
  show Y _ _ _ _ _ _ _ _ _ _ _ _ _ _ _ _ _ _ q101 4 [(0, .ref (ad x0)), (1, .int x1), (2, .int x2)] []
  refine y_iload_n (pc := 4) (q := 1) C dX6_read_4 rfl rfl ?_
  refine y_istore_n (pc := 5) (lv' := [(3, .int x1), (0, .ref (ad x0)), (1, .int x1), (2, .int x2)]) C dX6_read_5 rfl (by decide) rfl ?_
  refine y_iconst (pc := 6) (v := (0 : Int32)) C dX6_read_6 (by decide) ?_
  refine y_istore (pc := 7) (lv' := [(4, .int (0 : Int32)), (3, .int x1), (0, .ref (ad x0)), (1, .int x1), (2, .int x2)]) C dX6_read_7 (by decide) rfl ?_
  refine y_iconst (pc := 9) (v := (0 : Int32)) C dX6_read_9 (by decide) ?_
  refine y_istore (pc := 10) (lv' := [(5, .int (0 : Int32)), (4, .int (0 : Int32)), (3, .int x1), (0, .ref (ad x0)), (1, .int x1), (2, .int x2)]) C dX6_read_10 (by decide) rfl ?_
  refine y_sub [3, 4, 5, 2, 1, 0] (lv' := [(0, .ref (ad x0)), (1, .int x1), (2, .int x2), (3, .int x1), (4, .int (0 : Int32)), (5, .int (0 : Int32))]) rfl ?_
  exact tX6_read_12 (fu := fu) C hx0 fu _ _ _ _ h
noncomputable def fX6_read (fu : Nat) (x0 : Nat) (x1 : Int32) (x2 : Int32) (σ : St) : Option (Int32 × St) := if xk x0 = 4 then fX6_read_0 fu x0 x1 x2 σ else none
theorem mX6_read {l : Launch} {D : va_G} {cA : ClassId} {bs fu : Nat} {ad : Nat → Nat} {x0 : Nat} {x1 : Int32} {x2 : Int32} {σ : St} {q : Int32 × St} (h : fX6_read fu x0 x1 x2 σ = some q) : Ct l D cA bs ad yX6_read cX6_read 7 (some .boolean) 1 21 [.ref (ad x0), .int x1, .int x2] σ (some (.int q.1)) q.2 := by
  unfold fX6_read at h
  by_cases hx0 : xk x0 = 4
  case neg => rw [if_neg hx0] at h; cases h
  rw [if_pos hx0] at h
  exact Ct.of (by decide) (Nat.le_of_ble_eq_true rfl) (fun p e s m args below meth c C => tX6_read_0 (fu := fu) C hx0 h)
noncomputable def fX6_turnRound_11b (fu : Nat) (k11 : Int32 → St → Option (St)) (x0 : Nat) (x1 : Nat) (x2 : Int32) (σ : St) : Option (St) :=
  if x2 < 0 then
    some σ
  else
    (fX8_blockIn fu x1 x2 σ).bind fun (q102 : Int32 × St) =>
    (fX6_append fu x0 q102.1 q102.2).bind fun (q103 : St) =>
    nm (x2 + (-1 : Int32)) fun (y104 : Int32) =>
    k11 y104 q103
set_option maxHeartbeats 4000000 in
set_option maxRecDepth 100000 in
theorem tX6_turnRound_11b {l : Launch} {D : va_G} {cA : ClassId} {bs : Nat} {ad : Nat → Nat} {p : Program} {e : Env} {s : State} {m : MethodId} {args : Array Value} {below : List Frame} {meth : Method} {c : Code} {fu : Nat} (C : Cx D cA bs ad RX6 cX6_turnRound 3 none p s m args meth c) {k11 : Int32 → St → Option (St)} {x0 : Nat} {x1 : Nat} {x2 : Int32} {q : St} (hx0 : xk x0 = 4) (hx1 : xk x1 = 6) (hk11 : ∀ (x2 : Int32) (σ : St), k11 x2 σ = some q → Y D cA bs ad p l e (rmY 1 21) s m args below meth c 3 0 0 (QM D cA bs ad below args s none q) σ 11 [(0, .ref (ad x0)), (1, .ref (ad x1)), (2, .int x2)] []) {σ : St} (h : fX6_turnRound_11b fu k11 x0 x1 x2 σ = some q) : Y D cA bs ad p l e (rmY 1 21) s m args below meth c 3 0 0 (QM D cA bs ad below args s none q) σ 11 [(0, .ref (ad x0)), (1, .ref (ad x1)), (2, .int x2)] [] := by
  unfold fX6_turnRound_11b at h
  refine y_iload_n (pc := 11) (q := 2) C dX6_turnRound_11 rfl rfl ?_
  refine y_if_lt (pc := 12) (tgt := 30) C dX6_turnRound_12 (by decide) (fun c101 => ?_) (fun c101 => ?_)
  · rw [if_pos c101] at h
    cases h
    exact y_vret (pc := 30) C dX6_turnRound_30
  · rw [if_neg c101] at h
    refine y_aload_n (pc := 15) (q := 0) C dX6_turnRound_15 rfl rfl ?_
    refine y_aload_n (pc := 16) (q := 1) C dX6_turnRound_16 rfl rfl ?_
    refine y_iload_n (pc := 17) (q := 2) C dX6_turnRound_17 rfl rfl ?_
    obtain ⟨q102, eq102, h⟩ := bdS h
    refine y_callV (pc := 18) (As := [.int x2]) (rest := [.ref (ad x0)]) C (mX8_blockIn (fu := fu) eq102) vwX6_31 rfl (by decide) hx1 rfl rfl (Nat.le_of_ble_eq_true rfl) ⟨Nat.le_of_ble_eq_true rfl, Nat.le_of_ble_eq_true rfl⟩ ⟨Nat.le_refl _, Nat.le_refl _⟩ dX6_turnRound_18 ?_
    show Y _ _ _ _ _ _ _ _ _ _ _ _ _ _ _ _ _ _ q102.2 21 [(0, .ref (ad x0)), (1, .ref (ad x1)), (2, .int x2)] [.int q102.1, .ref (ad x0)]
    obtain ⟨q103, eq103, h⟩ := bdS h
    refine y_callV (pc := 21) (As := [.int q102.1]) (rest := []) C (mX6_append (fu := fu) eq103) vwX6_22 rfl (by decide) hx0 rfl rfl (Nat.le_of_ble_eq_true rfl) ⟨Nat.le_of_ble_eq_true rfl, Nat.le_of_ble_eq_true rfl⟩ ⟨Nat.le_refl _, Nat.le_refl _⟩ dX6_turnRound_21 ?_
    show Y _ _ _ _ _ _ _ _ _ _ _ _ _ _ _ _ _ _ q103 24 [(0, .ref (ad x0)), (1, .ref (ad x1)), (2, .int x2)] []
    obtain ⟨y104, ey104, h⟩ := nmS h
    refine y_iinc (pc := 24) (v := y104) (k := 2) (lv' := [(2, .int y104), (0, .ref (ad x0)), (1, .ref (ad x1))]) C dX6_turnRound_24 rfl (by rw [ey104]; rfl) (by decide) rfl ?_
    refine y_goto (pc := 27) (tgt := 11) C dX6_turnRound_27 (by decide) ?_
    refine y_sub [1, 2, 0] (lv' := [(0, .ref (ad x0)), (1, .ref (ad x1)), (2, .int y104)]) rfl ?_
    exact hk11 _ _ h
noncomputable def fX6_turnRound_11 (fu : Nat) (x0 : Nat) (x1 : Nat) : Nat → Int32 → St → Option (St) := lp (fun k11 => fX6_turnRound_11b fu k11 x0 x1) (fun _ _ => none)
set_option maxHeartbeats 4000000 in
theorem tX6_turnRound_11 {l : Launch} {D : va_G} {cA : ClassId} {bs : Nat} {ad : Nat → Nat} {p : Program} {e : Env} {s : State} {m : MethodId} {args : Array Value} {below : List Frame} {meth : Method} {c : Code} {fu : Nat} (C : Cx D cA bs ad RX6 cX6_turnRound 3 none p s m args meth c) {x0 : Nat} {x1 : Nat} {q : St} (hx0 : xk x0 = 4) (hx1 : xk x1 = 6)  : ∀ (n : Nat) (x2 : Int32) (σ : St), fX6_turnRound_11 fu  x0 x1 n x2 σ = some q → Y D cA bs ad p l e (rmY 1 21) s m args below meth c 3 0 0 (QM D cA bs ad below args s none q) σ 11 [(0, .ref (ad x0)), (1, .ref (ad x1)), (2, .int x2)] [] := by
  intro n
  induction n with
  | zero => intro x2 σ h; cases h
  | succ n ih => intro x2 σ h; exact tX6_turnRound_11b (fu := fu) C hx0 hx1 ih h
noncomputable def fX6_turnRound_0 (fu : Nat) (x0 : Nat) (x1 : Nat) (σ : St) : Option (St) :=
  (fX6_clear fu x0 σ).bind fun (q101 : St) =>
  (fX8_size fu x1 q101).bind fun (q102 : Int32 × St) =>
  nm (q102.1 - (1 : Int32)) fun (y103 : Int32) =>
  fX6_turnRound_11 fu x0 x1 fu y103 q102.2
set_option maxHeartbeats 4000000 in
set_option maxRecDepth 100000 in
theorem tX6_turnRound_0 {l : Launch} {D : va_G} {cA : ClassId} {bs : Nat} {ad : Nat → Nat} {p : Program} {e : Env} {s : State} {m : MethodId} {args : Array Value} {below : List Frame} {meth : Method} {c : Code} {fu : Nat} (C : Cx D cA bs ad RX6 cX6_turnRound 3 none p s m args meth c) {x0 : Nat} {x1 : Nat} {q : St} (hx0 : xk x0 = 4) (hx1 : xk x1 = 6) {σ : St} (h : fX6_turnRound_0 fu x0 x1 σ = some q) : Y D cA bs ad p l e (rmY 1 21) s m args below meth c 3 0 0 (QM D cA bs ad below args s none q) σ 0 [(0, .ref (ad x0)), (1, .ref (ad x1))] [] := by
  unfold fX6_turnRound_0 at h
  refine y_aload_n (pc := 0) (q := 0) C dX6_turnRound_0 rfl rfl ?_
  obtain ⟨q101, eq101, h⟩ := bdS h
  refine y_callV (pc := 1) (As := []) (rest := []) C (mX6_clear (fu := fu) eq101) vwX6_19 rfl (by decide) hx0 rfl rfl (Nat.le_of_ble_eq_true rfl) ⟨Nat.le_of_ble_eq_true rfl, Nat.le_of_ble_eq_true rfl⟩ ⟨Nat.le_refl _, Nat.le_refl _⟩ dX6_turnRound_1 ?_
  show Y _ _ _ _ _ _ _ _ _ _ _ _ _ _ _ _ _ _ q101 4 [(0, .ref (ad x0)), (1, .ref (ad x1))] []
  refine y_aload_n (pc := 4) (q := 1) C dX6_turnRound_4 rfl rfl ?_
  obtain ⟨q102, eq102, h⟩ := bdS h
  refine y_callV (pc := 5) (As := []) (rest := []) C (mX8_size (fu := fu) eq102) vwX6_26 rfl (by decide) hx1 rfl rfl (Nat.le_of_ble_eq_true rfl) ⟨Nat.le_of_ble_eq_true rfl, Nat.le_of_ble_eq_true rfl⟩ ⟨Nat.le_refl _, Nat.le_refl _⟩ dX6_turnRound_5 ?_
  show Y _ _ _ _ _ _ _ _ _ _ _ _ _ _ _ _ _ _ q102.2 8 [(0, .ref (ad x0)), (1, .ref (ad x1))] [.int q102.1]
  refine y_iconst (pc := 8) (v := (1 : Int32)) C dX6_turnRound_8 (by decide) ?_
  refine y_isub (pc := 9) C dX6_turnRound_9 ?_
  obtain ⟨y103, ey103, h⟩ := nmS h
  refine y_nmI y103 ey103 ?_
  refine y_istore_n (pc := 10) (lv' := [(2, .int y103), (0, .ref (ad x0)), (1, .ref (ad x1))]) C dX6_turnRound_10 rfl (by decide) rfl ?_
  refine y_sub [1, 2, 0] (lv' := [(0, .ref (ad x0)), (1, .ref (ad x1)), (2, .int y103)]) rfl ?_
  exact tX6_turnRound_11 (fu := fu) C hx0 hx1 fu _ _ h
noncomputable def fX6_turnRound (fu : Nat) (x0 : Nat) (x1 : Nat) (σ : St) : Option (St) := if xk x0 = 4 then if xk x1 = 6 then fX6_turnRound_0 fu x0 x1 σ else none else none
theorem mX6_turnRound {l : Launch} {D : va_G} {cA : ClassId} {bs fu : Nat} {ad : Nat → Nat} {x0 : Nat} {x1 : Nat} {σ : St} {q : St} (h : fX6_turnRound fu x0 x1 σ = some q) : Ct l D cA bs ad yX6_turnRound cX6_turnRound 3 none 1 21 [.ref (ad x0), .ref (ad x1)] σ none q := by
  unfold fX6_turnRound at h
  by_cases hx0 : xk x0 = 4
  case neg => rw [if_neg hx0] at h; cases h
  rw [if_pos hx0] at h
  by_cases hx1 : xk x1 = 6
  case neg => rw [if_neg hx1] at h; cases h
  rw [if_pos hx1] at h
  exact Ct.of (by decide) (Nat.le_of_ble_eq_true rfl) (fun p e s m args below meth c C => tX6_turnRound_0 (fu := fu) C hx0 hx1 h)
noncomputable def fX6_told_9b (fu : Nat) (k9 : Int32 → Int32 → St → Option (Int32 × St)) (x0 : Nat) (x1 : Int32) (x2 : Int32) (σ : St) : Option (Int32 × St) :=
  if x2 < 0 then
    some (x1, σ)
  else
    (ald σ (rf x0 0) 7 x2).bind fun (v102 : Int32) =>
    nm ((x1 <<< ((3 : Int32) &&& 31)) ||| v102) fun (y103 : Int32) =>
    nm (x2 + (-1 : Int32)) fun (y104 : Int32) =>
    k9 y103 y104 σ
set_option maxHeartbeats 4000000 in
set_option maxRecDepth 100000 in
theorem tX6_told_9b {l : Launch} {D : va_G} {cA : ClassId} {bs : Nat} {ad : Nat → Nat} {p : Program} {e : Env} {s : State} {m : MethodId} {args : Array Value} {below : List Frame} {meth : Method} {c : Code} {fu : Nat} (C : Cx D cA bs ad RX6 cX6_told 3 (some .int) p s m args meth c) {k9 : Int32 → Int32 → St → Option (Int32 × St)} {x0 : Nat} {x1 : Int32} {x2 : Int32} {q : Int32 × St} (hx0 : xk x0 = 4) (hk9 : ∀ (x1 : Int32) (x2 : Int32) (σ : St), k9 x1 x2 σ = some q → Y D cA bs ad p l e (rmY 0 0) s m args below meth c 3 0 0 (QM D cA bs ad below args s (some (.int q.1)) q.2) σ 9 [(0, .ref (ad x0)), (1, .int x1), (2, .int x2)] []) {σ : St} (h : fX6_told_9b fu k9 x0 x1 x2 σ = some q) : Y D cA bs ad p l e (rmY 0 0) s m args below meth c 3 0 0 (QM D cA bs ad below args s (some (.int q.1)) q.2) σ 9 [(0, .ref (ad x0)), (1, .int x1), (2, .int x2)] [] := by
  unfold fX6_told_9b at h
  refine y_iload_n (pc := 9) (q := 2) C dX6_told_9 rfl rfl ?_
  refine y_if_lt (pc := 10) (tgt := 30) C dX6_told_10 (by decide) (fun c101 => ?_) (fun c101 => ?_)
  · rw [if_pos c101] at h
    refine y_iload_n (pc := 30) (q := 1) C dX6_told_30 rfl rfl ?_
    cases h
    exact y_iret (pc := 31) C dX6_told_31
  · rw [if_neg c101] at h
    refine y_iload_n (pc := 13) (q := 1) C dX6_told_13 rfl rfl ?_
    refine y_iconst (pc := 14) (v := (3 : Int32)) C dX6_told_14 (by decide) ?_
    refine y_ishl (pc := 15) C dX6_told_15 ?_
    refine y_aload_n (pc := 16) (q := 0) C dX6_told_16 rfl rfl ?_
    refine y_getr (pc := 17) C faX6_9 rfl hx0 dX6_told_17 ?_
    refine y_iload_n (pc := 20) (q := 2) C dX6_told_20 rfl rfl ?_
    obtain ⟨v102, ev102, h⟩ := bdS h
    refine y_iald (pc := 21) (n := 7) C (rf_4_0 _ hx0) (by decide) ev102 dX6_told_21 ?_
    refine y_ior (pc := 22) C dX6_told_22 ?_
    obtain ⟨y103, ey103, h⟩ := nmS h
    refine y_nmI y103 ey103 ?_
    refine y_istore_n (pc := 23) (lv' := [(1, .int y103), (0, .ref (ad x0)), (2, .int x2)]) C dX6_told_23 rfl (by decide) rfl ?_
    obtain ⟨y104, ey104, h⟩ := nmS h
    refine y_iinc (pc := 24) (v := y104) (k := 2) (lv' := [(2, .int y104), (1, .int y103), (0, .ref (ad x0))]) C dX6_told_24 rfl (by rw [ey104]; rfl) (by decide) rfl ?_
    refine y_goto (pc := 27) (tgt := 9) C dX6_told_27 (by decide) ?_
    refine y_sub [2, 1, 0] (lv' := [(0, .ref (ad x0)), (1, .int y103), (2, .int y104)]) rfl ?_
    exact hk9 _ _ _ h
noncomputable def fX6_told_9 (fu : Nat) (x0 : Nat) : Nat → Int32 → Int32 → St → Option (Int32 × St) := lp (fun k9 => fX6_told_9b fu k9 x0) (fun _ _ _ => none)
set_option maxHeartbeats 4000000 in
theorem tX6_told_9 {l : Launch} {D : va_G} {cA : ClassId} {bs : Nat} {ad : Nat → Nat} {p : Program} {e : Env} {s : State} {m : MethodId} {args : Array Value} {below : List Frame} {meth : Method} {c : Code} {fu : Nat} (C : Cx D cA bs ad RX6 cX6_told 3 (some .int) p s m args meth c) {x0 : Nat} {q : Int32 × St} (hx0 : xk x0 = 4)  : ∀ (n : Nat) (x1 : Int32) (x2 : Int32) (σ : St), fX6_told_9 fu  x0 n x1 x2 σ = some q → Y D cA bs ad p l e (rmY 0 0) s m args below meth c 3 0 0 (QM D cA bs ad below args s (some (.int q.1)) q.2) σ 9 [(0, .ref (ad x0)), (1, .int x1), (2, .int x2)] [] := by
  intro n
  induction n with
  | zero => intro x1 x2 σ h; cases h
  | succ n ih => intro x1 x2 σ h; exact tX6_told_9b (fu := fu) C hx0 ih h
noncomputable def fX6_told_0 (fu : Nat) (x0 : Nat) (σ : St) : Option (Int32 × St) :=
  nm ((σ.1 x0 1) - (1 : Int32)) fun (y101 : Int32) =>
  fX6_told_9 fu x0 fu (0 : Int32) y101 σ
set_option maxHeartbeats 4000000 in
set_option maxRecDepth 100000 in
theorem tX6_told_0 {l : Launch} {D : va_G} {cA : ClassId} {bs : Nat} {ad : Nat → Nat} {p : Program} {e : Env} {s : State} {m : MethodId} {args : Array Value} {below : List Frame} {meth : Method} {c : Code} {fu : Nat} (C : Cx D cA bs ad RX6 cX6_told 3 (some .int) p s m args meth c) {x0 : Nat} {q : Int32 × St} (hx0 : xk x0 = 4) {σ : St} (h : fX6_told_0 fu x0 σ = some q) : Y D cA bs ad p l e (rmY 0 0) s m args below meth c 3 0 0 (QM D cA bs ad below args s (some (.int q.1)) q.2) σ 0 [(0, .ref (ad x0))] [] := by
  unfold fX6_told_0 at h
  refine y_iconst (pc := 0) (v := (0 : Int32)) C dX6_told_0 (by decide) ?_
  refine y_istore_n (pc := 1) (lv' := [(1, .int (0 : Int32)), (0, .ref (ad x0))]) C dX6_told_1 rfl (by decide) rfl ?_
  refine y_aload_n (pc := 2) (q := 1) C dX6_told_2 rfl rfl ?_
  refine y_geti (pc := 3) C faX6_15 rfl hx0 dX6_told_3 ?_
  refine y_iconst (pc := 6) (v := (1 : Int32)) C dX6_told_6 (by decide) ?_
  refine y_isub (pc := 7) C dX6_told_7 ?_
  obtain ⟨y101, ey101, h⟩ := nmS h
  refine y_nmI y101 ey101 ?_
  refine y_istore_n (pc := 8) (lv' := [(2, .int y101), (1, .int (0 : Int32)), (0, .ref (ad x0))]) C dX6_told_8 rfl (by decide) rfl ?_
  refine y_sub [2, 1, 0] (lv' := [(0, .ref (ad x0)), (1, .int (0 : Int32)), (2, .int y101)]) rfl ?_
  exact tX6_told_9 (fu := fu) C hx0 fu _ _ _ h
noncomputable def fX6_told (fu : Nat) (x0 : Nat) (σ : St) : Option (Int32 × St) := if xk x0 = 4 then fX6_told_0 fu x0 σ else none
theorem mX6_told {l : Launch} {D : va_G} {cA : ClassId} {bs fu : Nat} {ad : Nat → Nat} {x0 : Nat} {σ : St} {q : Int32 × St} (h : fX6_told fu x0 σ = some q) : Ct l D cA bs ad yX6_told cX6_told 3 (some .int) 0 0 [.ref (ad x0)] σ (some (.int q.1)) q.2 := by
  unfold fX6_told at h
  by_cases hx0 : xk x0 = 4
  case neg => rw [if_neg hx0] at h; cases h
  rw [if_pos hx0] at h
  exact Ct.of (by decide) (Nat.le_of_ble_eq_true rfl) (fun p e s m args below meth c C => tX6_told_0 (fu := fu) C hx0 h)
noncomputable def fX7_clear_0 (fu : Nat) (x0 : Nat) (σ : St) : Option (St) :=
  nm (si σ x0 1 (0 : Int32)) fun (σ101 : St) =>
  some σ101
set_option maxHeartbeats 4000000 in
set_option maxRecDepth 100000 in
theorem tX7_clear_0 {l : Launch} {D : va_G} {cA : ClassId} {bs : Nat} {ad : Nat → Nat} {p : Program} {e : Env} {s : State} {m : MethodId} {args : Array Value} {below : List Frame} {meth : Method} {c : Code} {fu : Nat} (C : Cx D cA bs ad RX7 cX7_clear 1 none p s m args meth c) {x0 : Nat} {q : St} (hx0 : xk x0 = 5) {σ : St} (h : fX7_clear_0 fu x0 σ = some q) : Y D cA bs ad p l e (rmY 0 0) s m args below meth c 1 0 0 (QM D cA bs ad below args s none q) σ 0 [(0, .ref (ad x0))] [] := by
  unfold fX7_clear_0 at h
  refine y_aload_n (pc := 0) (q := 0) C dX7_clear_0 rfl rfl ?_
  refine y_iconst (pc := 1) (v := (0 : Int32)) C dX7_clear_1 (by decide) ?_
  obtain ⟨σ101, eσ101, h⟩ := nmS h
  refine y_puti (pc := 2) C fpX7_15 rfl hx0 rfl rfl dX7_clear_2 ?_
  rw [← eσ101]
  cases h
  exact y_vret (pc := 5) C dX7_clear_5
noncomputable def fX7_clear (fu : Nat) (x0 : Nat) (σ : St) : Option (St) := if xk x0 = 5 then fX7_clear_0 fu x0 σ else none
theorem mX7_clear {l : Launch} {D : va_G} {cA : ClassId} {bs fu : Nat} {ad : Nat → Nat} {x0 : Nat} {σ : St} {q : St} (h : fX7_clear fu x0 σ = some q) : Ct l D cA bs ad yX7_clear cX7_clear 1 none 0 0 [.ref (ad x0)] σ none q := by
  unfold fX7_clear at h
  by_cases hx0 : xk x0 = 5
  case neg => rw [if_neg hx0] at h; cases h
  rw [if_pos hx0] at h
  exact Ct.of (by decide) (Nat.le_of_ble_eq_true rfl) (fun p e s m args below meth c C => tX7_clear_0 (fu := fu) C hx0 h)
noncomputable def fX7_codeIn_0 (fu : Nat) (x0 : Int64) (x2 : Int32) (σ : St) : Option (Int32 × St) :=
  some (((((x0.toUInt64 >>> (((8 : Int32) * x2).toInt64.toUInt64 &&& Int64.toUInt64 63)).toInt64).toInt32) &&& (255 : Int32)), σ)
set_option maxHeartbeats 4000000 in
set_option maxRecDepth 100000 in
theorem tX7_codeIn_0 {l : Launch} {D : va_G} {cA : ClassId} {bs : Nat} {ad : Nat → Nat} {p : Program} {e : Env} {s : State} {m : MethodId} {args : Array Value} {below : List Frame} {meth : Method} {c : Code} {fu : Nat} (C : Cx D cA bs ad RX7 cX7_codeIn 3 (some .int) p s m args meth c) {x0 : Int64} {x2 : Int32} {q : Int32 × St} {σ : St} (h : fX7_codeIn_0 fu x0 x2 σ = some q) : Y D cA bs ad p l e (rmY 0 0) s m args below meth c 3 0 0 (QM D cA bs ad below args s (some (.int q.1)) q.2) σ 0 [(0, .long x0), (2, .int x2)] [] := by
  unfold fX7_codeIn_0 at h
  refine y_lload_n (pc := 0) (q := 0) C dX7_codeIn_0 rfl rfl ?_
  refine y_bipush (pc := 1) (v := (8 : Int32)) C dX7_codeIn_1 (by decide) ?_
  refine y_iload_n (pc := 3) (q := 1) C dX7_codeIn_3 rfl rfl ?_
  refine y_imul (pc := 4) C dX7_codeIn_4 ?_
  refine y_lushr (pc := 5) C dX7_codeIn_5 ?_
  refine y_l2i (pc := 6) C dX7_codeIn_6 ?_
  refine y_sipush (pc := 7) (v := (255 : Int32)) C dX7_codeIn_7 (by decide) ?_
  refine y_iand (pc := 10) C dX7_codeIn_10 ?_
  cases h
  exact y_iret (pc := 11) C dX7_codeIn_11
noncomputable def fX7_codeIn (fu : Nat) (x0 : Int64) (x2 : Int32) (σ : St) : Option (Int32 × St) := fX7_codeIn_0 fu x0 x2 σ
theorem mX7_codeIn {l : Launch} {D : va_G} {cA : ClassId} {bs fu : Nat} {ad : Nat → Nat} {x0 : Int64} {x2 : Int32} {σ : St} {q : Int32 × St} (h : fX7_codeIn fu x0 x2 σ = some q) : Ct l D cA bs ad yX7_codeIn cX7_codeIn 3 (some .int) 0 0 [.long x0, .int x2] σ (some (.int q.1)) q.2 := by
  unfold fX7_codeIn at h
  exact Ct.of (by decide) (Nat.le_of_ble_eq_true rfl) (fun p e s m args below meth c C => tX7_codeIn_0 (fu := fu) C h)
noncomputable def fX7_lettersIn_38 (fu : Nat) (x0 : Int64) (σ : St) : Option (Int32 × St) :=
  some ((-1 : Int32), σ)
set_option maxHeartbeats 4000000 in
set_option maxRecDepth 100000 in
theorem tX7_lettersIn_38 {l : Launch} {D : va_G} {cA : ClassId} {bs : Nat} {ad : Nat → Nat} {p : Program} {e : Env} {s : State} {m : MethodId} {args : Array Value} {below : List Frame} {meth : Method} {c : Code} {fu : Nat} (C : Cx D cA bs ad RX7 cX7_lettersIn 6 (some .int) p s m args meth c) {x0 : Int64} {q : Int32 × St} {σ : St} (h : fX7_lettersIn_38 fu x0 σ = some q) : Y D cA bs ad p l e (rmY 1 22) s m args below meth c 6 0 0 (QM D cA bs ad below args s (some (.int q.1)) q.2) σ 38 [(0, .long x0)] [] := by
  unfold fX7_lettersIn_38 at h
  refine y_iconst (pc := 38) (v := (-1 : Int32)) C dX7_lettersIn_38 (by decide) ?_
  cases h
  exact y_iret (pc := 39) C dX7_lettersIn_39
noncomputable def fX7_lettersIn_53 (fu : Nat) (k7 : Int32 → Int32 → Int32 → St → Option (Int32 × St)) (x0 : Int64) (x2 : Int32) (x3 : Int32) (x4 : Int32) (σ : St) : Option (Int32 × St) :=
  nm (x4 + (1 : Int32)) fun (y101 : Int32) =>
  k7 x2 x3 y101 σ
set_option maxHeartbeats 4000000 in
set_option maxRecDepth 100000 in
theorem tX7_lettersIn_53 {l : Launch} {D : va_G} {cA : ClassId} {bs : Nat} {ad : Nat → Nat} {p : Program} {e : Env} {s : State} {m : MethodId} {args : Array Value} {below : List Frame} {meth : Method} {c : Code} {fu : Nat} (C : Cx D cA bs ad RX7 cX7_lettersIn 6 (some .int) p s m args meth c) {k7 : Int32 → Int32 → Int32 → St → Option (Int32 × St)} {x0 : Int64} {x2 : Int32} {x3 : Int32} {x4 : Int32} {q : Int32 × St} (hk7 : ∀ (x2 : Int32) (x3 : Int32) (x4 : Int32) (σ : St), k7 x2 x3 x4 σ = some q → Y D cA bs ad p l e (rmY 1 22) s m args below meth c 6 0 0 (QM D cA bs ad below args s (some (.int q.1)) q.2) σ 7 [(0, .long x0), (2, .int x2), (3, .int x3), (4, .int x4)] []) {σ : St} (h : fX7_lettersIn_53 fu k7 x0 x2 x3 x4 σ = some q) : Y D cA bs ad p l e (rmY 1 22) s m args below meth c 6 0 0 (QM D cA bs ad below args s (some (.int q.1)) q.2) σ 53 [(0, .long x0), (2, .int x2), (3, .int x3), (4, .int x4)] [] := by
  unfold fX7_lettersIn_53 at h
  obtain ⟨y101, ey101, h⟩ := nmS h
  refine y_iinc (pc := 53) (v := y101) (k := 3) (lv' := [(4, .int y101), (0, .long x0), (2, .int x2), (3, .int x3)]) C dX7_lettersIn_53 rfl (by rw [ey101]; rfl) (by decide) rfl ?_
  refine y_goto (pc := 56) (tgt := 7) C dX7_lettersIn_56 (by decide) ?_
  refine y_sub [1, 2, 3, 0] (lv' := [(0, .long x0), (2, .int x2), (3, .int x3), (4, .int y101)]) rfl ?_
  exact hk7 _ _ _ _ h
noncomputable def fX7_lettersIn_40 (fu : Nat) (k7 : Int32 → Int32 → Int32 → St → Option (Int32 × St)) (x0 : Int64) (x2 : Int32) (x3 : Int32) (x4 : Int32) (x5 : Int32) (σ : St) : Option (Int32 × St) :=
  if x5 = 0 then
    fX7_lettersIn_53 fu k7 x0 x2 (1 : Int32) x4 σ
  else
    nm (x2 + (1 : Int32)) fun (y102 : Int32) =>
    fX7_lettersIn_53 fu k7 x0 y102 x3 x4 σ
set_option maxHeartbeats 4000000 in
set_option maxRecDepth 100000 in
theorem tX7_lettersIn_40 {l : Launch} {D : va_G} {cA : ClassId} {bs : Nat} {ad : Nat → Nat} {p : Program} {e : Env} {s : State} {m : MethodId} {args : Array Value} {below : List Frame} {meth : Method} {c : Code} {fu : Nat} (C : Cx D cA bs ad RX7 cX7_lettersIn 6 (some .int) p s m args meth c) {k7 : Int32 → Int32 → Int32 → St → Option (Int32 × St)} {x0 : Int64} {x2 : Int32} {x3 : Int32} {x4 : Int32} {x5 : Int32} {q : Int32 × St} (hk7 : ∀ (x2 : Int32) (x3 : Int32) (x4 : Int32) (σ : St), k7 x2 x3 x4 σ = some q → Y D cA bs ad p l e (rmY 1 22) s m args below meth c 6 0 0 (QM D cA bs ad below args s (some (.int q.1)) q.2) σ 7 [(0, .long x0), (2, .int x2), (3, .int x3), (4, .int x4)] []) {σ : St} (h : fX7_lettersIn_40 fu k7 x0 x2 x3 x4 x5 σ = some q) : Y D cA bs ad p l e (rmY 1 22) s m args below meth c 6 0 0 (QM D cA bs ad below args s (some (.int q.1)) q.2) σ 40 [(0, .long x0), (2, .int x2), (3, .int x3), (4, .int x4), (5, .int x5)] [] := by
  unfold fX7_lettersIn_40 at h
  refine y_iload (pc := 40) (q := 4) C dX7_lettersIn_40 rfl ?_
  refine y_if_ne (pc := 42) (tgt := 50) C dX7_lettersIn_42 (by decide) (fun c101 => ?_) (fun c101 => ?_)
  · rw [if_neg c101] at h
    obtain ⟨y102, ey102, h⟩ := nmS h
    refine y_iinc (pc := 50) (v := y102) (k := 1) (lv' := [(2, .int y102), (0, .long x0), (3, .int x3), (4, .int x4), (5, .int x5)]) C dX7_lettersIn_50 rfl (by rw [ey102]; rfl) (by decide) rfl ?_
    refine y_sub [1, 0, 2, 3] (lv' := [(0, .long x0), (2, .int y102), (3, .int x3), (4, .int x4)]) rfl ?_
    exact tX7_lettersIn_53 (fu := fu) C hk7 h
  · rw [if_pos c101] at h
    refine y_iconst (pc := 45) (v := (1 : Int32)) C dX7_lettersIn_45 (by decide) ?_
    refine y_istore_n (pc := 46) (lv' := [(3, .int (1 : Int32)), (0, .long x0), (2, .int x2), (4, .int x4), (5, .int x5)]) C dX7_lettersIn_46 rfl (by decide) rfl ?_
    refine y_goto (pc := 47) (tgt := 53) C dX7_lettersIn_47 (by decide) ?_
    refine y_sub [1, 2, 0, 3] (lv' := [(0, .long x0), (2, .int x2), (3, .int (1 : Int32)), (4, .int x4)]) rfl ?_
    exact tX7_lettersIn_53 (fu := fu) C hk7 h
noncomputable def fX7_lettersIn_7b (fu : Nat) (k7 : Int32 → Int32 → Int32 → St → Option (Int32 × St)) (x0 : Int64) (x2 : Int32) (x3 : Int32) (x4 : Int32) (σ : St) : Option (Int32 × St) :=
  if (8 : Int32) ≤ x4 then
    some (x2, σ)
  else
    (fX7_codeIn fu x0 x4 σ).bind fun (q102 : Int32 × St) =>
    if (126 : Int32) < q102.1 then
      fX7_lettersIn_38 fu x0 q102.2
    else
      if x3 = 0 then
        fX7_lettersIn_40 fu k7 x0 x2 x3 x4 q102.1 q102.2
      else
        if q102.1 = 0 then
          fX7_lettersIn_40 fu k7 x0 x2 x3 x4 q102.1 q102.2
        else
          fX7_lettersIn_38 fu x0 q102.2
set_option maxHeartbeats 4000000 in
set_option maxRecDepth 100000 in
theorem tX7_lettersIn_7b {l : Launch} {D : va_G} {cA : ClassId} {bs : Nat} {ad : Nat → Nat} {p : Program} {e : Env} {s : State} {m : MethodId} {args : Array Value} {below : List Frame} {meth : Method} {c : Code} {fu : Nat} (C : Cx D cA bs ad RX7 cX7_lettersIn 6 (some .int) p s m args meth c) {k7 : Int32 → Int32 → Int32 → St → Option (Int32 × St)} {x0 : Int64} {x2 : Int32} {x3 : Int32} {x4 : Int32} {q : Int32 × St} (hk7 : ∀ (x2 : Int32) (x3 : Int32) (x4 : Int32) (σ : St), k7 x2 x3 x4 σ = some q → Y D cA bs ad p l e (rmY 1 22) s m args below meth c 6 0 0 (QM D cA bs ad below args s (some (.int q.1)) q.2) σ 7 [(0, .long x0), (2, .int x2), (3, .int x3), (4, .int x4)] []) {σ : St} (h : fX7_lettersIn_7b fu k7 x0 x2 x3 x4 σ = some q) : Y D cA bs ad p l e (rmY 1 22) s m args below meth c 6 0 0 (QM D cA bs ad below args s (some (.int q.1)) q.2) σ 7 [(0, .long x0), (2, .int x2), (3, .int x3), (4, .int x4)] [] := by
  unfold fX7_lettersIn_7b at h
  refine y_iload (pc := 7) (q := 3) C dX7_lettersIn_7 rfl ?_
  refine y_bipush (pc := 9) (v := (8 : Int32)) C dX7_lettersIn_9 (by decide) ?_
  refine y_icmp_ge (pc := 11) (tgt := 59) C dX7_lettersIn_11 (by decide) (fun c101 => ?_) (fun c101 => ?_)
  · rw [if_pos c101] at h
    refine y_iload_n (pc := 59) (q := 1) C dX7_lettersIn_59 rfl rfl ?_
    cases h
    exact y_iret (pc := 60) C dX7_lettersIn_60
  · rw [if_neg c101] at h
    refine y_lload_n (pc := 14) (q := 0) C dX7_lettersIn_14 rfl rfl ?_
    refine y_iload (pc := 15) (q := 3) C dX7_lettersIn_15 rfl ?_
    obtain ⟨q102, eq102, h⟩ := bdS h
    refine y_callS (pc := 17) (As := [.long x0, .int x4]) (rest := []) C (mX7_codeIn (fu := fu) eq102) vwX7_19 rfl rfl (Nat.le_of_ble_eq_true rfl) ⟨Nat.le_of_ble_eq_true rfl, Nat.le_of_ble_eq_true rfl⟩ ⟨Nat.le_refl _, Nat.le_refl _⟩ dX7_lettersIn_17 ?_
    show Y _ _ _ _ _ _ _ _ _ _ _ _ _ _ _ _ _ _ q102.2 20 [(0, .long x0), (2, .int x2), (3, .int x3), (4, .int x4)] [.int q102.1]
    refine y_istore (pc := 20) (lv' := [(5, .int q102.1), (0, .long x0), (2, .int x2), (3, .int x3), (4, .int x4)]) C dX7_lettersIn_20 (by decide) rfl ?_
    refine y_iload (pc := 22) (q := 0) C dX7_lettersIn_22 rfl ?_
    refine y_bipush (pc := 24) (v := (126 : Int32)) C dX7_lettersIn_24 (by decide) ?_
    refine y_icmp_gt (pc := 26) (tgt := 38) C dX7_lettersIn_26 (by decide) (fun c103 => ?_) (fun c103 => ?_)
    · rw [if_pos c103] at h
      refine y_sub [1] (lv' := [(0, .long x0)]) rfl ?_
      exact tX7_lettersIn_38 (fu := fu) C h
    · rw [if_neg c103] at h
      refine y_iload_n (pc := 29) (q := 3) C dX7_lettersIn_29 rfl rfl ?_
      refine y_if_eq (pc := 30) (tgt := 40) C dX7_lettersIn_30 (by decide) (fun c104 => ?_) (fun c104 => ?_)
      · rw [if_pos c104] at h
        refine y_sub [1, 2, 3, 4, 0] (lv' := [(0, .long x0), (2, .int x2), (3, .int x3), (4, .int x4), (5, .int q102.1)]) rfl ?_
        exact tX7_lettersIn_40 (fu := fu) C hk7 h
      · rw [if_neg c104] at h
        refine y_iload (pc := 33) (q := 0) C dX7_lettersIn_33 rfl ?_
        refine y_if_eq (pc := 35) (tgt := 40) C dX7_lettersIn_35 (by decide) (fun c105 => ?_) (fun c105 => ?_)
        · rw [if_pos c105] at h
          refine y_sub [1, 2, 3, 4, 0] (lv' := [(0, .long x0), (2, .int x2), (3, .int x3), (4, .int x4), (5, .int q102.1)]) rfl ?_
          exact tX7_lettersIn_40 (fu := fu) C hk7 h
        · rw [if_neg c105] at h
          refine y_sub [1] (lv' := [(0, .long x0)]) rfl ?_
          exact tX7_lettersIn_38 (fu := fu) C h
noncomputable def fX7_lettersIn_7 (fu : Nat) (x0 : Int64) : Nat → Int32 → Int32 → Int32 → St → Option (Int32 × St) := lp (fun k7 => fX7_lettersIn_7b fu k7 x0) (fun _ _ _ _ => none)
set_option maxHeartbeats 4000000 in
theorem tX7_lettersIn_7 {l : Launch} {D : va_G} {cA : ClassId} {bs : Nat} {ad : Nat → Nat} {p : Program} {e : Env} {s : State} {m : MethodId} {args : Array Value} {below : List Frame} {meth : Method} {c : Code} {fu : Nat} (C : Cx D cA bs ad RX7 cX7_lettersIn 6 (some .int) p s m args meth c) {x0 : Int64} {q : Int32 × St}   : ∀ (n : Nat) (x2 : Int32) (x3 : Int32) (x4 : Int32) (σ : St), fX7_lettersIn_7 fu  x0 n x2 x3 x4 σ = some q → Y D cA bs ad p l e (rmY 1 22) s m args below meth c 6 0 0 (QM D cA bs ad below args s (some (.int q.1)) q.2) σ 7 [(0, .long x0), (2, .int x2), (3, .int x3), (4, .int x4)] [] := by
  intro n
  induction n with
  | zero => intro x2 x3 x4 σ h; cases h
  | succ n ih => intro x2 x3 x4 σ h; exact tX7_lettersIn_7b (fu := fu) C  ih h
noncomputable def fX7_lettersIn_0 (fu : Nat) (x0 : Int64) (σ : St) : Option (Int32 × St) :=
  fX7_lettersIn_7 fu x0 fu (0 : Int32) (0 : Int32) (0 : Int32) σ
set_option maxHeartbeats 4000000 in
set_option maxRecDepth 100000 in
theorem tX7_lettersIn_0 {l : Launch} {D : va_G} {cA : ClassId} {bs : Nat} {ad : Nat → Nat} {p : Program} {e : Env} {s : State} {m : MethodId} {args : Array Value} {below : List Frame} {meth : Method} {c : Code} {fu : Nat} (C : Cx D cA bs ad RX7 cX7_lettersIn 6 (some .int) p s m args meth c) {x0 : Int64} {q : Int32 × St} {σ : St} (h : fX7_lettersIn_0 fu x0 σ = some q) : Y D cA bs ad p l e (rmY 1 22) s m args below meth c 6 0 0 (QM D cA bs ad below args s (some (.int q.1)) q.2) σ 0 [(0, .long x0)] [] := by
  unfold fX7_lettersIn_0 at h
  refine y_iconst (pc := 0) (v := (0 : Int32)) C dX7_lettersIn_0 (by decide) ?_
  refine y_istore_n (pc := 1) (lv' := [(2, .int (0 : Int32)), (0, .long x0)]) C dX7_lettersIn_1 rfl (by decide) rfl ?_
  refine y_iconst (pc := 2) (v := (0 : Int32)) C dX7_lettersIn_2 (by decide) ?_
  refine y_istore_n (pc := 3) (lv' := [(3, .int (0 : Int32)), (2, .int (0 : Int32)), (0, .long x0)]) C dX7_lettersIn_3 rfl (by decide) rfl ?_
  refine y_iconst (pc := 4) (v := (0 : Int32)) C dX7_lettersIn_4 (by decide) ?_
  refine y_istore (pc := 5) (lv' := [(4, .int (0 : Int32)), (3, .int (0 : Int32)), (2, .int (0 : Int32)), (0, .long x0)]) C dX7_lettersIn_5 (by decide) rfl ?_
  refine y_sub [3, 2, 1, 0] (lv' := [(0, .long x0), (2, .int (0 : Int32)), (3, .int (0 : Int32)), (4, .int (0 : Int32))]) rfl ?_
  exact tX7_lettersIn_7 (fu := fu) C fu _ _ _ _ h
noncomputable def fX7_lettersIn (fu : Nat) (x0 : Int64) (σ : St) : Option (Int32 × St) := fX7_lettersIn_0 fu x0 σ
theorem mX7_lettersIn {l : Launch} {D : va_G} {cA : ClassId} {bs fu : Nat} {ad : Nat → Nat} {x0 : Int64} {σ : St} {q : Int32 × St} (h : fX7_lettersIn fu x0 σ = some q) : Ct l D cA bs ad yX7_lettersIn cX7_lettersIn 6 (some .int) 1 22 [.long x0] σ (some (.int q.1)) q.2 := by
  unfold fX7_lettersIn at h
  exact Ct.of (by decide) (Nat.le_of_ble_eq_true rfl) (fun p e s m args below meth c C => tX7_lettersIn_0 (fu := fu) C h)
noncomputable def fX7_append_49 (fu : Nat) (x0 : Nat) (x1 : Int64) (x3 : Int32) (σ : St) : Option (St) :=
  some σ
set_option maxHeartbeats 4000000 in
set_option maxRecDepth 100000 in
theorem tX7_append_49 {l : Launch} {D : va_G} {cA : ClassId} {bs : Nat} {ad : Nat → Nat} {p : Program} {e : Env} {s : State} {m : MethodId} {args : Array Value} {below : List Frame} {meth : Method} {c : Code} {fu : Nat} (C : Cx D cA bs ad RX7 cX7_append 5 none p s m args meth c) {x0 : Nat} {x1 : Int64} {x3 : Int32} {q : St} (hx0 : xk x0 = 5) {σ : St} (h : fX7_append_49 fu x0 x1 x3 σ = some q) : Y D cA bs ad p l e (rmY 1 22) s m args below meth c 5 0 0 (QM D cA bs ad below args s none q) σ 49 [(0, .ref (ad x0)), (1, .long x1), (3, .int x3)] [] := by
  unfold fX7_append_49 at h
  cases h
  exact y_vret (pc := 49) C dX7_append_49
noncomputable def fX7_append_3b (fu : Nat) (k3 : Int32 → St → Option (St)) (x0 : Nat) (x1 : Int64) (x3 : Int32) (x4 : Int32) (σ : St) : Option (St) :=
  if x3 ≤ x4 then
    fX7_append_49 fu x0 x1 x3 σ
  else
    if (16 : Int32) ≤ (σ.1 x0 1) then
      fX7_append_49 fu x0 x1 x3 σ
    else
      (fX7_codeIn fu x1 x4 σ).bind fun (q103 : Int32 × St) =>
      (ast q103.2 (rf x0 0) 16 (σ.1 x0 1) q103.1).bind fun (σ104 : St) =>
      nm (si σ104 x0 1 ((σ104.1 x0 1) + (1 : Int32))) fun (σ105 : St) =>
      nm (x4 + (1 : Int32)) fun (y106 : Int32) =>
      k3 y106 σ105
set_option maxHeartbeats 4000000 in
set_option maxRecDepth 100000 in
theorem tX7_append_3b {l : Launch} {D : va_G} {cA : ClassId} {bs : Nat} {ad : Nat → Nat} {p : Program} {e : Env} {s : State} {m : MethodId} {args : Array Value} {below : List Frame} {meth : Method} {c : Code} {fu : Nat} (C : Cx D cA bs ad RX7 cX7_append 5 none p s m args meth c) {k3 : Int32 → St → Option (St)} {x0 : Nat} {x1 : Int64} {x3 : Int32} {x4 : Int32} {q : St} (hx0 : xk x0 = 5) (hk3 : ∀ (x4 : Int32) (σ : St), k3 x4 σ = some q → Y D cA bs ad p l e (rmY 1 22) s m args below meth c 5 0 0 (QM D cA bs ad below args s none q) σ 3 [(0, .ref (ad x0)), (1, .long x1), (3, .int x3), (4, .int x4)] []) {σ : St} (h : fX7_append_3b fu k3 x0 x1 x3 x4 σ = some q) : Y D cA bs ad p l e (rmY 1 22) s m args below meth c 5 0 0 (QM D cA bs ad below args s none q) σ 3 [(0, .ref (ad x0)), (1, .long x1), (3, .int x3), (4, .int x4)] [] := by
  unfold fX7_append_3b at h
  refine y_iload (pc := 3) (q := 3) C dX7_append_3 rfl ?_
  refine y_iload_n (pc := 5) (q := 2) C dX7_append_5 rfl rfl ?_
  refine y_icmp_ge (pc := 6) (tgt := 49) C dX7_append_6 (by decide) (fun c101 => ?_) (fun c101 => ?_)
  · rw [if_pos c101] at h
    refine y_sub [0, 1, 2] (lv' := [(0, .ref (ad x0)), (1, .long x1), (3, .int x3)]) rfl ?_
    exact tX7_append_49 (fu := fu) C hx0 h
  · rw [if_neg c101] at h
    refine y_aload_n (pc := 9) (q := 0) C dX7_append_9 rfl rfl ?_
    refine y_geti (pc := 10) C faX7_15 rfl hx0 dX7_append_10 ?_
    refine y_bipush (pc := 13) (v := (16 : Int32)) C dX7_append_13 (by decide) ?_
    refine y_icmp_ge (pc := 15) (tgt := 49) C dX7_append_15 (by decide) (fun c102 => ?_) (fun c102 => ?_)
    · rw [if_pos c102] at h
      refine y_sub [0, 1, 2] (lv' := [(0, .ref (ad x0)), (1, .long x1), (3, .int x3)]) rfl ?_
      exact tX7_append_49 (fu := fu) C hx0 h
    · rw [if_neg c102] at h
      refine y_aload_n (pc := 18) (q := 0) C dX7_append_18 rfl rfl ?_
      refine y_getr (pc := 19) C faX7_9 rfl hx0 dX7_append_19 ?_
      refine y_aload_n (pc := 22) (q := 0) C dX7_append_22 rfl rfl ?_
      refine y_geti (pc := 23) C faX7_15 rfl hx0 dX7_append_23 ?_
      refine y_lload_n (pc := 26) (q := 1) C dX7_append_26 rfl rfl ?_
      refine y_iload (pc := 27) (q := 3) C dX7_append_27 rfl ?_
      obtain ⟨q103, eq103, h⟩ := bdS h
      refine y_callS (pc := 29) (As := [.long x1, .int x4]) (rest := [.int (σ.1 x0 1), .ref (ad (rf x0 0))]) C (mX7_codeIn (fu := fu) eq103) vwX7_19 rfl rfl (Nat.le_of_ble_eq_true rfl) ⟨Nat.le_of_ble_eq_true rfl, Nat.le_of_ble_eq_true rfl⟩ ⟨Nat.le_refl _, Nat.le_refl _⟩ dX7_append_29 ?_
      show Y _ _ _ _ _ _ _ _ _ _ _ _ _ _ _ _ _ _ q103.2 32 [(0, .ref (ad x0)), (1, .long x1), (3, .int x3), (4, .int x4)] [.int q103.1, .int (σ.1 x0 1), .ref (ad (rf x0 0))]
      obtain ⟨σ104, eσ104, h⟩ := bdS h
      refine y_iast (pc := 32) (n := 16) C (rf_5_0 _ hx0) (by decide) eσ104 dX7_append_32 ?_
      refine y_aload_n (pc := 33) (q := 0) C dX7_append_33 rfl rfl ?_
      refine y_dup (pc := 34) C dX7_append_34 rfl ?_
      refine y_geti (pc := 35) C faX7_15 rfl hx0 dX7_append_35 ?_
      refine y_iconst (pc := 38) (v := (1 : Int32)) C dX7_append_38 (by decide) ?_
      refine y_iadd (pc := 39) C dX7_append_39 ?_
      obtain ⟨σ105, eσ105, h⟩ := nmS h
      refine y_puti (pc := 40) C fpX7_15 rfl hx0 rfl rfl dX7_append_40 ?_
      rw [← eσ105]
      obtain ⟨y106, ey106, h⟩ := nmS h
      refine y_iinc (pc := 43) (v := y106) (k := 3) (lv' := [(4, .int y106), (0, .ref (ad x0)), (1, .long x1), (3, .int x3)]) C dX7_append_43 rfl (by rw [ey106]; rfl) (by decide) rfl ?_
      refine y_goto (pc := 46) (tgt := 3) C dX7_append_46 (by decide) ?_
      refine y_sub [1, 2, 3, 0] (lv' := [(0, .ref (ad x0)), (1, .long x1), (3, .int x3), (4, .int y106)]) rfl ?_
      exact hk3 _ _ h
noncomputable def fX7_append_3 (fu : Nat) (x0 : Nat) (x1 : Int64) (x3 : Int32) : Nat → Int32 → St → Option (St) := lp (fun k3 => fX7_append_3b fu k3 x0 x1 x3) (fun _ _ => none)
set_option maxHeartbeats 4000000 in
theorem tX7_append_3 {l : Launch} {D : va_G} {cA : ClassId} {bs : Nat} {ad : Nat → Nat} {p : Program} {e : Env} {s : State} {m : MethodId} {args : Array Value} {below : List Frame} {meth : Method} {c : Code} {fu : Nat} (C : Cx D cA bs ad RX7 cX7_append 5 none p s m args meth c) {x0 : Nat} {x1 : Int64} {x3 : Int32} {q : St} (hx0 : xk x0 = 5)  : ∀ (n : Nat) (x4 : Int32) (σ : St), fX7_append_3 fu  x0 x1 x3 n x4 σ = some q → Y D cA bs ad p l e (rmY 1 22) s m args below meth c 5 0 0 (QM D cA bs ad below args s none q) σ 3 [(0, .ref (ad x0)), (1, .long x1), (3, .int x3), (4, .int x4)] [] := by
  intro n
  induction n with
  | zero => intro x4 σ h; cases h
  | succ n ih => intro x4 σ h; exact tX7_append_3b (fu := fu) C hx0 ih h
noncomputable def fX7_append_0 (fu : Nat) (x0 : Nat) (x1 : Int64) (x3 : Int32) (σ : St) : Option (St) :=
  fX7_append_3 fu x0 x1 x3 fu (0 : Int32) σ
set_option maxHeartbeats 4000000 in
set_option maxRecDepth 100000 in
theorem tX7_append_0 {l : Launch} {D : va_G} {cA : ClassId} {bs : Nat} {ad : Nat → Nat} {p : Program} {e : Env} {s : State} {m : MethodId} {args : Array Value} {below : List Frame} {meth : Method} {c : Code} {fu : Nat} (C : Cx D cA bs ad RX7 cX7_append 5 none p s m args meth c) {x0 : Nat} {x1 : Int64} {x3 : Int32} {q : St} (hx0 : xk x0 = 5) {σ : St} (h : fX7_append_0 fu x0 x1 x3 σ = some q) : Y D cA bs ad p l e (rmY 1 22) s m args below meth c 5 0 0 (QM D cA bs ad below args s none q) σ 0 [(0, .ref (ad x0)), (1, .long x1), (3, .int x3)] [] := by
  unfold fX7_append_0 at h
  refine y_iconst (pc := 0) (v := (0 : Int32)) C dX7_append_0 (by decide) ?_
  refine y_istore (pc := 1) (lv' := [(4, .int (0 : Int32)), (0, .ref (ad x0)), (1, .long x1), (3, .int x3)]) C dX7_append_1 (by decide) rfl ?_
  refine y_sub [1, 2, 3, 0] (lv' := [(0, .ref (ad x0)), (1, .long x1), (3, .int x3), (4, .int (0 : Int32))]) rfl ?_
  exact tX7_append_3 (fu := fu) C hx0 fu _ _ h
noncomputable def fX7_append (fu : Nat) (x0 : Nat) (x1 : Int64) (x3 : Int32) (σ : St) : Option (St) := if xk x0 = 5 then fX7_append_0 fu x0 x1 x3 σ else none
theorem mX7_append {l : Launch} {D : va_G} {cA : ClassId} {bs fu : Nat} {ad : Nat → Nat} {x0 : Nat} {x1 : Int64} {x3 : Int32} {σ : St} {q : St} (h : fX7_append fu x0 x1 x3 σ = some q) : Ct l D cA bs ad yX7_append cX7_append 5 none 1 22 [.ref (ad x0), .long x1, .int x3] σ none q := by
  unfold fX7_append at h
  by_cases hx0 : xk x0 = 5
  case neg => rw [if_neg hx0] at h; cases h
  rw [if_pos hx0] at h
  exact Ct.of (by decide) (Nat.le_of_ble_eq_true rfl) (fun p e s m args below meth c C => tX7_append_0 (fu := fu) C hx0 h)
noncomputable def fX7_firstWrong_4b (fu : Nat) (k4 : Int32 → Int32 → St → Option (Int32 × St)) (x0 : Nat) (x1 : Int32) (x2 : Int32) (σ : St) : Option (Int32 × St) :=
  if (σ.1 x0 1) ≤ x2 then
    some ((σ.1 x0 1), σ)
  else
    (ald σ (rf x0 0) 16 x2).bind fun (v102 : Int32) =>
    (fX7_reachedBy fu x1 v102 σ).bind fun (q103 : Int32 × St) =>
    if q103.1 = (-1 : Int32) then
      some (x2, q103.2)
    else
      nm (x2 + (1 : Int32)) fun (y105 : Int32) =>
      k4 q103.1 y105 q103.2
set_option maxHeartbeats 4000000 in
set_option maxRecDepth 100000 in
theorem tX7_firstWrong_4b {l : Launch} {D : va_G} {cA : ClassId} {bs : Nat} {ad : Nat → Nat} {p : Program} {e : Env} {s : State} {m : MethodId} {args : Array Value} {below : List Frame} {meth : Method} {c : Code} {fu : Nat} (C : Cx D cA bs ad RX7 cX7_firstWrong 3 (some .int) p s m args meth c) {k4 : Int32 → Int32 → St → Option (Int32 × St)} {x0 : Nat} {x1 : Int32} {x2 : Int32} {q : Int32 × St} (hx0 : xk x0 = 5) (hk4 : ∀ (x1 : Int32) (x2 : Int32) (σ : St), k4 x1 x2 σ = some q → Y D cA bs ad p l e (rmY 2 44) s m args below meth c 3 0 0 (QM D cA bs ad below args s (some (.int q.1)) q.2) σ 4 [(0, .ref (ad x0)), (1, .int x1), (2, .int x2)] []) {σ : St} (h : fX7_firstWrong_4b fu k4 x0 x1 x2 σ = some q) : Y D cA bs ad p l e (rmY 2 44) s m args below meth c 3 0 0 (QM D cA bs ad below args s (some (.int q.1)) q.2) σ 4 [(0, .ref (ad x0)), (1, .int x1), (2, .int x2)] [] := by
  unfold fX7_firstWrong_4b at h
  refine y_iload_n (pc := 4) (q := 2) C dX7_firstWrong_4 rfl rfl ?_
  refine y_aload_n (pc := 5) (q := 0) C dX7_firstWrong_5 rfl rfl ?_
  refine y_geti (pc := 6) C faX7_15 rfl hx0 dX7_firstWrong_6 ?_
  refine y_icmp_ge (pc := 9) (tgt := 36) C dX7_firstWrong_9 (by decide) (fun c101 => ?_) (fun c101 => ?_)
  · rw [if_pos c101] at h
    refine y_aload_n (pc := 36) (q := 0) C dX7_firstWrong_36 rfl rfl ?_
    refine y_geti (pc := 37) C faX7_15 rfl hx0 dX7_firstWrong_37 ?_
    cases h
    exact y_iret (pc := 40) C dX7_firstWrong_40
  · rw [if_neg c101] at h
    refine y_iload_n (pc := 12) (q := 1) C dX7_firstWrong_12 rfl rfl ?_
    refine y_aload_n (pc := 13) (q := 0) C dX7_firstWrong_13 rfl rfl ?_
    refine y_getr (pc := 14) C faX7_9 rfl hx0 dX7_firstWrong_14 ?_
    refine y_iload_n (pc := 17) (q := 2) C dX7_firstWrong_17 rfl rfl ?_
    obtain ⟨v102, ev102, h⟩ := bdS h
    refine y_iald (pc := 18) (n := 16) C (rf_5_0 _ hx0) (by decide) ev102 dX7_firstWrong_18 ?_
    obtain ⟨q103, eq103, h⟩ := bdS h
    refine y_callS (pc := 19) (As := [.int x1, .int v102]) (rest := []) C (mX7_reachedBy (fu := fu) eq103) vwX7_23 rfl rfl (Nat.le_of_ble_eq_true rfl) ⟨Nat.le_of_ble_eq_true rfl, Nat.le_of_ble_eq_true rfl⟩ ⟨Nat.le_refl _, Nat.le_refl _⟩ dX7_firstWrong_19 ?_
    show Y _ _ _ _ _ _ _ _ _ _ _ _ _ _ _ _ _ _ q103.2 22 [(0, .ref (ad x0)), (1, .int x1), (2, .int x2)] [.int q103.1]
    refine y_istore_n (pc := 22) (lv' := [(1, .int q103.1), (0, .ref (ad x0)), (2, .int x2)]) C dX7_firstWrong_22 rfl (by decide) rfl ?_
    refine y_iload_n (pc := 23) (q := 0) C dX7_firstWrong_23 rfl rfl ?_
    refine y_iconst (pc := 24) (v := (-1 : Int32)) C dX7_firstWrong_24 (by decide) ?_
    refine y_icmp_ne (pc := 25) (tgt := 30) C dX7_firstWrong_25 (by decide) (fun c104 => ?_) (fun c104 => ?_)
    · rw [if_neg c104] at h
      obtain ⟨y105, ey105, h⟩ := nmS h
      refine y_iinc (pc := 30) (v := y105) (k := 2) (lv' := [(2, .int y105), (1, .int q103.1), (0, .ref (ad x0))]) C dX7_firstWrong_30 rfl (by rw [ey105]; rfl) (by decide) rfl ?_
      refine y_goto (pc := 33) (tgt := 4) C dX7_firstWrong_33 (by decide) ?_
      refine y_sub [2, 1, 0] (lv' := [(0, .ref (ad x0)), (1, .int q103.1), (2, .int y105)]) rfl ?_
      exact hk4 _ _ _ h
    · rw [if_pos c104] at h
      refine y_iload_n (pc := 28) (q := 2) C dX7_firstWrong_28 rfl rfl ?_
      cases h
      exact y_iret (pc := 29) C dX7_firstWrong_29
noncomputable def fX7_firstWrong_4 (fu : Nat) (x0 : Nat) : Nat → Int32 → Int32 → St → Option (Int32 × St) := lp (fun k4 => fX7_firstWrong_4b fu k4 x0) (fun _ _ _ => none)
set_option maxHeartbeats 4000000 in
theorem tX7_firstWrong_4 {l : Launch} {D : va_G} {cA : ClassId} {bs : Nat} {ad : Nat → Nat} {p : Program} {e : Env} {s : State} {m : MethodId} {args : Array Value} {below : List Frame} {meth : Method} {c : Code} {fu : Nat} (C : Cx D cA bs ad RX7 cX7_firstWrong 3 (some .int) p s m args meth c) {x0 : Nat} {q : Int32 × St} (hx0 : xk x0 = 5)  : ∀ (n : Nat) (x1 : Int32) (x2 : Int32) (σ : St), fX7_firstWrong_4 fu  x0 n x1 x2 σ = some q → Y D cA bs ad p l e (rmY 2 44) s m args below meth c 3 0 0 (QM D cA bs ad below args s (some (.int q.1)) q.2) σ 4 [(0, .ref (ad x0)), (1, .int x1), (2, .int x2)] [] := by
  intro n
  induction n with
  | zero => intro x1 x2 σ h; cases h
  | succ n ih => intro x1 x2 σ h; exact tX7_firstWrong_4b (fu := fu) C hx0 ih h
noncomputable def fX7_firstWrong_0 (fu : Nat) (x0 : Nat) (σ : St) : Option (Int32 × St) :=
  fX7_firstWrong_4 fu x0 fu (0 : Int32) (0 : Int32) σ
set_option maxHeartbeats 4000000 in
set_option maxRecDepth 100000 in
theorem tX7_firstWrong_0 {l : Launch} {D : va_G} {cA : ClassId} {bs : Nat} {ad : Nat → Nat} {p : Program} {e : Env} {s : State} {m : MethodId} {args : Array Value} {below : List Frame} {meth : Method} {c : Code} {fu : Nat} (C : Cx D cA bs ad RX7 cX7_firstWrong 3 (some .int) p s m args meth c) {x0 : Nat} {q : Int32 × St} (hx0 : xk x0 = 5) {σ : St} (h : fX7_firstWrong_0 fu x0 σ = some q) : Y D cA bs ad p l e (rmY 2 44) s m args below meth c 3 0 0 (QM D cA bs ad below args s (some (.int q.1)) q.2) σ 0 [(0, .ref (ad x0))] [] := by
  unfold fX7_firstWrong_0 at h
  refine y_iconst (pc := 0) (v := (0 : Int32)) C dX7_firstWrong_0 (by decide) ?_
  refine y_istore_n (pc := 1) (lv' := [(1, .int (0 : Int32)), (0, .ref (ad x0))]) C dX7_firstWrong_1 rfl (by decide) rfl ?_
  refine y_iconst (pc := 2) (v := (0 : Int32)) C dX7_firstWrong_2 (by decide) ?_
  refine y_istore_n (pc := 3) (lv' := [(2, .int (0 : Int32)), (1, .int (0 : Int32)), (0, .ref (ad x0))]) C dX7_firstWrong_3 rfl (by decide) rfl ?_
  refine y_sub [2, 1, 0] (lv' := [(0, .ref (ad x0)), (1, .int (0 : Int32)), (2, .int (0 : Int32))]) rfl ?_
  exact tX7_firstWrong_4 (fu := fu) C hx0 fu _ _ _ h
noncomputable def fX7_firstWrong (fu : Nat) (x0 : Nat) (σ : St) : Option (Int32 × St) := if xk x0 = 5 then fX7_firstWrong_0 fu x0 σ else none
theorem mX7_firstWrong {l : Launch} {D : va_G} {cA : ClassId} {bs fu : Nat} {ad : Nat → Nat} {x0 : Nat} {σ : St} {q : Int32 × St} (h : fX7_firstWrong fu x0 σ = some q) : Ct l D cA bs ad yX7_firstWrong cX7_firstWrong 3 (some .int) 2 44 [.ref (ad x0)] σ (some (.int q.1)) q.2 := by
  unfold fX7_firstWrong at h
  by_cases hx0 : xk x0 = 5
  case neg => rw [if_neg hx0] at h; cases h
  rw [if_pos hx0] at h
  exact Ct.of (by decide) (Nat.le_of_ble_eq_true rfl) (fun p e s m args below meth c C => tX7_firstWrong_0 (fu := fu) C hx0 h)
noncomputable def fX7_isLaw_49 (fu : Nat) (x0 : Nat) (s0 : Int32) (σ : St) : Option (Int32 × St) :=
  if s0 = 0 ∨ s0 = 1 then some (s0, σ) else none
set_option maxHeartbeats 4000000 in
set_option maxRecDepth 100000 in
theorem tX7_isLaw_49 {l : Launch} {D : va_G} {cA : ClassId} {bs : Nat} {ad : Nat → Nat} {p : Program} {e : Env} {s : State} {m : MethodId} {args : Array Value} {below : List Frame} {meth : Method} {c : Code} {fu : Nat} (C : Cx D cA bs ad RX7 cX7_isLaw 3 (some .boolean) p s m args meth c) {x0 : Nat} {s0 : Int32} {q : Int32 × St} (hx0 : xk x0 = 5) {σ : St} (h : fX7_isLaw_49 fu x0 s0 σ = some q) : Y D cA bs ad p l e (rmY 2 44) s m args below meth c 3 0 0 (QM D cA bs ad below args s (some (.int q.1)) q.2) σ 49 [(0, .ref (ad x0))] [.int s0] := by
  unfold fX7_isLaw_49 at h
  by_cases c101 : s0 = 0 ∨ s0 = 1
  case neg => rw [if_neg c101] at h; cases h
  rw [if_pos c101] at h
  cases h
  exact y_zret (pc := 49) C c101 dX7_isLaw_49
noncomputable def fX7_isLaw_48 (fu : Nat) (x0 : Nat) (σ : St) : Option (Int32 × St) :=
  fX7_isLaw_49 fu x0 (0 : Int32) σ
set_option maxHeartbeats 4000000 in
set_option maxRecDepth 100000 in
theorem tX7_isLaw_48 {l : Launch} {D : va_G} {cA : ClassId} {bs : Nat} {ad : Nat → Nat} {p : Program} {e : Env} {s : State} {m : MethodId} {args : Array Value} {below : List Frame} {meth : Method} {c : Code} {fu : Nat} (C : Cx D cA bs ad RX7 cX7_isLaw 3 (some .boolean) p s m args meth c) {x0 : Nat} {q : Int32 × St} (hx0 : xk x0 = 5) {σ : St} (h : fX7_isLaw_48 fu x0 σ = some q) : Y D cA bs ad p l e (rmY 2 44) s m args below meth c 3 0 0 (QM D cA bs ad below args s (some (.int q.1)) q.2) σ 48 [(0, .ref (ad x0))] [] := by
  unfold fX7_isLaw_48 at h
  refine y_iconst (pc := 48) (v := (0 : Int32)) C dX7_isLaw_48 (by decide) ?_
  exact tX7_isLaw_49 (fu := fu) C hx0 h
noncomputable def fX7_isLaw_34 (fu : Nat) (x0 : Nat) (x1 : Int32) (σ : St) : Option (Int32 × St) :=
  if x1 = (-1 : Int32) then
    fX7_isLaw_48 fu x0 σ
  else
    if x1 = (4 : Int32) then
      fX7_isLaw_48 fu x0 σ
    else
      fX7_isLaw_49 fu x0 (1 : Int32) σ
set_option maxHeartbeats 4000000 in
set_option maxRecDepth 100000 in
theorem tX7_isLaw_34 {l : Launch} {D : va_G} {cA : ClassId} {bs : Nat} {ad : Nat → Nat} {p : Program} {e : Env} {s : State} {m : MethodId} {args : Array Value} {below : List Frame} {meth : Method} {c : Code} {fu : Nat} (C : Cx D cA bs ad RX7 cX7_isLaw 3 (some .boolean) p s m args meth c) {x0 : Nat} {x1 : Int32} {q : Int32 × St} (hx0 : xk x0 = 5) {σ : St} (h : fX7_isLaw_34 fu x0 x1 σ = some q) : Y D cA bs ad p l e (rmY 2 44) s m args below meth c 3 0 0 (QM D cA bs ad below args s (some (.int q.1)) q.2) σ 34 [(0, .ref (ad x0)), (1, .int x1)] [] := by
  unfold fX7_isLaw_34 at h
  refine y_iload_n (pc := 34) (q := 1) C dX7_isLaw_34 rfl rfl ?_
  refine y_iconst (pc := 35) (v := (-1 : Int32)) C dX7_isLaw_35 (by decide) ?_
  refine y_icmp_eq (pc := 36) (tgt := 48) C dX7_isLaw_36 (by decide) (fun c101 => ?_) (fun c101 => ?_)
  · rw [if_pos c101] at h
    refine y_sub [0] (lv' := [(0, .ref (ad x0))]) rfl ?_
    exact tX7_isLaw_48 (fu := fu) C hx0 h
  · rw [if_neg c101] at h
    refine y_iload_n (pc := 39) (q := 1) C dX7_isLaw_39 rfl rfl ?_
    refine y_iconst (pc := 40) (v := (4 : Int32)) C dX7_isLaw_40 (by decide) ?_
    refine y_icmp_eq (pc := 41) (tgt := 48) C dX7_isLaw_41 (by decide) (fun c102 => ?_) (fun c102 => ?_)
    · rw [if_pos c102] at h
      refine y_sub [0] (lv' := [(0, .ref (ad x0))]) rfl ?_
      exact tX7_isLaw_48 (fu := fu) C hx0 h
    · rw [if_neg c102] at h
      refine y_iconst (pc := 44) (v := (1 : Int32)) C dX7_isLaw_44 (by decide) ?_
      refine y_goto (pc := 45) (tgt := 49) C dX7_isLaw_45 (by decide) ?_
      refine y_sub [0] (lv' := [(0, .ref (ad x0))]) rfl ?_
      exact tX7_isLaw_49 (fu := fu) C hx0 h
noncomputable def fX7_isLaw_4b (fu : Nat) (k4 : Int32 → Int32 → St → Option (Int32 × St)) (x0 : Nat) (x1 : Int32) (x2 : Int32) (σ : St) : Option (Int32 × St) :=
  if (σ.1 x0 1) ≤ x2 then
    fX7_isLaw_34 fu x0 x1 σ
  else
    if x1 = (-1 : Int32) then
      fX7_isLaw_34 fu x0 x1 σ
    else
      (ald σ (rf x0 0) 16 x2).bind fun (v103 : Int32) =>
      (fX7_reachedBy fu x1 v103 σ).bind fun (q104 : Int32 × St) =>
      nm (x2 + (1 : Int32)) fun (y105 : Int32) =>
      k4 q104.1 y105 q104.2
set_option maxHeartbeats 4000000 in
set_option maxRecDepth 100000 in
theorem tX7_isLaw_4b {l : Launch} {D : va_G} {cA : ClassId} {bs : Nat} {ad : Nat → Nat} {p : Program} {e : Env} {s : State} {m : MethodId} {args : Array Value} {below : List Frame} {meth : Method} {c : Code} {fu : Nat} (C : Cx D cA bs ad RX7 cX7_isLaw 3 (some .boolean) p s m args meth c) {k4 : Int32 → Int32 → St → Option (Int32 × St)} {x0 : Nat} {x1 : Int32} {x2 : Int32} {q : Int32 × St} (hx0 : xk x0 = 5) (hk4 : ∀ (x1 : Int32) (x2 : Int32) (σ : St), k4 x1 x2 σ = some q → Y D cA bs ad p l e (rmY 2 44) s m args below meth c 3 0 0 (QM D cA bs ad below args s (some (.int q.1)) q.2) σ 4 [(0, .ref (ad x0)), (1, .int x1), (2, .int x2)] []) {σ : St} (h : fX7_isLaw_4b fu k4 x0 x1 x2 σ = some q) : Y D cA bs ad p l e (rmY 2 44) s m args below meth c 3 0 0 (QM D cA bs ad below args s (some (.int q.1)) q.2) σ 4 [(0, .ref (ad x0)), (1, .int x1), (2, .int x2)] [] := by
  unfold fX7_isLaw_4b at h
  refine y_iload_n (pc := 4) (q := 2) C dX7_isLaw_4 rfl rfl ?_
  refine y_aload_n (pc := 5) (q := 0) C dX7_isLaw_5 rfl rfl ?_
  refine y_geti (pc := 6) C faX7_15 rfl hx0 dX7_isLaw_6 ?_
  refine y_icmp_ge (pc := 9) (tgt := 34) C dX7_isLaw_9 (by decide) (fun c101 => ?_) (fun c101 => ?_)
  · rw [if_pos c101] at h
    refine y_sub [0, 1] (lv' := [(0, .ref (ad x0)), (1, .int x1)]) rfl ?_
    exact tX7_isLaw_34 (fu := fu) C hx0 h
  · rw [if_neg c101] at h
    refine y_iload_n (pc := 12) (q := 1) C dX7_isLaw_12 rfl rfl ?_
    refine y_iconst (pc := 13) (v := (-1 : Int32)) C dX7_isLaw_13 (by decide) ?_
    refine y_icmp_eq (pc := 14) (tgt := 34) C dX7_isLaw_14 (by decide) (fun c102 => ?_) (fun c102 => ?_)
    · rw [if_pos c102] at h
      refine y_sub [0, 1] (lv' := [(0, .ref (ad x0)), (1, .int x1)]) rfl ?_
      exact tX7_isLaw_34 (fu := fu) C hx0 h
    · rw [if_neg c102] at h
      refine y_iload_n (pc := 17) (q := 1) C dX7_isLaw_17 rfl rfl ?_
      refine y_aload_n (pc := 18) (q := 0) C dX7_isLaw_18 rfl rfl ?_
      refine y_getr (pc := 19) C faX7_9 rfl hx0 dX7_isLaw_19 ?_
      refine y_iload_n (pc := 22) (q := 2) C dX7_isLaw_22 rfl rfl ?_
      obtain ⟨v103, ev103, h⟩ := bdS h
      refine y_iald (pc := 23) (n := 16) C (rf_5_0 _ hx0) (by decide) ev103 dX7_isLaw_23 ?_
      obtain ⟨q104, eq104, h⟩ := bdS h
      refine y_callS (pc := 24) (As := [.int x1, .int v103]) (rest := []) C (mX7_reachedBy (fu := fu) eq104) vwX7_23 rfl rfl (Nat.le_of_ble_eq_true rfl) ⟨Nat.le_of_ble_eq_true rfl, Nat.le_of_ble_eq_true rfl⟩ ⟨Nat.le_refl _, Nat.le_refl _⟩ dX7_isLaw_24 ?_
      show Y _ _ _ _ _ _ _ _ _ _ _ _ _ _ _ _ _ _ q104.2 27 [(0, .ref (ad x0)), (1, .int x1), (2, .int x2)] [.int q104.1]
      refine y_istore_n (pc := 27) (lv' := [(1, .int q104.1), (0, .ref (ad x0)), (2, .int x2)]) C dX7_isLaw_27 rfl (by decide) rfl ?_
      obtain ⟨y105, ey105, h⟩ := nmS h
      refine y_iinc (pc := 28) (v := y105) (k := 2) (lv' := [(2, .int y105), (1, .int q104.1), (0, .ref (ad x0))]) C dX7_isLaw_28 rfl (by rw [ey105]; rfl) (by decide) rfl ?_
      refine y_goto (pc := 31) (tgt := 4) C dX7_isLaw_31 (by decide) ?_
      refine y_sub [2, 1, 0] (lv' := [(0, .ref (ad x0)), (1, .int q104.1), (2, .int y105)]) rfl ?_
      exact hk4 _ _ _ h
noncomputable def fX7_isLaw_4 (fu : Nat) (x0 : Nat) : Nat → Int32 → Int32 → St → Option (Int32 × St) := lp (fun k4 => fX7_isLaw_4b fu k4 x0) (fun _ _ _ => none)
set_option maxHeartbeats 4000000 in
theorem tX7_isLaw_4 {l : Launch} {D : va_G} {cA : ClassId} {bs : Nat} {ad : Nat → Nat} {p : Program} {e : Env} {s : State} {m : MethodId} {args : Array Value} {below : List Frame} {meth : Method} {c : Code} {fu : Nat} (C : Cx D cA bs ad RX7 cX7_isLaw 3 (some .boolean) p s m args meth c) {x0 : Nat} {q : Int32 × St} (hx0 : xk x0 = 5)  : ∀ (n : Nat) (x1 : Int32) (x2 : Int32) (σ : St), fX7_isLaw_4 fu  x0 n x1 x2 σ = some q → Y D cA bs ad p l e (rmY 2 44) s m args below meth c 3 0 0 (QM D cA bs ad below args s (some (.int q.1)) q.2) σ 4 [(0, .ref (ad x0)), (1, .int x1), (2, .int x2)] [] := by
  intro n
  induction n with
  | zero => intro x1 x2 σ h; cases h
  | succ n ih => intro x1 x2 σ h; exact tX7_isLaw_4b (fu := fu) C hx0 ih h
noncomputable def fX7_isLaw_0 (fu : Nat) (x0 : Nat) (σ : St) : Option (Int32 × St) :=
  fX7_isLaw_4 fu x0 fu (0 : Int32) (0 : Int32) σ
set_option maxHeartbeats 4000000 in
set_option maxRecDepth 100000 in
theorem tX7_isLaw_0 {l : Launch} {D : va_G} {cA : ClassId} {bs : Nat} {ad : Nat → Nat} {p : Program} {e : Env} {s : State} {m : MethodId} {args : Array Value} {below : List Frame} {meth : Method} {c : Code} {fu : Nat} (C : Cx D cA bs ad RX7 cX7_isLaw 3 (some .boolean) p s m args meth c) {x0 : Nat} {q : Int32 × St} (hx0 : xk x0 = 5) {σ : St} (h : fX7_isLaw_0 fu x0 σ = some q) : Y D cA bs ad p l e (rmY 2 44) s m args below meth c 3 0 0 (QM D cA bs ad below args s (some (.int q.1)) q.2) σ 0 [(0, .ref (ad x0))] [] := by
  unfold fX7_isLaw_0 at h
  refine y_iconst (pc := 0) (v := (0 : Int32)) C dX7_isLaw_0 (by decide) ?_
  refine y_istore_n (pc := 1) (lv' := [(1, .int (0 : Int32)), (0, .ref (ad x0))]) C dX7_isLaw_1 rfl (by decide) rfl ?_
  refine y_iconst (pc := 2) (v := (0 : Int32)) C dX7_isLaw_2 (by decide) ?_
  refine y_istore_n (pc := 3) (lv' := [(2, .int (0 : Int32)), (1, .int (0 : Int32)), (0, .ref (ad x0))]) C dX7_isLaw_3 rfl (by decide) rfl ?_
  refine y_sub [2, 1, 0] (lv' := [(0, .ref (ad x0)), (1, .int (0 : Int32)), (2, .int (0 : Int32))]) rfl ?_
  exact tX7_isLaw_4 (fu := fu) C hx0 fu _ _ _ h
noncomputable def fX7_isLaw (fu : Nat) (x0 : Nat) (σ : St) : Option (Int32 × St) := if xk x0 = 5 then fX7_isLaw_0 fu x0 σ else none
theorem mX7_isLaw {l : Launch} {D : va_G} {cA : ClassId} {bs fu : Nat} {ad : Nat → Nat} {x0 : Nat} {σ : St} {q : Int32 × St} (h : fX7_isLaw fu x0 σ = some q) : Ct l D cA bs ad yX7_isLaw cX7_isLaw 3 (some .boolean) 2 44 [.ref (ad x0)] σ (some (.int q.1)) q.2 := by
  unfold fX7_isLaw at h
  by_cases hx0 : xk x0 = 5
  case neg => rw [if_neg hx0] at h; cases h
  rw [if_pos hx0] at h
  exact Ct.of (by decide) (Nat.le_of_ble_eq_true rfl) (fun p e s m args below meth c C => tX7_isLaw_0 (fu := fu) C hx0 h)
noncomputable def fX8_hasBlock_17 (fu : Nat) (x0 : Nat) (x1 : Int32) (s0 : Int32) (σ : St) : Option (Int32 × St) :=
  if s0 = 0 ∨ s0 = 1 then some (s0, σ) else none
set_option maxHeartbeats 4000000 in
set_option maxRecDepth 100000 in
theorem tX8_hasBlock_17 {l : Launch} {D : va_G} {cA : ClassId} {bs : Nat} {ad : Nat → Nat} {p : Program} {e : Env} {s : State} {m : MethodId} {args : Array Value} {below : List Frame} {meth : Method} {c : Code} {fu : Nat} (C : Cx D cA bs ad RX8 cX8_hasBlock 2 (some .boolean) p s m args meth c) {x0 : Nat} {x1 : Int32} {s0 : Int32} {q : Int32 × St} (hx0 : xk x0 = 6) {σ : St} (h : fX8_hasBlock_17 fu x0 x1 s0 σ = some q) : Y D cA bs ad p l e (rmY 0 0) s m args below meth c 2 0 0 (QM D cA bs ad below args s (some (.int q.1)) q.2) σ 17 [(0, .ref (ad x0)), (1, .int x1)] [.int s0] := by
  unfold fX8_hasBlock_17 at h
  by_cases c101 : s0 = 0 ∨ s0 = 1
  case neg => rw [if_neg c101] at h; cases h
  rw [if_pos c101] at h
  cases h
  exact y_zret (pc := 17) C c101 dX8_hasBlock_17
noncomputable def fX8_hasBlock_16 (fu : Nat) (x0 : Nat) (x1 : Int32) (σ : St) : Option (Int32 × St) :=
  fX8_hasBlock_17 fu x0 x1 (0 : Int32) σ
set_option maxHeartbeats 4000000 in
set_option maxRecDepth 100000 in
theorem tX8_hasBlock_16 {l : Launch} {D : va_G} {cA : ClassId} {bs : Nat} {ad : Nat → Nat} {p : Program} {e : Env} {s : State} {m : MethodId} {args : Array Value} {below : List Frame} {meth : Method} {c : Code} {fu : Nat} (C : Cx D cA bs ad RX8 cX8_hasBlock 2 (some .boolean) p s m args meth c) {x0 : Nat} {x1 : Int32} {q : Int32 × St} (hx0 : xk x0 = 6) {σ : St} (h : fX8_hasBlock_16 fu x0 x1 σ = some q) : Y D cA bs ad p l e (rmY 0 0) s m args below meth c 2 0 0 (QM D cA bs ad below args s (some (.int q.1)) q.2) σ 16 [(0, .ref (ad x0)), (1, .int x1)] [] := by
  unfold fX8_hasBlock_16 at h
  refine y_iconst (pc := 16) (v := (0 : Int32)) C dX8_hasBlock_16 (by decide) ?_
  exact tX8_hasBlock_17 (fu := fu) C hx0 h
noncomputable def fX8_hasBlock_0 (fu : Nat) (x0 : Nat) (x1 : Int32) (σ : St) : Option (Int32 × St) :=
  if x1 < 0 then
    fX8_hasBlock_16 fu x0 x1 σ
  else
    if (σ.1 x0 7) ≤ x1 then
      fX8_hasBlock_16 fu x0 x1 σ
    else
      fX8_hasBlock_17 fu x0 x1 (1 : Int32) σ
set_option maxHeartbeats 4000000 in
set_option maxRecDepth 100000 in
theorem tX8_hasBlock_0 {l : Launch} {D : va_G} {cA : ClassId} {bs : Nat} {ad : Nat → Nat} {p : Program} {e : Env} {s : State} {m : MethodId} {args : Array Value} {below : List Frame} {meth : Method} {c : Code} {fu : Nat} (C : Cx D cA bs ad RX8 cX8_hasBlock 2 (some .boolean) p s m args meth c) {x0 : Nat} {x1 : Int32} {q : Int32 × St} (hx0 : xk x0 = 6) {σ : St} (h : fX8_hasBlock_0 fu x0 x1 σ = some q) : Y D cA bs ad p l e (rmY 0 0) s m args below meth c 2 0 0 (QM D cA bs ad below args s (some (.int q.1)) q.2) σ 0 [(0, .ref (ad x0)), (1, .int x1)] [] := by
  unfold fX8_hasBlock_0 at h
  refine y_iload_n (pc := 0) (q := 1) C dX8_hasBlock_0 rfl rfl ?_
  refine y_if_lt (pc := 1) (tgt := 16) C dX8_hasBlock_1 (by decide) (fun c101 => ?_) (fun c101 => ?_)
  · rw [if_pos c101] at h
    exact tX8_hasBlock_16 (fu := fu) C hx0 h
  · rw [if_neg c101] at h
    refine y_iload_n (pc := 4) (q := 1) C dX8_hasBlock_4 rfl rfl ?_
    refine y_aload_n (pc := 5) (q := 0) C dX8_hasBlock_5 rfl rfl ?_
    refine y_geti (pc := 6) C faX8_33 rfl hx0 dX8_hasBlock_6 ?_
    refine y_icmp_ge (pc := 9) (tgt := 16) C dX8_hasBlock_9 (by decide) (fun c102 => ?_) (fun c102 => ?_)
    · rw [if_pos c102] at h
      exact tX8_hasBlock_16 (fu := fu) C hx0 h
    · rw [if_neg c102] at h
      refine y_iconst (pc := 12) (v := (1 : Int32)) C dX8_hasBlock_12 (by decide) ?_
      refine y_goto (pc := 13) (tgt := 17) C dX8_hasBlock_13 (by decide) ?_
      exact tX8_hasBlock_17 (fu := fu) C hx0 h
noncomputable def fX8_hasBlock (fu : Nat) (x0 : Nat) (x1 : Int32) (σ : St) : Option (Int32 × St) := if xk x0 = 6 then fX8_hasBlock_0 fu x0 x1 σ else none
theorem mX8_hasBlock {l : Launch} {D : va_G} {cA : ClassId} {bs fu : Nat} {ad : Nat → Nat} {x0 : Nat} {x1 : Int32} {σ : St} {q : Int32 × St} (h : fX8_hasBlock fu x0 x1 σ = some q) : Ct l D cA bs ad yX8_hasBlock cX8_hasBlock 2 (some .boolean) 0 0 [.ref (ad x0), .int x1] σ (some (.int q.1)) q.2 := by
  unfold fX8_hasBlock at h
  by_cases hx0 : xk x0 = 6
  case neg => rw [if_neg hx0] at h; cases h
  rw [if_pos hx0] at h
  exact Ct.of (by decide) (Nat.le_of_ble_eq_true rfl) (fun p e s m args below meth c C => tX8_hasBlock_0 (fu := fu) C hx0 h)
noncomputable def fX8_kindOf_0 (fu : Nat) (x0 : Nat) (x1 : Int32) (σ : St) : Option (Int32 × St) :=
  (ald σ (rf x0 0) 7 x1).bind fun (v101 : Int32) =>
  some (v101, σ)
set_option maxHeartbeats 4000000 in
set_option maxRecDepth 100000 in
theorem tX8_kindOf_0 {l : Launch} {D : va_G} {cA : ClassId} {bs : Nat} {ad : Nat → Nat} {p : Program} {e : Env} {s : State} {m : MethodId} {args : Array Value} {below : List Frame} {meth : Method} {c : Code} {fu : Nat} (C : Cx D cA bs ad RX8 cX8_kindOf 2 (some .int) p s m args meth c) {x0 : Nat} {x1 : Int32} {q : Int32 × St} (hx0 : xk x0 = 6) {σ : St} (h : fX8_kindOf_0 fu x0 x1 σ = some q) : Y D cA bs ad p l e (rmY 0 0) s m args below meth c 2 0 0 (QM D cA bs ad below args s (some (.int q.1)) q.2) σ 0 [(0, .ref (ad x0)), (1, .int x1)] [] := by
  unfold fX8_kindOf_0 at h
  refine y_aload_n (pc := 0) (q := 0) C dX8_kindOf_0 rfl rfl ?_
  refine y_getr (pc := 1) C faX8_9 rfl hx0 dX8_kindOf_1 ?_
  refine y_iload_n (pc := 4) (q := 1) C dX8_kindOf_4 rfl rfl ?_
  obtain ⟨v101, ev101, h⟩ := bdS h
  refine y_iald (pc := 5) (n := 7) C (rf_6_0 _ hx0) (by decide) ev101 dX8_kindOf_5 ?_
  cases h
  exact y_iret (pc := 6) C dX8_kindOf_6
noncomputable def fX8_kindOf (fu : Nat) (x0 : Nat) (x1 : Int32) (σ : St) : Option (Int32 × St) := if xk x0 = 6 then fX8_kindOf_0 fu x0 x1 σ else none
theorem mX8_kindOf {l : Launch} {D : va_G} {cA : ClassId} {bs fu : Nat} {ad : Nat → Nat} {x0 : Nat} {x1 : Int32} {σ : St} {q : Int32 × St} (h : fX8_kindOf fu x0 x1 σ = some q) : Ct l D cA bs ad yX8_kindOf cX8_kindOf 2 (some .int) 0 0 [.ref (ad x0), .int x1] σ (some (.int q.1)) q.2 := by
  unfold fX8_kindOf at h
  by_cases hx0 : xk x0 = 6
  case neg => rw [if_neg hx0] at h; cases h
  rw [if_pos hx0] at h
  exact Ct.of (by decide) (Nat.le_of_ble_eq_true rfl) (fun p e s m args below meth c C => tX8_kindOf_0 (fu := fu) C hx0 h)
noncomputable def fX8_wheelsIn_0 (fu : Nat) (x0 : Nat) (x1 : Int32) (σ : St) : Option (Int32 × St) :=
  (ald σ (rf x0 6) 7 x1).bind fun (v101 : Int32) =>
  some (v101, σ)
set_option maxHeartbeats 4000000 in
set_option maxRecDepth 100000 in
theorem tX8_wheelsIn_0 {l : Launch} {D : va_G} {cA : ClassId} {bs : Nat} {ad : Nat → Nat} {p : Program} {e : Env} {s : State} {m : MethodId} {args : Array Value} {below : List Frame} {meth : Method} {c : Code} {fu : Nat} (C : Cx D cA bs ad RX8 cX8_wheelsIn 2 (some .int) p s m args meth c) {x0 : Nat} {x1 : Int32} {q : Int32 × St} (hx0 : xk x0 = 6) {σ : St} (h : fX8_wheelsIn_0 fu x0 x1 σ = some q) : Y D cA bs ad p l e (rmY 0 0) s m args below meth c 2 0 0 (QM D cA bs ad below args s (some (.int q.1)) q.2) σ 0 [(0, .ref (ad x0)), (1, .int x1)] [] := by
  unfold fX8_wheelsIn_0 at h
  refine y_aload_n (pc := 0) (q := 0) C dX8_wheelsIn_0 rfl rfl ?_
  refine y_getr (pc := 1) C faX8_30 rfl hx0 dX8_wheelsIn_1 ?_
  refine y_iload_n (pc := 4) (q := 1) C dX8_wheelsIn_4 rfl rfl ?_
  obtain ⟨v101, ev101, h⟩ := bdS h
  refine y_iald (pc := 5) (n := 7) C (rf_6_6 _ hx0) (by decide) ev101 dX8_wheelsIn_5 ?_
  cases h
  exact y_iret (pc := 6) C dX8_wheelsIn_6
noncomputable def fX8_wheelsIn (fu : Nat) (x0 : Nat) (x1 : Int32) (σ : St) : Option (Int32 × St) := if xk x0 = 6 then fX8_wheelsIn_0 fu x0 x1 σ else none
theorem mX8_wheelsIn {l : Launch} {D : va_G} {cA : ClassId} {bs fu : Nat} {ad : Nat → Nat} {x0 : Nat} {x1 : Int32} {σ : St} {q : Int32 × St} (h : fX8_wheelsIn fu x0 x1 σ = some q) : Ct l D cA bs ad yX8_wheelsIn cX8_wheelsIn 2 (some .int) 0 0 [.ref (ad x0), .int x1] σ (some (.int q.1)) q.2 := by
  unfold fX8_wheelsIn at h
  by_cases hx0 : xk x0 = 6
  case neg => rw [if_neg hx0] at h; cases h
  rw [if_pos hx0] at h
  exact Ct.of (by decide) (Nat.le_of_ble_eq_true rfl) (fun p e s m args below meth c C => tX8_wheelsIn_0 (fu := fu) C hx0 h)
noncomputable def fX8_told_0 (fu : Nat) (x0 : Nat) (x1 : Int32) (x2 : Int32) (σ : St) : Option (Int32 × St) :=
  if x2 = (0 : Int32) then
    (ald σ (rf x0 0) 7 x1).bind fun (v102 : Int32) =>
    some (v102, σ)
  else
  if x2 = (1 : Int32) then
    (ald σ (rf x0 1) 7 x1).bind fun (v104 : Int32) =>
    some (v104, σ)
  else
  if x2 = (2 : Int32) then
    (ald σ (rf x0 2) 7 x1).bind fun (v106 : Int32) =>
    some (v106, σ)
  else
  if x2 = (3 : Int32) then
    (ald σ (rf x0 4) 7 x1).bind fun (v108 : Int32) =>
    some (v108, σ)
  else
  (ald σ (rf x0 3) 7 x1).bind fun (v109 : Int32) =>
  some (v109, σ)
set_option maxHeartbeats 4000000 in
set_option maxRecDepth 100000 in
theorem tX8_told_0 {l : Launch} {D : va_G} {cA : ClassId} {bs : Nat} {ad : Nat → Nat} {p : Program} {e : Env} {s : State} {m : MethodId} {args : Array Value} {below : List Frame} {meth : Method} {c : Code} {fu : Nat} (C : Cx D cA bs ad RX8 cX8_told 3 (some .int) p s m args meth c) {x0 : Nat} {x1 : Int32} {x2 : Int32} {q : Int32 × St} (hx0 : xk x0 = 6) {σ : St} (h : fX8_told_0 fu x0 x1 x2 σ = some q) : Y D cA bs ad p l e (rmY 0 0) s m args below meth c 3 0 0 (QM D cA bs ad below args s (some (.int q.1)) q.2) σ 0 [(0, .ref (ad x0)), (1, .int x1), (2, .int x2)] [] := by
  unfold fX8_told_0 at h
  refine y_iload_n (pc := 0) (q := 2) C dX8_told_0 rfl rfl ?_
  by_cases c101 : x2 = (0 : Int32)
  · rw [if_pos c101] at h
    refine y_tabI (pc := 1) (tgt := 32) (off := 31) C dX8_told_1 (by rw [c101]; decide) (by rw [c101]; decide) (by rw [c101]; decide +kernel) (by decide) ?_
    refine y_aload_n (pc := 32) (q := 0) C dX8_told_32 rfl rfl ?_
    refine y_getr (pc := 33) C faX8_9 rfl hx0 dX8_told_33 ?_
    refine y_iload_n (pc := 36) (q := 1) C dX8_told_36 rfl rfl ?_
    obtain ⟨v102, ev102, h⟩ := bdS h
    refine y_iald (pc := 37) (n := 7) C (rf_6_0 _ hx0) (by decide) ev102 dX8_told_37 ?_
    cases h
    exact y_iret (pc := 38) C dX8_told_38
  rw [if_neg c101] at h
  by_cases c103 : x2 = (1 : Int32)
  · rw [if_pos c103] at h
    refine y_tabI (pc := 1) (tgt := 39) (off := 38) C dX8_told_1 (by rw [c103]; decide) (by rw [c103]; decide) (by rw [c103]; decide +kernel) (by decide) ?_
    refine y_aload_n (pc := 39) (q := 0) C dX8_told_39 rfl rfl ?_
    refine y_getr (pc := 40) C faX8_15 rfl hx0 dX8_told_40 ?_
    refine y_iload_n (pc := 43) (q := 1) C dX8_told_43 rfl rfl ?_
    obtain ⟨v104, ev104, h⟩ := bdS h
    refine y_iald (pc := 44) (n := 7) C (rf_6_1 _ hx0) (by decide) ev104 dX8_told_44 ?_
    cases h
    exact y_iret (pc := 45) C dX8_told_45
  rw [if_neg c103] at h
  by_cases c105 : x2 = (2 : Int32)
  · rw [if_pos c105] at h
    refine y_tabI (pc := 1) (tgt := 46) (off := 45) C dX8_told_1 (by rw [c105]; decide) (by rw [c105]; decide) (by rw [c105]; decide +kernel) (by decide) ?_
    refine y_aload_n (pc := 46) (q := 0) C dX8_told_46 rfl rfl ?_
    refine y_getr (pc := 47) C faX8_18 rfl hx0 dX8_told_47 ?_
    refine y_iload_n (pc := 50) (q := 1) C dX8_told_50 rfl rfl ?_
    obtain ⟨v106, ev106, h⟩ := bdS h
    refine y_iald (pc := 51) (n := 7) C (rf_6_2 _ hx0) (by decide) ev106 dX8_told_51 ?_
    cases h
    exact y_iret (pc := 52) C dX8_told_52
  rw [if_neg c105] at h
  by_cases c107 : x2 = (3 : Int32)
  · rw [if_pos c107] at h
    refine y_tabI (pc := 1) (tgt := 53) (off := 52) C dX8_told_1 (by rw [c107]; decide) (by rw [c107]; decide) (by rw [c107]; decide +kernel) (by decide) ?_
    refine y_aload_n (pc := 53) (q := 0) C dX8_told_53 rfl rfl ?_
    refine y_getr (pc := 54) C faX8_24 rfl hx0 dX8_told_54 ?_
    refine y_iload_n (pc := 57) (q := 1) C dX8_told_57 rfl rfl ?_
    obtain ⟨v108, ev108, h⟩ := bdS h
    refine y_iald (pc := 58) (n := 7) C (rf_6_4 _ hx0) (by decide) ev108 dX8_told_58 ?_
    cases h
    exact y_iret (pc := 59) C dX8_told_59
  rw [if_neg c107] at h
  refine y_tabO (pc := 1) (tgt := 60) C dX8_told_1 (by have := lv_neT (a := 0) c101 (by decide); have := lv_neT (a := 1) c103 (by decide); have := lv_neT (a := 2) c105 (by decide); have := lv_neT (a := 3) c107 (by decide); omega) (by decide) ?_
  refine y_aload_n (pc := 60) (q := 0) C dX8_told_60 rfl rfl ?_
  refine y_getr (pc := 61) C faX8_21 rfl hx0 dX8_told_61 ?_
  refine y_iload_n (pc := 64) (q := 1) C dX8_told_64 rfl rfl ?_
  obtain ⟨v109, ev109, h⟩ := bdS h
  refine y_iald (pc := 65) (n := 7) C (rf_6_3 _ hx0) (by decide) ev109 dX8_told_65 ?_
  cases h
  exact y_iret (pc := 66) C dX8_told_66
noncomputable def fX8_told (fu : Nat) (x0 : Nat) (x1 : Int32) (x2 : Int32) (σ : St) : Option (Int32 × St) := if xk x0 = 6 then fX8_told_0 fu x0 x1 x2 σ else none
theorem mX8_told {l : Launch} {D : va_G} {cA : ClassId} {bs fu : Nat} {ad : Nat → Nat} {x0 : Nat} {x1 : Int32} {x2 : Int32} {σ : St} {q : Int32 × St} (h : fX8_told fu x0 x1 x2 σ = some q) : Ct l D cA bs ad yX8_told cX8_told 3 (some .int) 0 0 [.ref (ad x0), .int x1, .int x2] σ (some (.int q.1)) q.2 := by
  unfold fX8_told at h
  by_cases hx0 : xk x0 = 6
  case neg => rw [if_neg hx0] at h; cases h
  rw [if_pos hx0] at h
  exact Ct.of (by decide) (Nat.le_of_ble_eq_true rfl) (fun p e s m args below meth c C => tX8_told_0 (fu := fu) C hx0 h)
noncomputable def fX8_add_0 (fu : Nat) (x0 : Nat) (x1 : Int32) (x2 : Int32) (x3 : Int32) (σ : St) : Option (Int32 × St) :=
  if (σ.1 x0 7) < (7 : Int32) then
    nm (σ.1 x0 7) fun (y102 : Int32) =>
    (ast σ (rf x0 0) 7 y102 x1).bind fun (σ103 : St) =>
    (ast σ103 (rf x0 1) 7 y102 x2).bind fun (σ104 : St) =>
    (ast σ104 (rf x0 2) 7 y102 x3).bind fun (σ105 : St) =>
    (ast σ105 (rf x0 3) 7 y102 (-1 : Int32)).bind fun (σ106 : St) =>
    (fX8_put fu x0 y102 y102 σ106).bind fun (q107 : St) =>
    nm (si q107 x0 7 ((q107.1 x0 7) + (1 : Int32))) fun (σ108 : St) =>
    some (y102, σ108)
  else
    some ((-104 : Int32), σ)
set_option maxHeartbeats 4000000 in
set_option maxRecDepth 100000 in
theorem tX8_add_0 {l : Launch} {D : va_G} {cA : ClassId} {bs : Nat} {ad : Nat → Nat} {p : Program} {e : Env} {s : State} {m : MethodId} {args : Array Value} {below : List Frame} {meth : Method} {c : Code} {fu : Nat} (C : Cx D cA bs ad RX8 cX8_add 5 (some .int) p s m args meth c) {x0 : Nat} {x1 : Int32} {x2 : Int32} {x3 : Int32} {q : Int32 × St} (hx0 : xk x0 = 6) {σ : St} (h : fX8_add_0 fu x0 x1 x2 x3 σ = some q) : Y D cA bs ad p l e (rmY 1 22) s m args below meth c 5 0 0 (QM D cA bs ad below args s (some (.int q.1)) q.2) σ 0 [(0, .ref (ad x0)), (1, .int x1), (2, .int x2), (3, .int x3)] [] := by
  unfold fX8_add_0 at h
  refine y_aload_n (pc := 0) (q := 0) C dX8_add_0 rfl rfl ?_
  refine y_geti (pc := 1) C faX8_33 rfl hx0 dX8_add_1 ?_
  refine y_bipush (pc := 4) (v := (7 : Int32)) C dX8_add_4 (by decide) ?_
  refine y_icmp_lt (pc := 6) (tgt := 12) C dX8_add_6 (by decide) (fun c101 => ?_) (fun c101 => ?_)
  · rw [if_pos c101] at h
    refine y_aload_n (pc := 12) (q := 0) C dX8_add_12 rfl rfl ?_
    refine y_geti (pc := 13) C faX8_33 rfl hx0 dX8_add_13 ?_
    obtain ⟨y102, ey102, h⟩ := nmS h
    refine y_nmI y102 ey102 ?_
    refine y_istore (pc := 16) (lv' := [(4, .int y102), (0, .ref (ad x0)), (1, .int x1), (2, .int x2), (3, .int x3)]) C dX8_add_16 (by decide) rfl ?_
    refine y_aload_n (pc := 18) (q := 1) C dX8_add_18 rfl rfl ?_
    refine y_getr (pc := 19) C faX8_9 rfl hx0 dX8_add_19 ?_
    refine y_iload (pc := 22) (q := 0) C dX8_add_22 rfl ?_
    refine y_iload_n (pc := 24) (q := 2) C dX8_add_24 rfl rfl ?_
    obtain ⟨σ103, eσ103, h⟩ := bdS h
    refine y_iast (pc := 25) (n := 7) C (rf_6_0 _ hx0) (by decide) eσ103 dX8_add_25 ?_
    refine y_aload_n (pc := 26) (q := 1) C dX8_add_26 rfl rfl ?_
    refine y_getr (pc := 27) C faX8_15 rfl hx0 dX8_add_27 ?_
    refine y_iload (pc := 30) (q := 0) C dX8_add_30 rfl ?_
    refine y_iload_n (pc := 32) (q := 3) C dX8_add_32 rfl rfl ?_
    obtain ⟨σ104, eσ104, h⟩ := bdS h
    refine y_iast (pc := 33) (n := 7) C (rf_6_1 _ hx0) (by decide) eσ104 dX8_add_33 ?_
    refine y_aload_n (pc := 34) (q := 1) C dX8_add_34 rfl rfl ?_
    refine y_getr (pc := 35) C faX8_18 rfl hx0 dX8_add_35 ?_
    refine y_iload (pc := 38) (q := 0) C dX8_add_38 rfl ?_
    refine y_iload_n (pc := 40) (q := 4) C dX8_add_40 rfl rfl ?_
    obtain ⟨σ105, eσ105, h⟩ := bdS h
    refine y_iast (pc := 41) (n := 7) C (rf_6_2 _ hx0) (by decide) eσ105 dX8_add_41 ?_
    refine y_aload_n (pc := 42) (q := 1) C dX8_add_42 rfl rfl ?_
    refine y_getr (pc := 43) C faX8_21 rfl hx0 dX8_add_43 ?_
    refine y_iload (pc := 46) (q := 0) C dX8_add_46 rfl ?_
    refine y_iconst (pc := 48) (v := (-1 : Int32)) C dX8_add_48 (by decide) ?_
    obtain ⟨σ106, eσ106, h⟩ := bdS h
    refine y_iast (pc := 49) (n := 7) C (rf_6_3 _ hx0) (by decide) eσ106 dX8_add_49 ?_
    refine y_aload_n (pc := 50) (q := 1) C dX8_add_50 rfl rfl ?_
    refine y_iload (pc := 51) (q := 0) C dX8_add_51 rfl ?_
    refine y_iload (pc := 53) (q := 0) C dX8_add_53 rfl ?_
    obtain ⟨q107, eq107, h⟩ := bdS h
    refine y_callV (pc := 55) (As := [.int y102, .int y102]) (rest := []) C (mX8_put (fu := fu) eq107) vwX8_37 rfl (by decide) hx0 rfl rfl (Nat.le_of_ble_eq_true rfl) ⟨Nat.le_of_ble_eq_true rfl, Nat.le_of_ble_eq_true rfl⟩ ⟨Nat.le_refl _, Nat.le_refl _⟩ dX8_add_55 ?_
    show Y _ _ _ _ _ _ _ _ _ _ _ _ _ _ _ _ _ _ q107 58 [(4, .int y102), (0, .ref (ad x0)), (1, .int x1), (2, .int x2), (3, .int x3)] []
    refine y_aload_n (pc := 58) (q := 1) C dX8_add_58 rfl rfl ?_
    refine y_dup (pc := 59) C dX8_add_59 rfl ?_
    refine y_geti (pc := 60) C faX8_33 rfl hx0 dX8_add_60 ?_
    refine y_iconst (pc := 63) (v := (1 : Int32)) C dX8_add_63 (by decide) ?_
    refine y_iadd (pc := 64) C dX8_add_64 ?_
    obtain ⟨σ108, eσ108, h⟩ := nmS h
    refine y_puti (pc := 65) C fpX8_33 rfl hx0 rfl rfl dX8_add_65 ?_
    rw [← eσ108]
    refine y_iload (pc := 68) (q := 0) C dX8_add_68 rfl ?_
    cases h
    exact y_iret (pc := 70) C dX8_add_70
  · rw [if_neg c101] at h
    refine y_bipush (pc := 9) (v := (-104 : Int32)) C dX8_add_9 (by decide) ?_
    cases h
    exact y_iret (pc := 11) C dX8_add_11
noncomputable def fX8_add (fu : Nat) (x0 : Nat) (x1 : Int32) (x2 : Int32) (x3 : Int32) (σ : St) : Option (Int32 × St) := if xk x0 = 6 then fX8_add_0 fu x0 x1 x2 x3 σ else none
theorem mX8_add {l : Launch} {D : va_G} {cA : ClassId} {bs fu : Nat} {ad : Nat → Nat} {x0 : Nat} {x1 : Int32} {x2 : Int32} {x3 : Int32} {σ : St} {q : Int32 × St} (h : fX8_add fu x0 x1 x2 x3 σ = some q) : Ct l D cA bs ad yX8_add cX8_add 5 (some .int) 1 22 [.ref (ad x0), .int x1, .int x2, .int x3] σ (some (.int q.1)) q.2 := by
  unfold fX8_add at h
  by_cases hx0 : xk x0 = 6
  case neg => rw [if_neg hx0] at h; cases h
  rw [if_pos hx0] at h
  exact Ct.of (by decide) (Nat.le_of_ble_eq_true rfl) (fun p e s m args below meth c C => tX8_add_0 (fu := fu) C hx0 h)
noncomputable def fX8_takeAway_38b (fu : Nat) (k38 : Int32 → St → Option (St)) (x0 : Nat) (x1 : Int32) (x2 : Int32) (σ : St) : Option (St) :=
  if (σ.1 x0 7) ≤ (x2 + (1 : Int32)) then
    nm (si σ x0 7 ((σ.1 x0 7) - (1 : Int32))) fun (σ102 : St) =>
    some σ102
  else
    (ald σ (rf x0 0) 7 (x2 + (1 : Int32))).bind fun (v103 : Int32) =>
    (ast σ (rf x0 0) 7 x2 v103).bind fun (σ104 : St) =>
    (ald σ104 (rf x0 1) 7 (x2 + (1 : Int32))).bind fun (v105 : Int32) =>
    (ast σ104 (rf x0 1) 7 x2 v105).bind fun (σ106 : St) =>
    (ald σ106 (rf x0 2) 7 (x2 + (1 : Int32))).bind fun (v107 : Int32) =>
    (ast σ106 (rf x0 2) 7 x2 v107).bind fun (σ108 : St) =>
    (ald σ108 (rf x0 3) 7 (x2 + (1 : Int32))).bind fun (v109 : Int32) =>
    (ast σ108 (rf x0 3) 7 x2 v109).bind fun (σ110 : St) =>
    (ald σ110 (rf x0 4) 7 (x2 + (1 : Int32))).bind fun (v111 : Int32) =>
    (fX8_put fu x0 x2 v111 σ110).bind fun (q112 : St) =>
    nm (x2 + (1 : Int32)) fun (y113 : Int32) =>
    k38 y113 q112
set_option maxHeartbeats 4000000 in
set_option maxRecDepth 100000 in
theorem tX8_takeAway_38b {l : Launch} {D : va_G} {cA : ClassId} {bs : Nat} {ad : Nat → Nat} {p : Program} {e : Env} {s : State} {m : MethodId} {args : Array Value} {below : List Frame} {meth : Method} {c : Code} {fu : Nat} (C : Cx D cA bs ad RX8 cX8_takeAway 3 none p s m args meth c) {k38 : Int32 → St → Option (St)} {x0 : Nat} {x1 : Int32} {x2 : Int32} {q : St} (hx0 : xk x0 = 6) (hk38 : ∀ (x2 : Int32) (σ : St), k38 x2 σ = some q → Y D cA bs ad p l e (rmY 1 22) s m args below meth c 3 0 0 (QM D cA bs ad below args s none q) σ 38 [(0, .ref (ad x0)), (1, .int x1), (2, .int x2)] []) {σ : St} (h : fX8_takeAway_38b fu k38 x0 x1 x2 σ = some q) : Y D cA bs ad p l e (rmY 1 22) s m args below meth c 3 0 0 (QM D cA bs ad below args s none q) σ 38 [(0, .ref (ad x0)), (1, .int x1), (2, .int x2)] [] := by
  unfold fX8_takeAway_38b at h
  refine y_iload_n (pc := 38) (q := 2) C dX8_takeAway_38 rfl rfl ?_
  refine y_iconst (pc := 39) (v := (1 : Int32)) C dX8_takeAway_39 (by decide) ?_
  refine y_iadd (pc := 40) C dX8_takeAway_40 ?_
  refine y_aload_n (pc := 41) (q := 0) C dX8_takeAway_41 rfl rfl ?_
  refine y_geti (pc := 42) C faX8_33 rfl hx0 dX8_takeAway_42 ?_
  refine y_icmp_ge (pc := 45) (tgt := 123) C dX8_takeAway_45 (by decide) (fun c101 => ?_) (fun c101 => ?_)
  · rw [if_pos c101] at h
    refine y_aload_n (pc := 123) (q := 0) C dX8_takeAway_123 rfl rfl ?_
    refine y_dup (pc := 124) C dX8_takeAway_124 rfl ?_
    refine y_geti (pc := 125) C faX8_33 rfl hx0 dX8_takeAway_125 ?_
    refine y_iconst (pc := 128) (v := (1 : Int32)) C dX8_takeAway_128 (by decide) ?_
    refine y_isub (pc := 129) C dX8_takeAway_129 ?_
    obtain ⟨σ102, eσ102, h⟩ := nmS h
    refine y_puti (pc := 130) C fpX8_33 rfl hx0 rfl rfl dX8_takeAway_130 ?_
    rw [← eσ102]
    cases h
    exact y_vret (pc := 133) C dX8_takeAway_133
  · rw [if_neg c101] at h
    refine y_aload_n (pc := 48) (q := 0) C dX8_takeAway_48 rfl rfl ?_
    refine y_getr (pc := 49) C faX8_9 rfl hx0 dX8_takeAway_49 ?_
    refine y_iload_n (pc := 52) (q := 2) C dX8_takeAway_52 rfl rfl ?_
    refine y_aload_n (pc := 53) (q := 0) C dX8_takeAway_53 rfl rfl ?_
    refine y_getr (pc := 54) C faX8_9 rfl hx0 dX8_takeAway_54 ?_
    refine y_iload_n (pc := 57) (q := 2) C dX8_takeAway_57 rfl rfl ?_
    refine y_iconst (pc := 58) (v := (1 : Int32)) C dX8_takeAway_58 (by decide) ?_
    refine y_iadd (pc := 59) C dX8_takeAway_59 ?_
    obtain ⟨v103, ev103, h⟩ := bdS h
    refine y_iald (pc := 60) (n := 7) C (rf_6_0 _ hx0) (by decide) ev103 dX8_takeAway_60 ?_
    obtain ⟨σ104, eσ104, h⟩ := bdS h
    refine y_iast (pc := 61) (n := 7) C (rf_6_0 _ hx0) (by decide) eσ104 dX8_takeAway_61 ?_
    refine y_aload_n (pc := 62) (q := 0) C dX8_takeAway_62 rfl rfl ?_
    refine y_getr (pc := 63) C faX8_15 rfl hx0 dX8_takeAway_63 ?_
    refine y_iload_n (pc := 66) (q := 2) C dX8_takeAway_66 rfl rfl ?_
    refine y_aload_n (pc := 67) (q := 0) C dX8_takeAway_67 rfl rfl ?_
    refine y_getr (pc := 68) C faX8_15 rfl hx0 dX8_takeAway_68 ?_
    refine y_iload_n (pc := 71) (q := 2) C dX8_takeAway_71 rfl rfl ?_
    refine y_iconst (pc := 72) (v := (1 : Int32)) C dX8_takeAway_72 (by decide) ?_
    refine y_iadd (pc := 73) C dX8_takeAway_73 ?_
    obtain ⟨v105, ev105, h⟩ := bdS h
    refine y_iald (pc := 74) (n := 7) C (rf_6_1 _ hx0) (by decide) ev105 dX8_takeAway_74 ?_
    obtain ⟨σ106, eσ106, h⟩ := bdS h
    refine y_iast (pc := 75) (n := 7) C (rf_6_1 _ hx0) (by decide) eσ106 dX8_takeAway_75 ?_
    refine y_aload_n (pc := 76) (q := 0) C dX8_takeAway_76 rfl rfl ?_
    refine y_getr (pc := 77) C faX8_18 rfl hx0 dX8_takeAway_77 ?_
    refine y_iload_n (pc := 80) (q := 2) C dX8_takeAway_80 rfl rfl ?_
    refine y_aload_n (pc := 81) (q := 0) C dX8_takeAway_81 rfl rfl ?_
    refine y_getr (pc := 82) C faX8_18 rfl hx0 dX8_takeAway_82 ?_
    refine y_iload_n (pc := 85) (q := 2) C dX8_takeAway_85 rfl rfl ?_
    refine y_iconst (pc := 86) (v := (1 : Int32)) C dX8_takeAway_86 (by decide) ?_
    refine y_iadd (pc := 87) C dX8_takeAway_87 ?_
    obtain ⟨v107, ev107, h⟩ := bdS h
    refine y_iald (pc := 88) (n := 7) C (rf_6_2 _ hx0) (by decide) ev107 dX8_takeAway_88 ?_
    obtain ⟨σ108, eσ108, h⟩ := bdS h
    refine y_iast (pc := 89) (n := 7) C (rf_6_2 _ hx0) (by decide) eσ108 dX8_takeAway_89 ?_
    refine y_aload_n (pc := 90) (q := 0) C dX8_takeAway_90 rfl rfl ?_
    refine y_getr (pc := 91) C faX8_21 rfl hx0 dX8_takeAway_91 ?_
    refine y_iload_n (pc := 94) (q := 2) C dX8_takeAway_94 rfl rfl ?_
    refine y_aload_n (pc := 95) (q := 0) C dX8_takeAway_95 rfl rfl ?_
    refine y_getr (pc := 96) C faX8_21 rfl hx0 dX8_takeAway_96 ?_
    refine y_iload_n (pc := 99) (q := 2) C dX8_takeAway_99 rfl rfl ?_
    refine y_iconst (pc := 100) (v := (1 : Int32)) C dX8_takeAway_100 (by decide) ?_
    refine y_iadd (pc := 101) C dX8_takeAway_101 ?_
    obtain ⟨v109, ev109, h⟩ := bdS h
    refine y_iald (pc := 102) (n := 7) C (rf_6_3 _ hx0) (by decide) ev109 dX8_takeAway_102 ?_
    obtain ⟨σ110, eσ110, h⟩ := bdS h
    refine y_iast (pc := 103) (n := 7) C (rf_6_3 _ hx0) (by decide) eσ110 dX8_takeAway_103 ?_
    refine y_aload_n (pc := 104) (q := 0) C dX8_takeAway_104 rfl rfl ?_
    refine y_iload_n (pc := 105) (q := 2) C dX8_takeAway_105 rfl rfl ?_
    refine y_aload_n (pc := 106) (q := 0) C dX8_takeAway_106 rfl rfl ?_
    refine y_getr (pc := 107) C faX8_24 rfl hx0 dX8_takeAway_107 ?_
    refine y_iload_n (pc := 110) (q := 2) C dX8_takeAway_110 rfl rfl ?_
    refine y_iconst (pc := 111) (v := (1 : Int32)) C dX8_takeAway_111 (by decide) ?_
    refine y_iadd (pc := 112) C dX8_takeAway_112 ?_
    obtain ⟨v111, ev111, h⟩ := bdS h
    refine y_iald (pc := 113) (n := 7) C (rf_6_4 _ hx0) (by decide) ev111 dX8_takeAway_113 ?_
    obtain ⟨q112, eq112, h⟩ := bdS h
    refine y_callV (pc := 114) (As := [.int x2, .int v111]) (rest := []) C (mX8_put (fu := fu) eq112) vwX8_37 rfl (by decide) hx0 rfl rfl (Nat.le_of_ble_eq_true rfl) ⟨Nat.le_of_ble_eq_true rfl, Nat.le_of_ble_eq_true rfl⟩ ⟨Nat.le_refl _, Nat.le_refl _⟩ dX8_takeAway_114 ?_
    show Y _ _ _ _ _ _ _ _ _ _ _ _ _ _ _ _ _ _ q112 117 [(0, .ref (ad x0)), (1, .int x1), (2, .int x2)] []
    obtain ⟨y113, ey113, h⟩ := nmS h
    refine y_iinc (pc := 117) (v := y113) (k := 2) (lv' := [(2, .int y113), (0, .ref (ad x0)), (1, .int x1)]) C dX8_takeAway_117 rfl (by rw [ey113]; rfl) (by decide) rfl ?_
    refine y_goto (pc := 120) (tgt := 38) C dX8_takeAway_120 (by decide) ?_
    refine y_sub [1, 2, 0] (lv' := [(0, .ref (ad x0)), (1, .int x1), (2, .int y113)]) rfl ?_
    exact hk38 _ _ h
noncomputable def fX8_takeAway_38 (fu : Nat) (x0 : Nat) (x1 : Int32) : Nat → Int32 → St → Option (St) := lp (fun k38 => fX8_takeAway_38b fu k38 x0 x1) (fun _ _ => none)
set_option maxHeartbeats 4000000 in
theorem tX8_takeAway_38 {l : Launch} {D : va_G} {cA : ClassId} {bs : Nat} {ad : Nat → Nat} {p : Program} {e : Env} {s : State} {m : MethodId} {args : Array Value} {below : List Frame} {meth : Method} {c : Code} {fu : Nat} (C : Cx D cA bs ad RX8 cX8_takeAway 3 none p s m args meth c) {x0 : Nat} {x1 : Int32} {q : St} (hx0 : xk x0 = 6)  : ∀ (n : Nat) (x2 : Int32) (σ : St), fX8_takeAway_38 fu  x0 x1 n x2 σ = some q → Y D cA bs ad p l e (rmY 1 22) s m args below meth c 3 0 0 (QM D cA bs ad below args s none q) σ 38 [(0, .ref (ad x0)), (1, .int x1), (2, .int x2)] [] := by
  intro n
  induction n with
  | zero => intro x2 σ h; cases h
  | succ n ih => intro x2 σ h; exact tX8_takeAway_38b (fu := fu) C hx0 ih h
noncomputable def fX8_takeAway_7b (fu : Nat) (k7 : Int32 → St → Option (St)) (x0 : Nat) (x1 : Int32) (x2 : Int32) (σ : St) : Option (St) :=
  if (σ.1 x0 7) ≤ (x2 + (1 : Int32)) then
    fX8_takeAway_38 fu x0 x1 fu x1 σ
  else
    (ald σ (rf x0 5) 7 (x2 + (1 : Int32))).bind fun (v102 : Int32) =>
    (fX8_put fu x0 v102 x2 σ).bind fun (q103 : St) =>
    nm (x2 + (1 : Int32)) fun (y104 : Int32) =>
    k7 y104 q103
set_option maxHeartbeats 4000000 in
set_option maxRecDepth 100000 in
theorem tX8_takeAway_7b {l : Launch} {D : va_G} {cA : ClassId} {bs : Nat} {ad : Nat → Nat} {p : Program} {e : Env} {s : State} {m : MethodId} {args : Array Value} {below : List Frame} {meth : Method} {c : Code} {fu : Nat} (C : Cx D cA bs ad RX8 cX8_takeAway 3 none p s m args meth c) {k7 : Int32 → St → Option (St)} {x0 : Nat} {x1 : Int32} {x2 : Int32} {q : St} (hx0 : xk x0 = 6) (hk7 : ∀ (x2 : Int32) (σ : St), k7 x2 σ = some q → Y D cA bs ad p l e (rmY 1 22) s m args below meth c 3 0 0 (QM D cA bs ad below args s none q) σ 7 [(0, .ref (ad x0)), (1, .int x1), (2, .int x2)] []) {σ : St} (h : fX8_takeAway_7b fu k7 x0 x1 x2 σ = some q) : Y D cA bs ad p l e (rmY 1 22) s m args below meth c 3 0 0 (QM D cA bs ad below args s none q) σ 7 [(0, .ref (ad x0)), (1, .int x1), (2, .int x2)] [] := by
  unfold fX8_takeAway_7b at h
  refine y_iload_n (pc := 7) (q := 2) C dX8_takeAway_7 rfl rfl ?_
  refine y_iconst (pc := 8) (v := (1 : Int32)) C dX8_takeAway_8 (by decide) ?_
  refine y_iadd (pc := 9) C dX8_takeAway_9 ?_
  refine y_aload_n (pc := 10) (q := 0) C dX8_takeAway_10 rfl rfl ?_
  refine y_geti (pc := 11) C faX8_33 rfl hx0 dX8_takeAway_11 ?_
  refine y_icmp_ge (pc := 14) (tgt := 36) C dX8_takeAway_14 (by decide) (fun c101 => ?_) (fun c101 => ?_)
  · rw [if_pos c101] at h
    refine y_iload_n (pc := 36) (q := 1) C dX8_takeAway_36 rfl rfl ?_
    refine y_istore_n (pc := 37) (lv' := [(2, .int x1), (0, .ref (ad x0)), (1, .int x1)]) C dX8_takeAway_37 rfl (by decide) rfl ?_
    refine y_sub [1, 2, 0] (lv' := [(0, .ref (ad x0)), (1, .int x1), (2, .int x1)]) rfl ?_
    exact tX8_takeAway_38 (fu := fu) C hx0 fu _ _ h
  · rw [if_neg c101] at h
    refine y_aload_n (pc := 17) (q := 0) C dX8_takeAway_17 rfl rfl ?_
    refine y_aload_n (pc := 18) (q := 0) C dX8_takeAway_18 rfl rfl ?_
    refine y_getr (pc := 19) C faX8_27 rfl hx0 dX8_takeAway_19 ?_
    refine y_iload_n (pc := 22) (q := 2) C dX8_takeAway_22 rfl rfl ?_
    refine y_iconst (pc := 23) (v := (1 : Int32)) C dX8_takeAway_23 (by decide) ?_
    refine y_iadd (pc := 24) C dX8_takeAway_24 ?_
    obtain ⟨v102, ev102, h⟩ := bdS h
    refine y_iald (pc := 25) (n := 7) C (rf_6_5 _ hx0) (by decide) ev102 dX8_takeAway_25 ?_
    refine y_iload_n (pc := 26) (q := 2) C dX8_takeAway_26 rfl rfl ?_
    obtain ⟨q103, eq103, h⟩ := bdS h
    refine y_callV (pc := 27) (As := [.int v102, .int x2]) (rest := []) C (mX8_put (fu := fu) eq103) vwX8_37 rfl (by decide) hx0 rfl rfl (Nat.le_of_ble_eq_true rfl) ⟨Nat.le_of_ble_eq_true rfl, Nat.le_of_ble_eq_true rfl⟩ ⟨Nat.le_refl _, Nat.le_refl _⟩ dX8_takeAway_27 ?_
    show Y _ _ _ _ _ _ _ _ _ _ _ _ _ _ _ _ _ _ q103 30 [(0, .ref (ad x0)), (1, .int x1), (2, .int x2)] []
    obtain ⟨y104, ey104, h⟩ := nmS h
    refine y_iinc (pc := 30) (v := y104) (k := 2) (lv' := [(2, .int y104), (0, .ref (ad x0)), (1, .int x1)]) C dX8_takeAway_30 rfl (by rw [ey104]; rfl) (by decide) rfl ?_
    refine y_goto (pc := 33) (tgt := 7) C dX8_takeAway_33 (by decide) ?_
    refine y_sub [1, 2, 0] (lv' := [(0, .ref (ad x0)), (1, .int x1), (2, .int y104)]) rfl ?_
    exact hk7 _ _ h
noncomputable def fX8_takeAway_7 (fu : Nat) (x0 : Nat) (x1 : Int32) : Nat → Int32 → St → Option (St) := lp (fun k7 => fX8_takeAway_7b fu k7 x0 x1) (fun _ _ => none)
set_option maxHeartbeats 4000000 in
theorem tX8_takeAway_7 {l : Launch} {D : va_G} {cA : ClassId} {bs : Nat} {ad : Nat → Nat} {p : Program} {e : Env} {s : State} {m : MethodId} {args : Array Value} {below : List Frame} {meth : Method} {c : Code} {fu : Nat} (C : Cx D cA bs ad RX8 cX8_takeAway 3 none p s m args meth c) {x0 : Nat} {x1 : Int32} {q : St} (hx0 : xk x0 = 6)  : ∀ (n : Nat) (x2 : Int32) (σ : St), fX8_takeAway_7 fu  x0 x1 n x2 σ = some q → Y D cA bs ad p l e (rmY 1 22) s m args below meth c 3 0 0 (QM D cA bs ad below args s none q) σ 7 [(0, .ref (ad x0)), (1, .int x1), (2, .int x2)] [] := by
  intro n
  induction n with
  | zero => intro x2 σ h; cases h
  | succ n ih => intro x2 σ h; exact tX8_takeAway_7b (fu := fu) C hx0 ih h
noncomputable def fX8_takeAway_0 (fu : Nat) (x0 : Nat) (x1 : Int32) (σ : St) : Option (St) :=
  (ald σ (rf x0 4) 7 x1).bind fun (v101 : Int32) =>
  fX8_takeAway_7 fu x0 x1 fu v101 σ
set_option maxHeartbeats 4000000 in
set_option maxRecDepth 100000 in
theorem tX8_takeAway_0 {l : Launch} {D : va_G} {cA : ClassId} {bs : Nat} {ad : Nat → Nat} {p : Program} {e : Env} {s : State} {m : MethodId} {args : Array Value} {below : List Frame} {meth : Method} {c : Code} {fu : Nat} (C : Cx D cA bs ad RX8 cX8_takeAway 3 none p s m args meth c) {x0 : Nat} {x1 : Int32} {q : St} (hx0 : xk x0 = 6) {σ : St} (h : fX8_takeAway_0 fu x0 x1 σ = some q) : Y D cA bs ad p l e (rmY 1 22) s m args below meth c 3 0 0 (QM D cA bs ad below args s none q) σ 0 [(0, .ref (ad x0)), (1, .int x1)] [] := by
  unfold fX8_takeAway_0 at h
  refine y_aload_n (pc := 0) (q := 0) C dX8_takeAway_0 rfl rfl ?_
  refine y_getr (pc := 1) C faX8_24 rfl hx0 dX8_takeAway_1 ?_
  refine y_iload_n (pc := 4) (q := 1) C dX8_takeAway_4 rfl rfl ?_
  obtain ⟨v101, ev101, h⟩ := bdS h
  refine y_iald (pc := 5) (n := 7) C (rf_6_4 _ hx0) (by decide) ev101 dX8_takeAway_5 ?_
  refine y_istore_n (pc := 6) (lv' := [(2, .int v101), (0, .ref (ad x0)), (1, .int x1)]) C dX8_takeAway_6 rfl (by decide) rfl ?_
  refine y_sub [1, 2, 0] (lv' := [(0, .ref (ad x0)), (1, .int x1), (2, .int v101)]) rfl ?_
  exact tX8_takeAway_7 (fu := fu) C hx0 fu _ _ h
noncomputable def fX8_takeAway (fu : Nat) (x0 : Nat) (x1 : Int32) (σ : St) : Option (St) := if xk x0 = 6 then fX8_takeAway_0 fu x0 x1 σ else none
theorem mX8_takeAway {l : Launch} {D : va_G} {cA : ClassId} {bs fu : Nat} {ad : Nat → Nat} {x0 : Nat} {x1 : Int32} {σ : St} {q : St} (h : fX8_takeAway fu x0 x1 σ = some q) : Ct l D cA bs ad yX8_takeAway cX8_takeAway 3 none 1 22 [.ref (ad x0), .int x1] σ none q := by
  unfold fX8_takeAway at h
  by_cases hx0 : xk x0 = 6
  case neg => rw [if_neg hx0] at h; cases h
  rw [if_pos hx0] at h
  exact Ct.of (by decide) (Nat.le_of_ble_eq_true rfl) (fun p e s m args below meth c C => tX8_takeAway_0 (fu := fu) C hx0 h)
