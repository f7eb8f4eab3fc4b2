noncomputable def fX5_isIn_14 (fu : Nat) (x0 : Int32) (x1 : Int32) (s0 : Int32) (σ : St) : Option (Int32 × St) :=
  if s0 = 0 ∨ s0 = 1 then some (s0, σ) else none
set_option maxHeartbeats 4000000 in
set_option maxRecDepth 100000 in
theorem tX5_isIn_14 {l : Launch} {D : va_G} {cA : ClassId} {bs : Nat} {ad : Nat → Nat} {p : Program} {e : Env} {s : State} {m : MethodId} {args : Array Value} {below : List Frame} {meth : Method} {c : Code} {fu : Nat} (C : Cx D cA bs ad RX5 cX5_isIn 2 (some .boolean) p s m args meth c) {x0 : Int32} {x1 : Int32} {s0 : Int32} {q : Int32 × St} {σ : St} (h : fX5_isIn_14 fu x0 x1 s0 σ = some q) : Y D cA bs ad p l e (rmY 0 0) s m args below meth c 2 0 0 (QM D cA bs ad below args s (some (.int q.1)) q.2) σ 14 [(0, .int x0), (1, .int x1)] [.int s0] := by
  unfold fX5_isIn_14 at h
  by_cases c101 : s0 = 0 ∨ s0 = 1
  case neg => rw [if_neg c101] at h; cases h
  rw [if_pos c101] at h
  cases h
  exact y_zret (pc := 14) C c101 dX5_isIn_14
noncomputable def fX5_isIn_0 (fu : Nat) (x0 : Int32) (x1 : Int32) (σ : St) : Option (Int32 × St) :=
  if ((x0 >>> (x1 &&& 31)) &&& (1 : Int32)) = (1 : Int32) then
    fX5_isIn_14 fu x0 x1 (1 : Int32) σ
  else
    fX5_isIn_14 fu x0 x1 (0 : Int32) σ
set_option maxHeartbeats 4000000 in
set_option maxRecDepth 100000 in
theorem tX5_isIn_0 {l : Launch} {D : va_G} {cA : ClassId} {bs : Nat} {ad : Nat → Nat} {p : Program} {e : Env} {s : State} {m : MethodId} {args : Array Value} {below : List Frame} {meth : Method} {c : Code} {fu : Nat} (C : Cx D cA bs ad RX5 cX5_isIn 2 (some .boolean) p s m args meth c) {x0 : Int32} {x1 : Int32} {q : Int32 × St} {σ : St} (h : fX5_isIn_0 fu x0 x1 σ = some q) : Y D cA bs ad p l e (rmY 0 0) s m args below meth c 2 0 0 (QM D cA bs ad below args s (some (.int q.1)) q.2) σ 0 [(0, .int x0), (1, .int x1)] [] := by
  unfold fX5_isIn_0 at h
  refine y_iload_n (pc := 0) (q := 0) C dX5_isIn_0 rfl rfl ?_
  refine y_iload_n (pc := 1) (q := 1) C dX5_isIn_1 rfl rfl ?_
  refine y_ishr (pc := 2) C dX5_isIn_2 ?_
  refine y_iconst (pc := 3) (v := (1 : Int32)) C dX5_isIn_3 (by decide) ?_
  refine y_iand (pc := 4) C dX5_isIn_4 ?_
  refine y_iconst (pc := 5) (v := (1 : Int32)) C dX5_isIn_5 (by decide) ?_
  refine y_icmp_ne (pc := 6) (tgt := 13) C dX5_isIn_6 (by decide) (fun c101 => ?_) (fun c101 => ?_)
  · rw [if_neg c101] at h
    refine y_iconst (pc := 13) (v := (0 : Int32)) C dX5_isIn_13 (by decide) ?_
    exact tX5_isIn_14 (fu := fu) C h
  · rw [if_pos c101] at h
    refine y_iconst (pc := 9) (v := (1 : Int32)) C dX5_isIn_9 (by decide) ?_
    refine y_goto (pc := 10) (tgt := 14) C dX5_isIn_10 (by decide) ?_
    exact tX5_isIn_14 (fu := fu) C h
noncomputable def fX5_isIn (fu : Nat) (x0 : Int32) (x1 : Int32) (σ : St) : Option (Int32 × St) := fX5_isIn_0 fu x0 x1 σ
theorem mX5_isIn {l : Launch} {D : va_G} {cA : ClassId} {bs fu : Nat} {ad : Nat → Nat} {x0 : Int32} {x1 : Int32} {σ : St} {q : Int32 × St} (h : fX5_isIn fu x0 x1 σ = some q) : Ct l D cA bs ad yX5_isIn cX5_isIn 2 (some .boolean) 0 0 [.int x0, .int x1] σ (some (.int q.1)) q.2 := by
  unfold fX5_isIn at h
  exact Ct.of (by decide) (Nat.le_of_ble_eq_true rfl) (fun p e s m args below meth c C => tX5_isIn_0 (fu := fu) C h)
noncomputable def fJ6_bitCount_0f7a4_0 (fu : Nat) (x0 : Int32) (σ : St) : Option (Int32 × St) :=
  nm (x0 - (((x0.toUInt32 >>> ((1 : Int32).toUInt32 &&& Int32.toUInt32 31)).toInt32) &&& (1431655765 : Int32))) fun (y101 : Int32) =>
  nm ((y101 &&& (858993459 : Int32)) + (((y101.toUInt32 >>> ((2 : Int32).toUInt32 &&& Int32.toUInt32 31)).toInt32) &&& (858993459 : Int32))) fun (y102 : Int32) =>
  nm ((y102 + ((y102.toUInt32 >>> ((4 : Int32).toUInt32 &&& Int32.toUInt32 31)).toInt32)) &&& (252645135 : Int32)) fun (y103 : Int32) =>
  nm (y103 + ((y103.toUInt32 >>> ((8 : Int32).toUInt32 &&& Int32.toUInt32 31)).toInt32)) fun (y104 : Int32) =>
  nm (y104 + ((y104.toUInt32 >>> ((16 : Int32).toUInt32 &&& Int32.toUInt32 31)).toInt32)) fun (y105 : Int32) =>
  some ((y105 &&& (63 : Int32)), σ)
set_option maxHeartbeats 4000000 in
set_option maxRecDepth 100000 in
theorem tJ6_bitCount_0f7a4_0 {l : Launch} {D : va_G} {cA : ClassId} {bs : Nat} {ad : Nat → Nat} {p : Program} {e : Env} {s : State} {m : MethodId} {args : Array Value} {below : List Frame} {meth : Method} {c : Code} {fu : Nat} (C : Cx D cA bs ad RJ6 cJ6_bitCount_0f7a4 1 (some .int) p s m args meth c) {x0 : Int32} {q : Int32 × St} {σ : St} (h : fJ6_bitCount_0f7a4_0 fu x0 σ = some q) : Y D cA bs ad p l e (rmY 0 0) s m args below meth c 1 0 0 (QM D cA bs ad below args s (some (.int q.1)) q.2) σ 0 [(0, .int x0)] [] := by
  unfold fJ6_bitCount_0f7a4_0 at h
  refine y_iload_n (pc := 0) (q := 0) C dJ6_bitCount_0f7a4_0 rfl rfl ?_
  refine y_iload_n (pc := 1) (q := 0) C dJ6_bitCount_0f7a4_1 rfl rfl ?_
  refine y_iconst (pc := 2) (v := (1 : Int32)) C dJ6_bitCount_0f7a4_2 (by decide) ?_
  refine y_iushr (pc := 3) C dJ6_bitCount_0f7a4_3 ?_
  refine y_ldcw (pc := 4) C dJ6_bitCount_0f7a4_4 cwJ6_265 ?_
  refine y_iand (pc := 7) C dJ6_bitCount_0f7a4_7 ?_
  refine y_isub (pc := 8) C dJ6_bitCount_0f7a4_8 ?_
  obtain ⟨y101, ey101, h⟩ := nmS h
  refine y_nmI y101 ey101 ?_
  refine y_istore_n (pc := 9) (lv' := [(0, .int y101)]) C dJ6_bitCount_0f7a4_9 rfl (by decide) rfl ?_
  refine y_iload_n (pc := 10) (q := 0) C dJ6_bitCount_0f7a4_10 rfl rfl ?_
  refine y_ldcw (pc := 11) C dJ6_bitCount_0f7a4_11 cwJ6_266 ?_
  refine y_iand (pc := 14) C dJ6_bitCount_0f7a4_14 ?_
  refine y_iload_n (pc := 15) (q := 0) C dJ6_bitCount_0f7a4_15 rfl rfl ?_
  refine y_iconst (pc := 16) (v := (2 : Int32)) C dJ6_bitCount_0f7a4_16 (by decide) ?_
  refine y_iushr (pc := 17) C dJ6_bitCount_0f7a4_17 ?_
  refine y_ldcw (pc := 18) C dJ6_bitCount_0f7a4_18 cwJ6_266 ?_
  refine y_iand (pc := 21) C dJ6_bitCount_0f7a4_21 ?_
  refine y_iadd (pc := 22) C dJ6_bitCount_0f7a4_22 ?_
  obtain ⟨y102, ey102, h⟩ := nmS h
  refine y_nmI y102 ey102 ?_
  refine y_istore_n (pc := 23) (lv' := [(0, .int y102)]) C dJ6_bitCount_0f7a4_23 rfl (by decide) rfl ?_
  refine y_iload_n (pc := 24) (q := 0) C dJ6_bitCount_0f7a4_24 rfl rfl ?_
  refine y_iload_n (pc := 25) (q := 0) C dJ6_bitCount_0f7a4_25 rfl rfl ?_
  refine y_iconst (pc := 26) (v := (4 : Int32)) C dJ6_bitCount_0f7a4_26 (by decide) ?_
  refine y_iushr (pc := 27) C dJ6_bitCount_0f7a4_27 ?_
  refine y_iadd (pc := 28) C dJ6_bitCount_0f7a4_28 ?_
  refine y_ldcw (pc := 29) C dJ6_bitCount_0f7a4_29 cwJ6_267 ?_
  refine y_iand (pc := 32) C dJ6_bitCount_0f7a4_32 ?_
  obtain ⟨y103, ey103, h⟩ := nmS h
  refine y_nmI y103 ey103 ?_
  refine y_istore_n (pc := 33) (lv' := [(0, .int y103)]) C dJ6_bitCount_0f7a4_33 rfl (by decide) rfl ?_
  refine y_iload_n (pc := 34) (q := 0) C dJ6_bitCount_0f7a4_34 rfl rfl ?_
  refine y_iload_n (pc := 35) (q := 0) C dJ6_bitCount_0f7a4_35 rfl rfl ?_
  refine y_bipush (pc := 36) (v := (8 : Int32)) C dJ6_bitCount_0f7a4_36 (by decide) ?_
  refine y_iushr (pc := 38) C dJ6_bitCount_0f7a4_38 ?_
  refine y_iadd (pc := 39) C dJ6_bitCount_0f7a4_39 ?_
  obtain ⟨y104, ey104, h⟩ := nmS h
  refine y_nmI y104 ey104 ?_
  refine y_istore_n (pc := 40) (lv' := [(0, .int y104)]) C dJ6_bitCount_0f7a4_40 rfl (by decide) rfl ?_
  refine y_iload_n (pc := 41) (q := 0) C dJ6_bitCount_0f7a4_41 rfl rfl ?_
  refine y_iload_n (pc := 42) (q := 0) C dJ6_bitCount_0f7a4_42 rfl rfl ?_
  refine y_bipush (pc := 43) (v := (16 : Int32)) C dJ6_bitCount_0f7a4_43 (by decide) ?_
  refine y_iushr (pc := 45) C dJ6_bitCount_0f7a4_45 ?_
  refine y_iadd (pc := 46) C dJ6_bitCount_0f7a4_46 ?_
  obtain ⟨y105, ey105, h⟩ := nmS h
  refine y_nmI y105 ey105 ?_
  refine y_istore_n (pc := 47) (lv' := [(0, .int y105)]) C dJ6_bitCount_0f7a4_47 rfl (by decide) rfl ?_
  refine y_iload_n (pc := 48) (q := 0) C dJ6_bitCount_0f7a4_48 rfl rfl ?_
  refine y_bipush (pc := 49) (v := (63 : Int32)) C dJ6_bitCount_0f7a4_49 (by decide) ?_
  refine y_iand (pc := 51) C dJ6_bitCount_0f7a4_51 ?_
  cases h
  exact y_iret (pc := 52) C dJ6_bitCount_0f7a4_52
noncomputable def fJ6_bitCount_0f7a4 (fu : Nat) (x0 : Int32) (σ : St) : Option (Int32 × St) := fJ6_bitCount_0f7a4_0 fu x0 σ
theorem mJ6_bitCount_0f7a4 {l : Launch} {D : va_G} {cA : ClassId} {bs fu : Nat} {ad : Nat → Nat} {x0 : Int32} {σ : St} {q : Int32 × St} (h : fJ6_bitCount_0f7a4 fu x0 σ = some q) : Ct l D cA bs ad yJ6_bitCount_0f7a4 cJ6_bitCount_0f7a4 1 (some .int) 0 0 [.int x0] σ (some (.int q.1)) q.2 := by
  unfold fJ6_bitCount_0f7a4 at h
  exact Ct.of (by decide) (Nat.le_of_ble_eq_true rfl) (fun p e s m args below meth c C => tJ6_bitCount_0f7a4_0 (fu := fu) C h)
noncomputable def fX5_openTo_29 (fu : Nat) (x0 : Nat) (x1 : Int32) (x2 : Int32) (x3 : Int32) (s0 : Int32) (σ : St) : Option (Int32 × St) :=
  some (s0, σ)
set_option maxHeartbeats 4000000 in
set_option maxRecDepth 100000 in
theorem tX5_openTo_29 {l : Launch} {D : va_G} {cA : ClassId} {bs : Nat} {ad : Nat → Nat} {p : Program} {e : Env} {s : State} {m : MethodId} {args : Array Value} {below : List Frame} {meth : Method} {c : Code} {fu : Nat} (C : Cx D cA bs ad RX5 cX5_openTo 5 (some .int) p s m args meth c) {x0 : Nat} {x1 : Int32} {x2 : Int32} {x3 : Int32} {s0 : Int32} {q : Int32 × St} (hx0 : xk x0 = 3) {σ : St} (h : fX5_openTo_29 fu x0 x1 x2 x3 s0 σ = some q) : Y D cA bs ad p l e (rmY 0 0) s m args below meth c 5 0 0 (QM D cA bs ad below args s (some (.int q.1)) q.2) σ 29 [(0, .ref (ad x0)), (1, .int x1), (2, .int x2), (3, .int x3)] [.int s0] := by
  unfold fX5_openTo_29 at h
  cases h
  exact y_iret (pc := 29) C dX5_openTo_29
noncomputable def fX5_openTo_0 (fu : Nat) (x0 : Nat) (x1 : Int32) (x2 : Int32) (x3 : Int32) (σ : St) : Option (Int32 × St) :=
  (ald σ (rf x0 3) 8 x2).bind fun (v101 : Int32) =>
  nm (v101 &&& (x1 ^^^ (-1 : Int32))) fun (y102 : Int32) =>
  if x3 = (1 : Int32) then
    fX5_openTo_29 fu x0 x1 x2 x3 (y102 &&& (σ.1 x0 6)) σ
  else
    fX5_openTo_29 fu x0 x1 x2 x3 y102 σ
set_option maxHeartbeats 4000000 in
set_option maxRecDepth 100000 in
theorem tX5_openTo_0 {l : Launch} {D : va_G} {cA : ClassId} {bs : Nat} {ad : Nat → Nat} {p : Program} {e : Env} {s : State} {m : MethodId} {args : Array Value} {below : List Frame} {meth : Method} {c : Code} {fu : Nat} (C : Cx D cA bs ad RX5 cX5_openTo 5 (some .int) p s m args meth c) {x0 : Nat} {x1 : Int32} {x2 : Int32} {x3 : Int32} {q : Int32 × St} (hx0 : xk x0 = 3) {σ : St} (h : fX5_openTo_0 fu x0 x1 x2 x3 σ = some q) : Y D cA bs ad p l e (rmY 0 0) s m args below meth c 5 0 0 (QM D cA bs ad below args s (some (.int q.1)) q.2) σ 0 [(0, .ref (ad x0)), (1, .int x1), (2, .int x2), (3, .int x3)] [] := by
  unfold fX5_openTo_0 at h
  refine y_aload_n (pc := 0) (q := 0) C dX5_openTo_0 rfl rfl ?_
  refine y_getr (pc := 1) C faX5_21 rfl hx0 dX5_openTo_1 ?_
  refine y_iload_n (pc := 4) (q := 2) C dX5_openTo_4 rfl rfl ?_
  obtain ⟨v101, ev101, h⟩ := bdS h
  refine y_iald (pc := 5) (n := 8) C (rf_3_3 _ hx0) (by decide) ev101 dX5_openTo_5 ?_
  refine y_iload_n (pc := 6) (q := 1) C dX5_openTo_6 rfl rfl ?_
  refine y_iconst (pc := 7) (v := (-1 : Int32)) C dX5_openTo_7 (by decide) ?_
  refine y_ixor (pc := 8) C dX5_openTo_8 ?_
  refine y_iand (pc := 9) C dX5_openTo_9 ?_
  obtain ⟨y102, ey102, h⟩ := nmS h
  refine y_nmI y102 ey102 ?_
  refine y_istore (pc := 10) (lv' := [(4, .int y102), (0, .ref (ad x0)), (1, .int x1), (2, .int x2), (3, .int x3)]) C dX5_openTo_10 (by decide) rfl ?_
  refine y_iload_n (pc := 12) (q := 4) C dX5_openTo_12 rfl rfl ?_
  refine y_iconst (pc := 13) (v := (1 : Int32)) C dX5_openTo_13 (by decide) ?_
  refine y_icmp_ne (pc := 14) (tgt := 27) C dX5_openTo_14 (by decide) (fun c103 => ?_) (fun c103 => ?_)
  · rw [if_neg c103] at h
    refine y_iload (pc := 27) (q := 0) C dX5_openTo_27 rfl ?_
    refine y_sub [1, 2, 3, 4] (lv' := [(0, .ref (ad x0)), (1, .int x1), (2, .int x2), (3, .int x3)]) rfl ?_
    exact tX5_openTo_29 (fu := fu) C hx0 h
  · rw [if_pos c103] at h
    refine y_iload (pc := 17) (q := 0) C dX5_openTo_17 rfl ?_
    refine y_aload_n (pc := 19) (q := 1) C dX5_openTo_19 rfl rfl ?_
    refine y_geti (pc := 20) C faX5_55 rfl hx0 dX5_openTo_20 ?_
    refine y_iand (pc := 23) C dX5_openTo_23 ?_
    refine y_goto (pc := 24) (tgt := 29) C dX5_openTo_24 (by decide) ?_
    refine y_sub [1, 2, 3, 4] (lv' := [(0, .ref (ad x0)), (1, .int x1), (2, .int x2), (3, .int x3)]) rfl ?_
    exact tX5_openTo_29 (fu := fu) C hx0 h
noncomputable def fX5_openTo (fu : Nat) (x0 : Nat) (x1 : Int32) (x2 : Int32) (x3 : Int32) (σ : St) : Option (Int32 × St) := if xk x0 = 3 then fX5_openTo_0 fu x0 x1 x2 x3 σ else none
theorem mX5_openTo {l : Launch} {D : va_G} {cA : ClassId} {bs fu : Nat} {ad : Nat → Nat} {x0 : Nat} {x1 : Int32} {x2 : Int32} {x3 : Int32} {σ : St} {q : Int32 × St} (h : fX5_openTo fu x0 x1 x2 x3 σ = some q) : Ct l D cA bs ad yX5_openTo cX5_openTo 5 (some .int) 0 0 [.ref (ad x0), .int x1, .int x2, .int x3] σ (some (.int q.1)) q.2 := by
  unfold fX5_openTo at h
  by_cases hx0 : xk x0 = 3
  case neg => rw [if_neg hx0] at h; cases h
  rw [if_pos hx0] at h
  exact Ct.of (by decide) (Nat.le_of_ble_eq_true rfl) (fun p e s m args below meth c C => tX5_openTo_0 (fu := fu) C hx0 h)
noncomputable def fX5_aloneThen_27 (fu : Nat) (x0 : Nat) (x1 : Int32) (x2 : Int32) (s0 : Int32) (σ : St) : Option (Int32 × St) :=
  some (s0, σ)
set_option maxHeartbeats 4000000 in
set_option maxRecDepth 100000 in
theorem tX5_aloneThen_27 {l : Launch} {D : va_G} {cA : ClassId} {bs : Nat} {ad : Nat → Nat} {p : Program} {e : Env} {s : State} {m : MethodId} {args : Array Value} {below : List Frame} {meth : Method} {c : Code} {fu : Nat} (C : Cx D cA bs ad RX5 cX5_aloneThen 3 (some .int) p s m args meth c) {x0 : Nat} {x1 : Int32} {x2 : Int32} {s0 : Int32} {q : Int32 × St} (hx0 : xk x0 = 3) {σ : St} (h : fX5_aloneThen_27 fu x0 x1 x2 s0 σ = some q) : Y D cA bs ad p l e (rmY 1 21) s m args below meth c 3 0 0 (QM D cA bs ad below args s (some (.int q.1)) q.2) σ 27 [(0, .ref (ad x0)), (1, .int x1), (2, .int x2)] [.int s0] := by
  unfold fX5_aloneThen_27 at h
  cases h
  exact y_iret (pc := 27) C dX5_aloneThen_27
noncomputable def fX5_aloneThen_26 (fu : Nat) (x0 : Nat) (x1 : Int32) (x2 : Int32) (σ : St) : Option (Int32 × St) :=
  fX5_aloneThen_27 fu x0 x1 x2 (0 : Int32) σ
set_option maxHeartbeats 4000000 in
set_option maxRecDepth 100000 in
theorem tX5_aloneThen_26 {l : Launch} {D : va_G} {cA : ClassId} {bs : Nat} {ad : Nat → Nat} {p : Program} {e : Env} {s : State} {m : MethodId} {args : Array Value} {below : List Frame} {meth : Method} {c : Code} {fu : Nat} (C : Cx D cA bs ad RX5 cX5_aloneThen 3 (some .int) p s m args meth c) {x0 : Nat} {x1 : Int32} {x2 : Int32} {q : Int32 × St} (hx0 : xk x0 = 3) {σ : St} (h : fX5_aloneThen_26 fu x0 x1 x2 σ = some q) : Y D cA bs ad p l e (rmY 1 21) s m args below meth c 3 0 0 (QM D cA bs ad below args s (some (.int q.1)) q.2) σ 26 [(0, .ref (ad x0)), (1, .int x1), (2, .int x2)] [] := by
  unfold fX5_aloneThen_26 at h
  refine y_iconst (pc := 26) (v := (0 : Int32)) C dX5_aloneThen_26 (by decide) ?_
  exact tX5_aloneThen_27 (fu := fu) C hx0 h
noncomputable def fX5_aloneThen_0 (fu : Nat) (x0 : Nat) (x1 : Int32) (x2 : Int32) (σ : St) : Option (Int32 × St) :=
  (fX5_isIn fu (σ.1 x0 6) x2 σ).bind fun (q101 : Int32 × St) =>
  if q101.1 = 0 then
    fX5_aloneThen_26 fu x0 x1 x2 q101.2
  else
    (fX5_isIn fu (q101.2.1 x0 6) x1 q101.2).bind fun (q103 : Int32 × St) =>
    if q103.1 = 0 then
      fX5_aloneThen_27 fu x0 x1 x2 (1 : Int32) q103.2
    else
      fX5_aloneThen_26 fu x0 x1 x2 q103.2
set_option maxHeartbeats 4000000 in
set_option maxRecDepth 100000 in
theorem tX5_aloneThen_0 {l : Launch} {D : va_G} {cA : ClassId} {bs : Nat} {ad : Nat → Nat} {p : Program} {e : Env} {s : State} {m : MethodId} {args : Array Value} {below : List Frame} {meth : Method} {c : Code} {fu : Nat} (C : Cx D cA bs ad RX5 cX5_aloneThen 3 (some .int) p s m args meth c) {x0 : Nat} {x1 : Int32} {x2 : Int32} {q : Int32 × St} (hx0 : xk x0 = 3) {σ : St} (h : fX5_aloneThen_0 fu x0 x1 x2 σ = some q) : Y D cA bs ad p l e (rmY 1 21) s m args below meth c 3 0 0 (QM D cA bs ad below args s (some (.int q.1)) q.2) σ 0 [(0, .ref (ad x0)), (1, .int x1), (2, .int x2)] [] := by
  unfold fX5_aloneThen_0 at h
  refine y_aload_n (pc := 0) (q := 0) C dX5_aloneThen_0 rfl rfl ?_
  refine y_geti (pc := 1) C faX5_55 rfl hx0 dX5_aloneThen_1 ?_
  refine y_iload_n (pc := 4) (q := 2) C dX5_aloneThen_4 rfl rfl ?_
  obtain ⟨q101, eq101, h⟩ := bdS h
  refine y_callS (pc := 5) (As := [.int (σ.1 x0 6), .int x2]) (rest := []) C (mX5_isIn (fu := fu) eq101) vwX5_47 rfl rfl (Nat.le_of_ble_eq_true rfl) ⟨Nat.le_of_ble_eq_true rfl, Nat.le_of_ble_eq_true rfl⟩ ⟨Nat.le_refl _, Nat.le_refl _⟩ dX5_aloneThen_5 ?_
  show Y _ _ _ _ _ _ _ _ _ _ _ _ _ _ _ _ _ _ q101.2 8 [(0, .ref (ad x0)), (1, .int x1), (2, .int x2)] [.int q101.1]
  refine y_if_eq (pc := 8) (tgt := 26) C dX5_aloneThen_8 (by decide) (fun c102 => ?_) (fun c102 => ?_)
  · rw [if_pos c102] at h
    exact tX5_aloneThen_26 (fu := fu) C hx0 h
  · rw [if_neg c102] at h
    refine y_aload_n (pc := 11) (q := 0) C dX5_aloneThen_11 rfl rfl ?_
    refine y_geti (pc := 12) C faX5_55 rfl hx0 dX5_aloneThen_12 ?_
    refine y_iload_n (pc := 15) (q := 1) C dX5_aloneThen_15 rfl rfl ?_
    obtain ⟨q103, eq103, h⟩ := bdS h
    refine y_callS (pc := 16) (As := [.int (q101.2.1 x0 6), .int x1]) (rest := []) C (mX5_isIn (fu := fu) eq103) vwX5_47 rfl rfl (Nat.le_of_ble_eq_true rfl) ⟨Nat.le_of_ble_eq_true rfl, Nat.le_of_ble_eq_true rfl⟩ ⟨Nat.le_refl _, Nat.le_refl _⟩ dX5_aloneThen_16 ?_
    show Y _ _ _ _ _ _ _ _ _ _ _ _ _ _ _ _ _ _ q103.2 19 [(0, .ref (ad x0)), (1, .int x1), (2, .int x2)] [.int q103.1]
    refine y_if_ne (pc := 19) (tgt := 26) C dX5_aloneThen_19 (by decide) (fun c104 => ?_) (fun c104 => ?_)
    · rw [if_neg c104] at h
      exact tX5_aloneThen_26 (fu := fu) C hx0 h
    · rw [if_pos c104] at h
      refine y_iconst (pc := 22) (v := (1 : Int32)) C dX5_aloneThen_22 (by decide) ?_
      refine y_goto (pc := 23) (tgt := 27) C dX5_aloneThen_23 (by decide) ?_
      exact tX5_aloneThen_27 (fu := fu) C hx0 h
noncomputable def fX5_aloneThen (fu : Nat) (x0 : Nat) (x1 : Int32) (x2 : Int32) (σ : St) : Option (Int32 × St) := if xk x0 = 3 then fX5_aloneThen_0 fu x0 x1 x2 σ else none
theorem mX5_aloneThen {l : Launch} {D : va_G} {cA : ClassId} {bs fu : Nat} {ad : Nat → Nat} {x0 : Nat} {x1 : Int32} {x2 : Int32} {σ : St} {q : Int32 × St} (h : fX5_aloneThen fu x0 x1 x2 σ = some q) : Ct l D cA bs ad yX5_aloneThen cX5_aloneThen 3 (some .int) 1 21 [.ref (ad x0), .int x1, .int x2] σ (some (.int q.1)) q.2 := by
  unfold fX5_aloneThen at h
  by_cases hx0 : xk x0 = 3
  case neg => rw [if_neg hx0] at h; cases h
  rw [if_pos hx0] at h
  exact Ct.of (by decide) (Nat.le_of_ble_eq_true rfl) (fun p e s m args below meth c C => tX5_aloneThen_0 (fu := fu) C hx0 h)
noncomputable def fX5_stateOf_0 (fu : Nat) (x0 : Int32) (x1 : Int32) (x2 : Int32) (σ : St) : Option (Int32 × St) :=
  some (((((x0 * (8 : Int32)) + x1) * (2 : Int32)) + x2), σ)
set_option maxHeartbeats 4000000 in
set_option maxRecDepth 100000 in
theorem tX5_stateOf_0 {l : Launch} {D : va_G} {cA : ClassId} {bs : Nat} {ad : Nat → Nat} {p : Program} {e : Env} {s : State} {m : MethodId} {args : Array Value} {below : List Frame} {meth : Method} {c : Code} {fu : Nat} (C : Cx D cA bs ad RX5 cX5_stateOf 3 (some .int) p s m args meth c) {x0 : Int32} {x1 : Int32} {x2 : Int32} {q : Int32 × St} {σ : St} (h : fX5_stateOf_0 fu x0 x1 x2 σ = some q) : Y D cA bs ad p l e (rmY 0 0) s m args below meth c 3 0 0 (QM D cA bs ad below args s (some (.int q.1)) q.2) σ 0 [(0, .int x0), (1, .int x1), (2, .int x2)] [] := by
  unfold fX5_stateOf_0 at h
  refine y_iload_n (pc := 0) (q := 0) C dX5_stateOf_0 rfl rfl ?_
  refine y_bipush (pc := 1) (v := (8 : Int32)) C dX5_stateOf_1 (by decide) ?_
  refine y_imul (pc := 3) C dX5_stateOf_3 ?_
  refine y_iload_n (pc := 4) (q := 1) C dX5_stateOf_4 rfl rfl ?_
  refine y_iadd (pc := 5) C dX5_stateOf_5 ?_
  refine y_iconst (pc := 6) (v := (2 : Int32)) C dX5_stateOf_6 (by decide) ?_
  refine y_imul (pc := 7) C dX5_stateOf_7 ?_
  refine y_iload_n (pc := 8) (q := 2) C dX5_stateOf_8 rfl rfl ?_
  refine y_iadd (pc := 9) C dX5_stateOf_9 ?_
  cases h
  exact y_iret (pc := 10) C dX5_stateOf_10
noncomputable def fX5_stateOf (fu : Nat) (x0 : Int32) (x1 : Int32) (x2 : Int32) (σ : St) : Option (Int32 × St) := fX5_stateOf_0 fu x0 x1 x2 σ
theorem mX5_stateOf {l : Launch} {D : va_G} {cA : ClassId} {bs fu : Nat} {ad : Nat → Nat} {x0 : Int32} {x1 : Int32} {x2 : Int32} {σ : St} {q : Int32 × St} (h : fX5_stateOf fu x0 x1 x2 σ = some q) : Ct l D cA bs ad yX5_stateOf cX5_stateOf 3 (some .int) 0 0 [.int x0, .int x1, .int x2] σ (some (.int q.1)) q.2 := by
  unfold fX5_stateOf at h
  exact Ct.of (by decide) (Nat.le_of_ble_eq_true rfl) (fun p e s m args below meth c C => tX5_stateOf_0 (fu := fu) C h)
noncomputable def fX5_stateThen_0 (fu : Nat) (x0 : Nat) (x1 : Int32) (x2 : Int32) (x3 : Int32) (σ : St) : Option (Int32 × St) :=
  (fX5_aloneThen fu x0 x2 x3 σ).bind fun (q101 : Int32 × St) =>
  (fX5_stateOf fu (x1 ||| ((1 : Int32) <<< (x3 &&& 31))) x3 q101.1 q101.2).bind fun (q102 : Int32 × St) =>
  some (q102.1, q102.2)
set_option maxHeartbeats 4000000 in
set_option maxRecDepth 100000 in
theorem tX5_stateThen_0 {l : Launch} {D : va_G} {cA : ClassId} {bs : Nat} {ad : Nat → Nat} {p : Program} {e : Env} {s : State} {m : MethodId} {args : Array Value} {below : List Frame} {meth : Method} {c : Code} {fu : Nat} (C : Cx D cA bs ad RX5 cX5_stateThen 4 (some .int) p s m args meth c) {x0 : Nat} {x1 : Int32} {x2 : Int32} {x3 : Int32} {q : Int32 × St} (hx0 : xk x0 = 3) {σ : St} (h : fX5_stateThen_0 fu x0 x1 x2 x3 σ = some q) : Y D cA bs ad p l e (rmY 2 43) s m args below meth c 4 0 0 (QM D cA bs ad below args s (some (.int q.1)) q.2) σ 0 [(0, .ref (ad x0)), (1, .int x1), (2, .int x2), (3, .int x3)] [] := by
  unfold fX5_stateThen_0 at h
  refine y_iload_n (pc := 0) (q := 1) C dX5_stateThen_0 rfl rfl ?_
  refine y_iconst (pc := 1) (v := (1 : Int32)) C dX5_stateThen_1 (by decide) ?_
  refine y_iload_n (pc := 2) (q := 3) C dX5_stateThen_2 rfl rfl ?_
  refine y_ishl (pc := 3) C dX5_stateThen_3 ?_
  refine y_ior (pc := 4) C dX5_stateThen_4 ?_
  refine y_iload_n (pc := 5) (q := 3) C dX5_stateThen_5 rfl rfl ?_
  refine y_aload_n (pc := 6) (q := 0) C dX5_stateThen_6 rfl rfl ?_
  refine y_iload_n (pc := 7) (q := 2) C dX5_stateThen_7 rfl rfl ?_
  refine y_iload_n (pc := 8) (q := 3) C dX5_stateThen_8 rfl rfl ?_
  obtain ⟨q101, eq101, h⟩ := bdS h
  refine y_callV (pc := 9) (As := [.int x2, .int x3]) (rest := [.int x3, .int (x1 ||| ((1 : Int32) <<< (x3 &&& 31)))]) C (mX5_aloneThen (fu := fu) eq101) vwX5_68 rfl (by decide) hx0 rfl rfl (Nat.le_of_ble_eq_true rfl) ⟨Nat.le_of_ble_eq_true rfl, Nat.le_of_ble_eq_true rfl⟩ ⟨Nat.le_refl _, Nat.le_refl _⟩ dX5_stateThen_9 ?_
  show Y _ _ _ _ _ _ _ _ _ _ _ _ _ _ _ _ _ _ q101.2 12 [(0, .ref (ad x0)), (1, .int x1), (2, .int x2), (3, .int x3)] [.int q101.1, .int x3, .int (x1 ||| ((1 : Int32) <<< (x3 &&& 31)))]
  obtain ⟨q102, eq102, h⟩ := bdS h
  refine y_callS (pc := 12) (As := [.int (x1 ||| ((1 : Int32) <<< (x3 &&& 31))), .int x3, .int q101.1]) (rest := []) C (mX5_stateOf (fu := fu) eq102) vwX5_118 rfl rfl (Nat.le_of_ble_eq_true rfl) ⟨Nat.le_of_ble_eq_true rfl, Nat.le_of_ble_eq_true rfl⟩ ⟨Nat.le_refl _, Nat.le_refl _⟩ dX5_stateThen_12 ?_
  show Y _ _ _ _ _ _ _ _ _ _ _ _ _ _ _ _ _ _ q102.2 15 [(0, .ref (ad x0)), (1, .int x1), (2, .int x2), (3, .int x3)] [.int q102.1]
  cases h
  exact y_iret (pc := 15) C dX5_stateThen_15
noncomputable def fX5_stateThen (fu : Nat) (x0 : Nat) (x1 : Int32) (x2 : Int32) (x3 : Int32) (σ : St) : Option (Int32 × St) := if xk x0 = 3 then fX5_stateThen_0 fu x0 x1 x2 x3 σ else none
theorem mX5_stateThen {l : Launch} {D : va_G} {cA : ClassId} {bs fu : Nat} {ad : Nat → Nat} {x0 : Nat} {x1 : Int32} {x2 : Int32} {x3 : Int32} {σ : St} {q : Int32 × St} (h : fX5_stateThen fu x0 x1 x2 x3 σ = some q) : Ct l D cA bs ad yX5_stateThen cX5_stateThen 4 (some .int) 2 43 [.ref (ad x0), .int x1, .int x2, .int x3] σ (some (.int q.1)) q.2 := by
  unfold fX5_stateThen at h
  by_cases hx0 : xk x0 = 3
  case neg => rw [if_neg hx0] at h; cases h
  rw [if_pos hx0] at h
  exact Ct.of (by decide) (Nat.le_of_ble_eq_true rfl) (fun p e s m args below meth c C => tX5_stateThen_0 (fu := fu) C hx0 h)
noncomputable def fX5_settle_115 (fu : Nat) (k44 : Int32 → Int32 → Int32 → Int32 → Int32 → St → Option (St)) (x0 : Nat) (x1 : Int32) (x2 : Int32) (x3 : Int32) (x4 : Int32) (x5 : Int32) (x6 : Int32) (x7 : Int32) (x8 : Int32) (x9 : Int32) (σ : St) : Option (St) :=
  nm (x9 + (1 : Int32)) fun (y101 : Int32) =>
  k44 x5 x6 x7 x8 y101 σ
set_option maxHeartbeats 4000000 in
set_option maxRecDepth 100000 in
theorem tX5_settle_115 {l : Launch} {D : va_G} {cA : ClassId} {bs : Nat} {ad : Nat → Nat} {p : Program} {e : Env} {s : State} {m : MethodId} {args : Array Value} {below : List Frame} {meth : Method} {c : Code} {fu : Nat} (C : Cx D cA bs ad RX5 cX5_settle 11 none p s m args meth c) {k44 : Int32 → Int32 → Int32 → Int32 → Int32 → St → Option (St)} {x0 : Nat} {x1 : Int32} {x2 : Int32} {x3 : Int32} {x4 : Int32} {x5 : Int32} {x6 : Int32} {x7 : Int32} {x8 : Int32} {x9 : Int32} {q : St} (hx0 : xk x0 = 3) (hk44 : ∀ (x5 : Int32) (x6 : Int32) (x7 : Int32) (x8 : Int32) (x9 : Int32) (σ : St), k44 x5 x6 x7 x8 x9 σ = some q → Y D cA bs ad p l e (rmY 3 66) s m args below meth c 11 0 0 (QM D cA bs ad below args s none q) σ 44 [(0, .ref (ad x0)), (1, .int x1), (2, .int x2), (3, .int x3), (4, .int x4), (5, .int x5), (6, .int x6), (7, .int x7), (8, .int x8), (9, .int x9)] []) {σ : St} (h : fX5_settle_115 fu k44 x0 x1 x2 x3 x4 x5 x6 x7 x8 x9 σ = some q) : Y D cA bs ad p l e (rmY 3 66) s m args below meth c 11 0 0 (QM D cA bs ad below args s none q) σ 115 [(0, .ref (ad x0)), (1, .int x1), (2, .int x2), (3, .int x3), (4, .int x4), (5, .int x5), (6, .int x6), (7, .int x7), (8, .int x8), (9, .int x9)] [] := by
  unfold fX5_settle_115 at h
  obtain ⟨y101, ey101, h⟩ := nmS h
  refine y_iinc (pc := 115) (v := y101) (k := 9) (lv' := [(9, .int y101), (0, .ref (ad x0)), (1, .int x1), (2, .int x2), (3, .int x3), (4, .int x4), (5, .int x5), (6, .int x6), (7, .int x7), (8, .int x8)]) C dX5_settle_115 rfl (by rw [ey101]; rfl) (by decide) rfl ?_
  refine y_goto (pc := 118) (tgt := 44) C dX5_settle_118 (by decide) ?_
  refine y_sub [1, 2, 3, 4, 5, 6, 7, 8, 9, 0] (lv' := [(0, .ref (ad x0)), (1, .int x1), (2, .int x2), (3, .int x3), (4, .int x4), (5, .int x5), (6, .int x6), (7, .int x7), (8, .int x8), (9, .int y101)]) rfl ?_
  exact hk44 _ _ _ _ _ _ h
noncomputable def fX5_settle_44b (fu : Nat) (k44 : Int32 → Int32 → Int32 → Int32 → Int32 → St → Option (St)) (x0 : Nat) (x1 : Int32) (x2 : Int32) (x3 : Int32) (x4 : Int32) (x5 : Int32) (x6 : Int32) (x7 : Int32) (x8 : Int32) (x9 : Int32) (σ : St) : Option (St) :=
  if (σ.1 x0 5) ≤ x9 then
    (fX5_stateOf fu x1 x2 x3 σ).bind fun (q102 : Int32 × St) =>
    (ast q102.2 (rf x0 0) 2048 q102.1 x5).bind fun (σ103 : St) =>
    (fX5_stateOf fu x1 x2 x3 σ103).bind fun (q104 : Int32 × St) =>
    (ast q104.2 (rf x0 1) 2048 q104.1 x6).bind fun (σ105 : St) =>
    some σ105
  else
    (fX5_isIn fu x8 x9 σ).bind fun (q106 : Int32 × St) =>
    if q106.1 = 0 then
      fX5_settle_115 fu k44 x0 x1 x2 x3 x4 x5 x6 x7 x8 x9 q106.2
    else
      (fX5_stateThen fu x0 x1 x2 x9 q106.2).bind fun (q108 : Int32 × St) =>
      (ald q108.2 (rf x0 0) 2048 q108.1).bind fun (v109 : Int32) =>
      nm (x5 + v109) fun (y110 : Int32) =>
      (ald q108.2 (rf x0 2) 49 ((x9 * (7 : Int32)) + x7)).bind fun (v111 : Int32) =>
      (ald q108.2 (rf x0 1) 2048 q108.1).bind fun (v112 : Int32) =>
      nm (jmin x6 (jmax v111 v112)) fun (y113 : Int32) =>
      fX5_settle_115 fu k44 x0 x1 x2 x3 x4 y110 y113 x7 x8 x9 q108.2
set_option maxHeartbeats 4000000 in
set_option maxRecDepth 100000 in
theorem tX5_settle_44b {l : Launch} {D : va_G} {cA : ClassId} {bs : Nat} {ad : Nat → Nat} {p : Program} {e : Env} {s : State} {m : MethodId} {args : Array Value} {below : List Frame} {meth : Method} {c : Code} {fu : Nat} (C : Cx D cA bs ad RX5 cX5_settle 11 none p s m args meth c) {k44 : Int32 → Int32 → Int32 → Int32 → Int32 → St → Option (St)} {x0 : Nat} {x1 : Int32} {x2 : Int32} {x3 : Int32} {x4 : Int32} {x5 : Int32} {x6 : Int32} {x7 : Int32} {x8 : Int32} {x9 : Int32} {q : St} (hx0 : xk x0 = 3) (hk44 : ∀ (x5 : Int32) (x6 : Int32) (x7 : Int32) (x8 : Int32) (x9 : Int32) (σ : St), k44 x5 x6 x7 x8 x9 σ = some q → Y D cA bs ad p l e (rmY 3 66) s m args below meth c 11 0 0 (QM D cA bs ad below args s none q) σ 44 [(0, .ref (ad x0)), (1, .int x1), (2, .int x2), (3, .int x3), (4, .int x4), (5, .int x5), (6, .int x6), (7, .int x7), (8, .int x8), (9, .int x9)] []) {σ : St} (h : fX5_settle_44b fu k44 x0 x1 x2 x3 x4 x5 x6 x7 x8 x9 σ = some q) : Y D cA bs ad p l e (rmY 3 66) s m args below meth c 11 0 0 (QM D cA bs ad below args s none q) σ 44 [(0, .ref (ad x0)), (1, .int x1), (2, .int x2), (3, .int x3), (4, .int x4), (5, .int x5), (6, .int x6), (7, .int x7), (8, .int x8), (9, .int x9)] [] := by
  unfold fX5_settle_44b at h
  refine y_iload (pc := 44) (q := 9) C dX5_settle_44 rfl ?_
  refine y_aload_n (pc := 46) (q := 0) C dX5_settle_46 rfl rfl ?_
  refine y_geti (pc := 47) C faX5_37 rfl hx0 dX5_settle_47 ?_
  refine y_icmp_ge (pc := 50) (tgt := 121) C dX5_settle_50 (by decide) (fun c101 => ?_) (fun c101 => ?_)
  · rw [if_pos c101] at h
    refine y_aload_n (pc := 121) (q := 0) C dX5_settle_121 rfl rfl ?_
    refine y_getr (pc := 122) C faX5_11 rfl hx0 dX5_settle_122 ?_
    refine y_iload_n (pc := 125) (q := 1) C dX5_settle_125 rfl rfl ?_
    refine y_iload_n (pc := 126) (q := 2) C dX5_settle_126 rfl rfl ?_
    refine y_iload_n (pc := 127) (q := 3) C dX5_settle_127 rfl rfl ?_
    obtain ⟨q102, eq102, h⟩ := bdS h
    refine y_callS (pc := 128) (As := [.int x1, .int x2, .int x3]) (rest := [.ref (ad (rf x0 0))]) C (mX5_stateOf (fu := fu) eq102) vwX5_118 rfl rfl (Nat.le_of_ble_eq_true rfl) ⟨Nat.le_of_ble_eq_true rfl, Nat.le_of_ble_eq_true rfl⟩ ⟨Nat.le_refl _, Nat.le_refl _⟩ dX5_settle_128 ?_
    show Y _ _ _ _ _ _ _ _ _ _ _ _ _ _ _ _ _ _ q102.2 131 [(0, .ref (ad x0)), (1, .int x1), (2, .int x2), (3, .int x3), (4, .int x4), (5, .int x5), (6, .int x6), (7, .int x7), (8, .int x8), (9, .int x9)] [.int q102.1, .ref (ad (rf x0 0))]
    refine y_iload (pc := 131) (q := 5) C dX5_settle_131 rfl ?_
    obtain ⟨σ103, eσ103, h⟩ := bdS h
    refine y_iast (pc := 133) (n := 2048) C (rf_3_0 _ hx0) (by decide) eσ103 dX5_settle_133 ?_
    refine y_aload_n (pc := 134) (q := 0) C dX5_settle_134 rfl rfl ?_
    refine y_getr (pc := 135) C faX5_15 rfl hx0 dX5_settle_135 ?_
    refine y_iload_n (pc := 138) (q := 1) C dX5_settle_138 rfl rfl ?_
    refine y_iload_n (pc := 139) (q := 2) C dX5_settle_139 rfl rfl ?_
    refine y_iload_n (pc := 140) (q := 3) C dX5_settle_140 rfl rfl ?_
    obtain ⟨q104, eq104, h⟩ := bdS h
    refine y_callS (pc := 141) (As := [.int x1, .int x2, .int x3]) (rest := [.ref (ad (rf x0 1))]) C (mX5_stateOf (fu := fu) eq104) vwX5_118 rfl rfl (Nat.le_of_ble_eq_true rfl) ⟨Nat.le_of_ble_eq_true rfl, Nat.le_of_ble_eq_true rfl⟩ ⟨Nat.le_refl _, Nat.le_refl _⟩ dX5_settle_141 ?_
    show Y _ _ _ _ _ _ _ _ _ _ _ _ _ _ _ _ _ _ q104.2 144 [(0, .ref (ad x0)), (1, .int x1), (2, .int x2), (3, .int x3), (4, .int x4), (5, .int x5), (6, .int x6), (7, .int x7), (8, .int x8), (9, .int x9)] [.int q104.1, .ref (ad (rf x0 1))]
    refine y_iload (pc := 144) (q := 6) C dX5_settle_144 rfl ?_
    obtain ⟨σ105, eσ105, h⟩ := bdS h
    refine y_iast (pc := 146) (n := 2048) C (rf_3_1 _ hx0) (by decide) eσ105 dX5_settle_146 ?_
    cases h
    exact y_vret (pc := 147) C dX5_settle_147
  · rw [if_neg c101] at h
    refine y_iload (pc := 53) (q := 8) C dX5_settle_53 rfl ?_
    refine y_iload (pc := 55) (q := 9) C dX5_settle_55 rfl ?_
    obtain ⟨q106, eq106, h⟩ := bdS h
    refine y_callS (pc := 57) (As := [.int x8, .int x9]) (rest := []) C (mX5_isIn (fu := fu) eq106) vwX5_47 rfl rfl (Nat.le_of_ble_eq_true rfl) ⟨Nat.le_of_ble_eq_true rfl, Nat.le_of_ble_eq_true rfl⟩ ⟨Nat.le_refl _, Nat.le_refl _⟩ dX5_settle_57 ?_
    show Y _ _ _ _ _ _ _ _ _ _ _ _ _ _ _ _ _ _ q106.2 60 [(0, .ref (ad x0)), (1, .int x1), (2, .int x2), (3, .int x3), (4, .int x4), (5, .int x5), (6, .int x6), (7, .int x7), (8, .int x8), (9, .int x9)] [.int q106.1]
    refine y_if_eq (pc := 60) (tgt := 115) C dX5_settle_60 (by decide) (fun c107 => ?_) (fun c107 => ?_)
    · rw [if_pos c107] at h
      exact tX5_settle_115 (fu := fu) C hx0 hk44 h
    · rw [if_neg c107] at h
      refine y_aload_n (pc := 63) (q := 0) C dX5_settle_63 rfl rfl ?_
      refine y_iload_n (pc := 64) (q := 1) C dX5_settle_64 rfl rfl ?_
      refine y_iload_n (pc := 65) (q := 2) C dX5_settle_65 rfl rfl ?_
      refine y_iload (pc := 66) (q := 9) C dX5_settle_66 rfl ?_
      obtain ⟨q108, eq108, h⟩ := bdS h
      refine y_callV (pc := 68) (As := [.int x1, .int x2, .int x9]) (rest := []) C (mX5_stateThen (fu := fu) eq108) vwX5_86 rfl (by decide) hx0 rfl rfl (Nat.le_of_ble_eq_true rfl) ⟨Nat.le_of_ble_eq_true rfl, Nat.le_of_ble_eq_true rfl⟩ ⟨Nat.le_refl _, Nat.le_refl _⟩ dX5_settle_68 ?_
      show Y _ _ _ _ _ _ _ _ _ _ _ _ _ _ _ _ _ _ q108.2 71 [(0, .ref (ad x0)), (1, .int x1), (2, .int x2), (3, .int x3), (4, .int x4), (5, .int x5), (6, .int x6), (7, .int x7), (8, .int x8), (9, .int x9)] [.int q108.1]
      refine y_istore (pc := 71) (lv' := [(10, .int q108.1), (0, .ref (ad x0)), (1, .int x1), (2, .int x2), (3, .int x3), (4, .int x4), (5, .int x5), (6, .int x6), (7, .int x7), (8, .int x8), (9, .int x9)]) C dX5_settle_71 (by decide) rfl ?_
      refine y_iload (pc := 73) (q := 6) C dX5_settle_73 rfl ?_
      refine y_aload_n (pc := 75) (q := 1) C dX5_settle_75 rfl rfl ?_
      refine y_getr (pc := 76) C faX5_11 rfl hx0 dX5_settle_76 ?_
      refine y_iload (pc := 79) (q := 0) C dX5_settle_79 rfl ?_
      obtain ⟨v109, ev109, h⟩ := bdS h
      refine y_iald (pc := 81) (n := 2048) C (rf_3_0 _ hx0) (by decide) ev109 dX5_settle_81 ?_
      refine y_iadd (pc := 82) C dX5_settle_82 ?_
      obtain ⟨y110, ey110, h⟩ := nmS h
      refine y_nmI y110 ey110 ?_
      refine y_istore (pc := 83) (lv' := [(5, .int y110), (10, .int q108.1), (0, .ref (ad x0)), (1, .int x1), (2, .int x2), (3, .int x3), (4, .int x4), (6, .int x6), (7, .int x7), (8, .int x8), (9, .int x9)]) C dX5_settle_83 (by decide) rfl ?_
      refine y_iload (pc := 85) (q := 7) C dX5_settle_85 rfl ?_
      refine y_aload_n (pc := 87) (q := 2) C dX5_settle_87 rfl rfl ?_
      refine y_getr (pc := 88) C faX5_18 rfl hx0 dX5_settle_88 ?_
      refine y_iload (pc := 91) (q := 10) C dX5_settle_91 rfl ?_
      refine y_bipush (pc := 93) (v := (7 : Int32)) C dX5_settle_93 (by decide) ?_
      refine y_imul (pc := 95) C dX5_settle_95 ?_
      refine y_iload (pc := 96) (q := 8) C dX5_settle_96 rfl ?_
      refine y_iadd (pc := 98) C dX5_settle_98 ?_
      obtain ⟨v111, ev111, h⟩ := bdS h
      refine y_iald (pc := 99) (n := 49) C (rf_3_2 _ hx0) (by decide) ev111 dX5_settle_99 ?_
      refine y_aload_n (pc := 100) (q := 2) C dX5_settle_100 rfl rfl ?_
      refine y_getr (pc := 101) C faX5_15 rfl hx0 dX5_settle_101 ?_
      refine y_iload (pc := 104) (q := 1) C dX5_settle_104 rfl ?_
      obtain ⟨v112, ev112, h⟩ := bdS h
      refine y_iald (pc := 106) (n := 2048) C (rf_3_1 _ hx0) (by decide) ev112 dX5_settle_106 ?_
      refine y_jmax (pc := 107) C jwX5_110 (Nat.le_of_ble_eq_true rfl) (Nat.le_of_ble_eq_true rfl) ⟨Nat.le_refl _, Nat.le_refl _⟩ dX5_settle_107 ?_
      refine y_jmin (pc := 110) C jwX5_115 (Nat.le_of_ble_eq_true rfl) (Nat.le_of_ble_eq_true rfl) ⟨Nat.le_refl _, Nat.le_refl _⟩ dX5_settle_110 ?_
      obtain ⟨y113, ey113, h⟩ := nmS h
      refine y_nmI y113 ey113 ?_
      refine y_istore (pc := 113) (lv' := [(6, .int y113), (5, .int y110), (10, .int q108.1), (0, .ref (ad x0)), (1, .int x1), (2, .int x2), (3, .int x3), (4, .int x4), (7, .int x7), (8, .int x8), (9, .int x9)]) C dX5_settle_113 (by decide) rfl ?_
      refine y_sub [3, 4, 5, 6, 7, 1, 0, 8, 9, 10] (lv' := [(0, .ref (ad x0)), (1, .int x1), (2, .int x2), (3, .int x3), (4, .int x4), (5, .int y110), (6, .int y113), (7, .int x7), (8, .int x8), (9, .int x9)]) rfl ?_
      exact tX5_settle_115 (fu := fu) C hx0 hk44 h
noncomputable def fX5_settle_44 (fu : Nat) (x0 : Nat) (x1 : Int32) (x2 : Int32) (x3 : Int32) (x4 : Int32) : Nat → Int32 → Int32 → Int32 → Int32 → Int32 → St → Option (St) := lp (fun k44 => fX5_settle_44b fu k44 x0 x1 x2 x3 x4) (fun _ _ _ _ _ _ => none)
set_option maxHeartbeats 4000000 in
theorem tX5_settle_44 {l : Launch} {D : va_G} {cA : ClassId} {bs : Nat} {ad : Nat → Nat} {p : Program} {e : Env} {s : State} {m : MethodId} {args : Array Value} {below : List Frame} {meth : Method} {c : Code} {fu : Nat} (C : Cx D cA bs ad RX5 cX5_settle 11 none p s m args meth c) {x0 : Nat} {x1 : Int32} {x2 : Int32} {x3 : Int32} {x4 : Int32} {q : St} (hx0 : xk x0 = 3)  : ∀ (n : Nat) (x5 : Int32) (x6 : Int32) (x7 : Int32) (x8 : Int32) (x9 : Int32) (σ : St), fX5_settle_44 fu  x0 x1 x2 x3 x4 n x5 x6 x7 x8 x9 σ = some q → Y D cA bs ad p l e (rmY 3 66) s m args below meth c 11 0 0 (QM D cA bs ad below args s none q) σ 44 [(0, .ref (ad x0)), (1, .int x1), (2, .int x2), (3, .int x3), (4, .int x4), (5, .int x5), (6, .int x6), (7, .int x7), (8, .int x8), (9, .int x9)] [] := by
  intro n
  induction n with
  | zero => intro x5 x6 x7 x8 x9 σ h; cases h
  | succ n ih => intro x5 x6 x7 x8 x9 σ h; exact tX5_settle_44b (fu := fu) C hx0 ih h
noncomputable def fX5_settle_24 (fu : Nat) (x0 : Nat) (x1 : Int32) (x2 : Int32) (x3 : Int32) (x4 : Int32) (x5 : Int32) (s0 : Int32) (σ : St) : Option (St) :=
  (fJ6_bitCount_0f7a4 fu x1 σ).bind fun (q101 : Int32 × St) =>
  (fX5_openTo fu x0 x1 x2 x3 q101.2).bind fun (q102 : Int32 × St) =>
  fX5_settle_44 fu x0 x1 x2 x3 x4 fu x5 s0 q101.1 q102.1 (0 : Int32) q102.2
set_option maxHeartbeats 4000000 in
set_option maxRecDepth 100000 in
theorem tX5_settle_24 {l : Launch} {D : va_G} {cA : ClassId} {bs : Nat} {ad : Nat → Nat} {p : Program} {e : Env} {s : State} {m : MethodId} {args : Array Value} {below : List Frame} {meth : Method} {c : Code} {fu : Nat} (C : Cx D cA bs ad RX5 cX5_settle 11 none p s m args meth c) {x0 : Nat} {x1 : Int32} {x2 : Int32} {x3 : Int32} {x4 : Int32} {x5 : Int32} {s0 : Int32} {q : St} (hx0 : xk x0 = 3) {σ : St} (h : fX5_settle_24 fu x0 x1 x2 x3 x4 x5 s0 σ = some q) : Y D cA bs ad p l e (rmY 3 66) s m args below meth c 11 0 0 (QM D cA bs ad below args s none q) σ 24 [(0, .ref (ad x0)), (1, .int x1), (2, .int x2), (3, .int x3), (4, .int x4), (5, .int x5)] [.int s0] := by
  unfold fX5_settle_24 at h
  refine y_istore (pc := 24) (lv' := [(6, .int s0), (0, .ref (ad x0)), (1, .int x1), (2, .int x2), (3, .int x3), (4, .int x4), (5, .int x5)]) C dX5_settle_24 (by decide) rfl ?_
  refine y_iload_n (pc := 26) (q := 2) C dX5_settle_26 rfl rfl ?_
  obtain ⟨q101, eq101, h⟩ := bdS h
  refine y_callS (pc := 27) (As := [.int x1]) (rest := []) C (mJ6_bitCount_0f7a4 (fu := fu) eq101) vwX5_76 rfl rfl (Nat.le_of_ble_eq_true rfl) ⟨Nat.le_of_ble_eq_true rfl, Nat.le_of_ble_eq_true rfl⟩ ⟨Nat.le_refl _, Nat.le_refl _⟩ dX5_settle_27 ?_
  show Y _ _ _ _ _ _ _ _ _ _ _ _ _ _ _ _ _ _ q101.2 30 [(6, .int s0), (0, .ref (ad x0)), (1, .int x1), (2, .int x2), (3, .int x3), (4, .int x4), (5, .int x5)] [.int q101.1]
  refine y_istore (pc := 30) (lv' := [(7, .int q101.1), (6, .int s0), (0, .ref (ad x0)), (1, .int x1), (2, .int x2), (3, .int x3), (4, .int x4), (5, .int x5)]) C dX5_settle_30 (by decide) rfl ?_
  refine y_aload_n (pc := 32) (q := 2) C dX5_settle_32 rfl rfl ?_
  refine y_iload_n (pc := 33) (q := 3) C dX5_settle_33 rfl rfl ?_
  refine y_iload_n (pc := 34) (q := 4) C dX5_settle_34 rfl rfl ?_
  refine y_iload_n (pc := 35) (q := 5) C dX5_settle_35 rfl rfl ?_
  obtain ⟨q102, eq102, h⟩ := bdS h
  refine y_callV (pc := 36) (As := [.int x1, .int x2, .int x3]) (rest := []) C (mX5_openTo (fu := fu) eq102) vwX5_82 rfl (by decide) hx0 rfl rfl (Nat.le_of_ble_eq_true rfl) ⟨Nat.le_of_ble_eq_true rfl, Nat.le_of_ble_eq_true rfl⟩ ⟨Nat.le_refl _, Nat.le_refl _⟩ dX5_settle_36 ?_
  show Y _ _ _ _ _ _ _ _ _ _ _ _ _ _ _ _ _ _ q102.2 39 [(7, .int q101.1), (6, .int s0), (0, .ref (ad x0)), (1, .int x1), (2, .int x2), (3, .int x3), (4, .int x4), (5, .int x5)] [.int q102.1]
  refine y_istore (pc := 39) (lv' := [(8, .int q102.1), (7, .int q101.1), (6, .int s0), (0, .ref (ad x0)), (1, .int x1), (2, .int x2), (3, .int x3), (4, .int x4), (5, .int x5)]) C dX5_settle_39 (by decide) rfl ?_
  refine y_iconst (pc := 41) (v := (0 : Int32)) C dX5_settle_41 (by decide) ?_
  refine y_istore (pc := 42) (lv' := [(9, .int (0 : Int32)), (8, .int q102.1), (7, .int q101.1), (6, .int s0), (0, .ref (ad x0)), (1, .int x1), (2, .int x2), (3, .int x3), (4, .int x4), (5, .int x5)]) C dX5_settle_42 (by decide) rfl ?_
  refine y_sub [4, 5, 6, 7, 8, 9, 3, 2, 1, 0] (lv' := [(0, .ref (ad x0)), (1, .int x1), (2, .int x2), (3, .int x3), (4, .int x4), (5, .int x5), (6, .int s0), (7, .int q101.1), (8, .int q102.1), (9, .int (0 : Int32))]) rfl ?_
  exact tX5_settle_44 (fu := fu) C hx0 fu _ _ _ _ _ _ h
noncomputable def fX5_settle_10 (fu : Nat) (x0 : Nat) (x1 : Int32) (x2 : Int32) (x3 : Int32) (x4 : Int32) (s0 : Int32) (σ : St) : Option (St) :=
  if x4 = 0 then
    fX5_settle_24 fu x0 x1 x2 x3 x4 s0 (1000 : Int32) σ
  else
    fX5_settle_24 fu x0 x1 x2 x3 x4 s0 (0 : Int32) σ
set_option maxHeartbeats 4000000 in
set_option maxRecDepth 100000 in
theorem tX5_settle_10 {l : Launch} {D : va_G} {cA : ClassId} {bs : Nat} {ad : Nat → Nat} {p : Program} {e : Env} {s : State} {m : MethodId} {args : Array Value} {below : List Frame} {meth : Method} {c : Code} {fu : Nat} (C : Cx D cA bs ad RX5 cX5_settle 11 none p s m args meth c) {x0 : Nat} {x1 : Int32} {x2 : Int32} {x3 : Int32} {x4 : Int32} {s0 : Int32} {q : St} (hx0 : xk x0 = 3) {σ : St} (h : fX5_settle_10 fu x0 x1 x2 x3 x4 s0 σ = some q) : Y D cA bs ad p l e (rmY 3 66) s m args below meth c 11 0 0 (QM D cA bs ad below args s none q) σ 10 [(0, .ref (ad x0)), (1, .int x1), (2, .int x2), (3, .int x3), (4, .int x4)] [.int s0] := by
  unfold fX5_settle_10 at h
  refine y_istore (pc := 10) (lv' := [(5, .int s0), (0, .ref (ad x0)), (1, .int x1), (2, .int x2), (3, .int x3), (4, .int x4)]) C dX5_settle_10 (by decide) rfl ?_
  refine y_iload (pc := 12) (q := 5) C dX5_settle_12 rfl ?_
  refine y_if_eq (pc := 14) (tgt := 21) C dX5_settle_14 (by decide) (fun c101 => ?_) (fun c101 => ?_)
  · rw [if_pos c101] at h
    refine y_sipush (pc := 21) (v := (1000 : Int32)) C dX5_settle_21 (by decide) ?_
    refine y_sub [1, 2, 3, 4, 5, 0] (lv' := [(0, .ref (ad x0)), (1, .int x1), (2, .int x2), (3, .int x3), (4, .int x4), (5, .int s0)]) rfl ?_
    exact tX5_settle_24 (fu := fu) C hx0 h
  · rw [if_neg c101] at h
    refine y_iconst (pc := 17) (v := (0 : Int32)) C dX5_settle_17 (by decide) ?_
    refine y_goto (pc := 18) (tgt := 24) C dX5_settle_18 (by decide) ?_
    refine y_sub [1, 2, 3, 4, 5, 0] (lv' := [(0, .ref (ad x0)), (1, .int x1), (2, .int x2), (3, .int x3), (4, .int x4), (5, .int s0)]) rfl ?_
    exact tX5_settle_24 (fu := fu) C hx0 h
noncomputable def fX5_settle_0 (fu : Nat) (x0 : Nat) (x1 : Int32) (x2 : Int32) (x3 : Int32) (x4 : Int32) (σ : St) : Option (St) :=
  if x4 = 0 then
    fX5_settle_10 fu x0 x1 x2 x3 x4 (0 : Int32) σ
  else
    fX5_settle_10 fu x0 x1 x2 x3 x4 (1 : Int32) σ
set_option maxHeartbeats 4000000 in
set_option maxRecDepth 100000 in
theorem tX5_settle_0 {l : Launch} {D : va_G} {cA : ClassId} {bs : Nat} {ad : Nat → Nat} {p : Program} {e : Env} {s : State} {m : MethodId} {args : Array Value} {below : List Frame} {meth : Method} {c : Code} {fu : Nat} (C : Cx D cA bs ad RX5 cX5_settle 11 none p s m args meth c) {x0 : Nat} {x1 : Int32} {x2 : Int32} {x3 : Int32} {x4 : Int32} {q : St} (hx0 : xk x0 = 3) {σ : St} (h : fX5_settle_0 fu x0 x1 x2 x3 x4 σ = some q) : Y D cA bs ad p l e (rmY 3 66) s m args below meth c 11 0 0 (QM D cA bs ad below args s none q) σ 0 [(0, .ref (ad x0)), (1, .int x1), (2, .int x2), (3, .int x3), (4, .int x4)] [] := by
  unfold fX5_settle_0 at h
  refine y_iload (pc := 0) (q := 4) C dX5_settle_0 rfl ?_
  refine y_if_eq (pc := 2) (tgt := 9) C dX5_settle_2 (by decide) (fun c101 => ?_) (fun c101 => ?_)
  · rw [if_pos c101] at h
    refine y_iconst (pc := 9) (v := (0 : Int32)) C dX5_settle_9 (by decide) ?_
    exact tX5_settle_10 (fu := fu) C hx0 h
  · rw [if_neg c101] at h
    refine y_iconst (pc := 5) (v := (1 : Int32)) C dX5_settle_5 (by decide) ?_
    refine y_goto (pc := 6) (tgt := 10) C dX5_settle_6 (by decide) ?_
    exact tX5_settle_10 (fu := fu) C hx0 h
noncomputable def fX5_settle (fu : Nat) (x0 : Nat) (x1 : Int32) (x2 : Int32) (x3 : Int32) (x4 : Int32) (σ : St) : Option (St) := if xk x0 = 3 then fX5_settle_0 fu x0 x1 x2 x3 x4 σ else none
theorem mX5_settle {l : Launch} {D : va_G} {cA : ClassId} {bs fu : Nat} {ad : Nat → Nat} {x0 : Nat} {x1 : Int32} {x2 : Int32} {x3 : Int32} {x4 : Int32} {σ : St} {q : St} (h : fX5_settle fu x0 x1 x2 x3 x4 σ = some q) : Ct l D cA bs ad yX5_settle cX5_settle 11 none 3 66 [.ref (ad x0), .int x1, .int x2, .int x3, .int x4] σ none q := by
  unfold fX5_settle at h
  by_cases hx0 : xk x0 = 3
  case neg => rw [if_neg hx0] at h; cases h
  rw [if_pos hx0] at h
  exact Ct.of (by decide) (Nat.le_of_ble_eq_true rfl) (fun p e s m args below meth c C => tX5_settle_0 (fu := fu) C hx0 h)
noncomputable def fX5_study_105 (fu : Nat) (k32 : Int32 → Int32 → St → Option (St)) (k41 : Int32 → Int32 → Int32 → St → Option (St)) (x0 : Nat) (x1 : Nat) (x2 : Nat) (x3 : Int32) (x4 : Int32) (x5 : Int32) (σ : St) : Option (St) :=
  nm (x5 + (1 : Int32)) fun (y101 : Int32) =>
  k41 x3 x4 y101 σ
set_option maxHeartbeats 4000000 in
set_option maxRecDepth 100000 in
theorem tX5_study_105 {l : Launch} {D : va_G} {cA : ClassId} {bs : Nat} {ad : Nat → Nat} {p : Program} {e : Env} {s : State} {m : MethodId} {args : Array Value} {below : List Frame} {meth : Method} {c : Code} {fu : Nat} (C : Cx D cA bs ad RX5 cX5_study 6 none p s m args meth c) {k32 : Int32 → Int32 → St → Option (St)} {k41 : Int32 → Int32 → Int32 → St → Option (St)} {x0 : Nat} {x1 : Nat} {x2 : Nat} {x3 : Int32} {x4 : Int32} {x5 : Int32} {q : St} (hx0 : xk x0 = 3) (hx1 : xk x1 = 6) (hx2 : xk x2 = 2) (hk32 : ∀ (x3 : Int32) (x4 : Int32) (σ : St), k32 x3 x4 σ = some q → Y D cA bs ad p l e (rmY 4 96) s m args below meth c 6 0 0 (QM D cA bs ad below args s none q) σ 32 [(0, .ref (ad x0)), (1, .ref (ad x1)), (2, .ref (ad x2)), (3, .int x3), (4, .int x4)] []) (hk41 : ∀ (x3 : Int32) (x4 : Int32) (x5 : Int32) (σ : St), k41 x3 x4 x5 σ = some q → Y D cA bs ad p l e (rmY 4 96) s m args below meth c 6 0 0 (QM D cA bs ad below args s none q) σ 41 [(0, .ref (ad x0)), (1, .ref (ad x1)), (2, .ref (ad x2)), (3, .int x3), (4, .int x4), (5, .int x5)] []) {σ : St} (h : fX5_study_105 fu k32 k41 x0 x1 x2 x3 x4 x5 σ = some q) : Y D cA bs ad p l e (rmY 4 96) s m args below meth c 6 0 0 (QM D cA bs ad below args s none q) σ 105 [(0, .ref (ad x0)), (1, .ref (ad x1)), (2, .ref (ad x2)), (3, .int x3), (4, .int x4), (5, .int x5)] [] := by
  unfold fX5_study_105 at h
  obtain ⟨y101, ey101, h⟩ := nmS h
  refine y_iinc (pc := 105) (v := y101) (k := 5) (lv' := [(5, .int y101), (0, .ref (ad x0)), (1, .ref (ad x1)), (2, .ref (ad x2)), (3, .int x3), (4, .int x4)]) C dX5_study_105 rfl (by rw [ey101]; rfl) (by decide) rfl ?_
  refine y_goto (pc := 108) (tgt := 41) C dX5_study_108 (by decide) ?_
  refine y_sub [1, 2, 3, 4, 5, 0] (lv' := [(0, .ref (ad x0)), (1, .ref (ad x1)), (2, .ref (ad x2)), (3, .int x3), (4, .int x4), (5, .int y101)]) rfl ?_
  exact hk41 _ _ _ _ h
noncomputable def fX5_study_80 (fu : Nat) (k32 : Int32 → Int32 → St → Option (St)) (k41 : Int32 → Int32 → Int32 → St → Option (St)) (x0 : Nat) (x1 : Nat) (x2 : Nat) (x3 : Int32) (x4 : Int32) (x5 : Int32) (σ : St) : Option (St) :=
  (fX5_isIn fu (x4 &&& (σ.1 x0 6)) x5 σ).bind fun (q101 : Int32 × St) =>
  if q101.1 = 0 then
    fX5_study_105 fu k32 k41 x0 x1 x2 x3 x4 x5 q101.2
  else
    (fX5_settle fu x0 x4 x5 (1 : Int32) (0 : Int32) q101.2).bind fun (q103 : St) =>
    fX5_study_105 fu k32 k41 x0 x1 x2 x3 x4 x5 q103
set_option maxHeartbeats 4000000 in
set_option maxRecDepth 100000 in
theorem tX5_study_80 {l : Launch} {D : va_G} {cA : ClassId} {bs : Nat} {ad : Nat → Nat} {p : Program} {e : Env} {s : State} {m : MethodId} {args : Array Value} {below : List Frame} {meth : Method} {c : Code} {fu : Nat} (C : Cx D cA bs ad RX5 cX5_study 6 none p s m args meth c) {k32 : Int32 → Int32 → St → Option (St)} {k41 : Int32 → Int32 → Int32 → St → Option (St)} {x0 : Nat} {x1 : Nat} {x2 : Nat} {x3 : Int32} {x4 : Int32} {x5 : Int32} {q : St} (hx0 : xk x0 = 3) (hx1 : xk x1 = 6) (hx2 : xk x2 = 2) (hk32 : ∀ (x3 : Int32) (x4 : Int32) (σ : St), k32 x3 x4 σ = some q → Y D cA bs ad p l e (rmY 4 96) s m args below meth c 6 0 0 (QM D cA bs ad below args s none q) σ 32 [(0, .ref (ad x0)), (1, .ref (ad x1)), (2, .ref (ad x2)), (3, .int x3), (4, .int x4)] []) (hk41 : ∀ (x3 : Int32) (x4 : Int32) (x5 : Int32) (σ : St), k41 x3 x4 x5 σ = some q → Y D cA bs ad p l e (rmY 4 96) s m args below meth c 6 0 0 (QM D cA bs ad below args s none q) σ 41 [(0, .ref (ad x0)), (1, .ref (ad x1)), (2, .ref (ad x2)), (3, .int x3), (4, .int x4), (5, .int x5)] []) {σ : St} (h : fX5_study_80 fu k32 k41 x0 x1 x2 x3 x4 x5 σ = some q) : Y D cA bs ad p l e (rmY 4 96) s m args below meth c 6 0 0 (QM D cA bs ad below args s none q) σ 80 [(0, .ref (ad x0)), (1, .ref (ad x1)), (2, .ref (ad x2)), (3, .int x3), (4, .int x4), (5, .int x5)] [] := by
  unfold fX5_study_80 at h
  refine y_iload (pc := 80) (q := 4) C dX5_study_80 rfl ?_
  refine y_aload_n (pc := 82) (q := 0) C dX5_study_82 rfl rfl ?_
  refine y_geti (pc := 83) C faX5_55 rfl hx0 dX5_study_83 ?_
  refine y_iand (pc := 86) C dX5_study_86 ?_
  refine y_iload (pc := 87) (q := 5) C dX5_study_87 rfl ?_
  obtain ⟨q101, eq101, h⟩ := bdS h
  refine y_callS (pc := 89) (As := [.int (x4 &&& (σ.1 x0 6)), .int x5]) (rest := []) C (mX5_isIn (fu := fu) eq101) vwX5_47 rfl rfl (Nat.le_of_ble_eq_true rfl) ⟨Nat.le_of_ble_eq_true rfl, Nat.le_of_ble_eq_true rfl⟩ ⟨Nat.le_refl _, Nat.le_refl _⟩ dX5_study_89 ?_
  show Y _ _ _ _ _ _ _ _ _ _ _ _ _ _ _ _ _ _ q101.2 92 [(0, .ref (ad x0)), (1, .ref (ad x1)), (2, .ref (ad x2)), (3, .int x3), (4, .int x4), (5, .int x5)] [.int q101.1]
  refine y_if_eq (pc := 92) (tgt := 105) C dX5_study_92 (by decide) (fun c102 => ?_) (fun c102 => ?_)
  · rw [if_pos c102] at h
    exact tX5_study_105 (fu := fu) C hx0 hx1 hx2 hk32 hk41 h
  · rw [if_neg c102] at h
    refine y_aload_n (pc := 95) (q := 0) C dX5_study_95 rfl rfl ?_
    refine y_iload (pc := 96) (q := 4) C dX5_study_96 rfl ?_
    refine y_iload (pc := 98) (q := 5) C dX5_study_98 rfl ?_
    refine y_iconst (pc := 100) (v := (1 : Int32)) C dX5_study_100 (by decide) ?_
    refine y_iconst (pc := 101) (v := (0 : Int32)) C dX5_study_101 (by decide) ?_
    obtain ⟨q103, eq103, h⟩ := bdS h
    refine y_callV (pc := 102) (As := [.int x4, .int x5, .int (1 : Int32), .int (0 : Int32)]) (rest := []) C (mX5_settle (fu := fu) eq103) vwX5_51 rfl (by decide) hx0 rfl rfl (Nat.le_of_ble_eq_true rfl) ⟨Nat.le_of_ble_eq_true rfl, Nat.le_of_ble_eq_true rfl⟩ ⟨Nat.le_refl _, Nat.le_refl _⟩ dX5_study_102 ?_
    show Y _ _ _ _ _ _ _ _ _ _ _ _ _ _ _ _ _ _ q103 105 [(0, .ref (ad x0)), (1, .ref (ad x1)), (2, .ref (ad x2)), (3, .int x3), (4, .int x4), (5, .int x5)] []
    exact tX5_study_105 (fu := fu) C hx0 hx1 hx2 hk32 hk41 h
noncomputable def fX5_study_77 (fu : Nat) (k32 : Int32 → Int32 → St → Option (St)) (k41 : Int32 → Int32 → Int32 → St → Option (St)) (x0 : Nat) (x1 : Nat) (x2 : Nat) (x3 : Int32) (x4 : Int32) (x5 : Int32) (s0 : Nat) (s1 : Int32) (s2 : Int32) (s3 : Int32) (s4 : Int32) (σ : St) : Option (St) :=
  (fX5_settle fu s0 s1 s2 s3 s4 σ).bind fun (q101 : St) =>
  fX5_study_80 fu k32 k41 x0 x1 x2 x3 x4 x5 q101
set_option maxHeartbeats 4000000 in
set_option maxRecDepth 100000 in
theorem tX5_study_77 {l : Launch} {D : va_G} {cA : ClassId} {bs : Nat} {ad : Nat → Nat} {p : Program} {e : Env} {s : State} {m : MethodId} {args : Array Value} {below : List Frame} {meth : Method} {c : Code} {fu : Nat} (C : Cx D cA bs ad RX5 cX5_study 6 none p s m args meth c) {k32 : Int32 → Int32 → St → Option (St)} {k41 : Int32 → Int32 → Int32 → St → Option (St)} {x0 : Nat} {x1 : Nat} {x2 : Nat} {x3 : Int32} {x4 : Int32} {x5 : Int32} {s0 : Nat} {s1 : Int32} {s2 : Int32} {s3 : Int32} {s4 : Int32} {q : St} (hx0 : xk x0 = 3) (hx1 : xk x1 = 6) (hx2 : xk x2 = 2) (hs0 : xk s0 = 3) (hk32 : ∀ (x3 : Int32) (x4 : Int32) (σ : St), k32 x3 x4 σ = some q → Y D cA bs ad p l e (rmY 4 96) s m args below meth c 6 0 0 (QM D cA bs ad below args s none q) σ 32 [(0, .ref (ad x0)), (1, .ref (ad x1)), (2, .ref (ad x2)), (3, .int x3), (4, .int x4)] []) (hk41 : ∀ (x3 : Int32) (x4 : Int32) (x5 : Int32) (σ : St), k41 x3 x4 x5 σ = some q → Y D cA bs ad p l e (rmY 4 96) s m args below meth c 6 0 0 (QM D cA bs ad below args s none q) σ 41 [(0, .ref (ad x0)), (1, .ref (ad x1)), (2, .ref (ad x2)), (3, .int x3), (4, .int x4), (5, .int x5)] []) {σ : St} (h : fX5_study_77 fu k32 k41 x0 x1 x2 x3 x4 x5 s0 s1 s2 s3 s4 σ = some q) : Y D cA bs ad p l e (rmY 4 96) s m args below meth c 6 0 0 (QM D cA bs ad below args s none q) σ 77 [(0, .ref (ad x0)), (1, .ref (ad x1)), (2, .ref (ad x2)), (3, .int x3), (4, .int x4), (5, .int x5)] [.int s4, .int s3, .int s2, .int s1, .ref (ad s0)] := by
  unfold fX5_study_77 at h
  obtain ⟨q101, eq101, h⟩ := bdS h
  refine y_callV (pc := 77) (As := [.int s1, .int s2, .int s3, .int s4]) (rest := []) C (mX5_settle (fu := fu) eq101) vwX5_51 rfl (by decide) hs0 rfl rfl (Nat.le_of_ble_eq_true rfl) ⟨Nat.le_of_ble_eq_true rfl, Nat.le_of_ble_eq_true rfl⟩ ⟨Nat.le_refl _, Nat.le_refl _⟩ dX5_study_77 ?_
  show Y _ _ _ _ _ _ _ _ _ _ _ _ _ _ _ _ _ _ q101 80 [(0, .ref (ad x0)), (1, .ref (ad x1)), (2, .ref (ad x2)), (3, .int x3), (4, .int x4), (5, .int x5)] []
  exact tX5_study_80 (fu := fu) C hx0 hx1 hx2 hk32 hk41 h
noncomputable def fX5_study_41b (fu : Nat) (k32 : Int32 → Int32 → St → Option (St)) (k41 : Int32 → Int32 → Int32 → St → Option (St)) (x0 : Nat) (x1 : Nat) (x2 : Nat) (x3 : Int32) (x4 : Int32) (x5 : Int32) (σ : St) : Option (St) :=
  if (σ.1 x0 5) ≤ x5 then
    nm (x4 + (-1 : Int32)) fun (y102 : Int32) =>
    k32 x3 y102 σ
  else
    (fX5_isIn fu x4 x5 σ).bind fun (q103 : Int32 × St) =>
    if q103.1 = 0 then
      fX5_study_80 fu k32 k41 x0 x1 x2 x3 x4 x5 q103.2
    else
      if x4 = x3 then
        fX5_study_77 fu k32 k41 x0 x1 x2 x3 x4 x5 x0 x4 x5 (0 : Int32) (1 : Int32) q103.2
      else
        fX5_study_77 fu k32 k41 x0 x1 x2 x3 x4 x5 x0 x4 x5 (0 : Int32) (0 : Int32) q103.2
set_option maxHeartbeats 4000000 in
set_option maxRecDepth 100000 in
theorem tX5_study_41b {l : Launch} {D : va_G} {cA : ClassId} {bs : Nat} {ad : Nat → Nat} {p : Program} {e : Env} {s : State} {m : MethodId} {args : Array Value} {below : List Frame} {meth : Method} {c : Code} {fu : Nat} (C : Cx D cA bs ad RX5 cX5_study 6 none p s m args meth c) {k32 : Int32 → Int32 → St → Option (St)} {k41 : Int32 → Int32 → Int32 → St → Option (St)} {x0 : Nat} {x1 : Nat} {x2 : Nat} {x3 : Int32} {x4 : Int32} {x5 : Int32} {q : St} (hx0 : xk x0 = 3) (hx1 : xk x1 = 6) (hx2 : xk x2 = 2) (hk32 : ∀ (x3 : Int32) (x4 : Int32) (σ : St), k32 x3 x4 σ = some q → Y D cA bs ad p l e (rmY 4 96) s m args below meth c 6 0 0 (QM D cA bs ad below args s none q) σ 32 [(0, .ref (ad x0)), (1, .ref (ad x1)), (2, .ref (ad x2)), (3, .int x3), (4, .int x4)] []) (hk41 : ∀ (x3 : Int32) (x4 : Int32) (x5 : Int32) (σ : St), k41 x3 x4 x5 σ = some q → Y D cA bs ad p l e (rmY 4 96) s m args below meth c 6 0 0 (QM D cA bs ad below args s none q) σ 41 [(0, .ref (ad x0)), (1, .ref (ad x1)), (2, .ref (ad x2)), (3, .int x3), (4, .int x4), (5, .int x5)] []) {σ : St} (h : fX5_study_41b fu k32 k41 x0 x1 x2 x3 x4 x5 σ = some q) : Y D cA bs ad p l e (rmY 4 96) s m args below meth c 6 0 0 (QM D cA bs ad below args s none q) σ 41 [(0, .ref (ad x0)), (1, .ref (ad x1)), (2, .ref (ad x2)), (3, .int x3), (4, .int x4), (5, .int x5)] [] := by
  unfold fX5_study_41b at h
  refine y_iload (pc := 41) (q := 5) C dX5_study_41 rfl ?_
  refine y_aload_n (pc := 43) (q := 0) C dX5_study_43 rfl rfl ?_
  refine y_geti (pc := 44) C faX5_37 rfl hx0 dX5_study_44 ?_
  refine y_icmp_ge (pc := 47) (tgt := 111) C dX5_study_47 (by decide) (fun c101 => ?_) (fun c101 => ?_)
  · rw [if_pos c101] at h
    obtain ⟨y102, ey102, h⟩ := nmS h
    refine y_iinc (pc := 111) (v := y102) (k := 4) (lv' := [(4, .int y102), (0, .ref (ad x0)), (1, .ref (ad x1)), (2, .ref (ad x2)), (3, .int x3), (5, .int x5)]) C dX5_study_111 rfl (by rw [ey102]; rfl) (by decide) rfl ?_
    refine y_goto (pc := 114) (tgt := 32) C dX5_study_114 (by decide) ?_
    refine y_sub [1, 2, 3, 4, 0] (lv' := [(0, .ref (ad x0)), (1, .ref (ad x1)), (2, .ref (ad x2)), (3, .int x3), (4, .int y102)]) rfl ?_
    exact hk32 _ _ _ h
  · rw [if_neg c101] at h
    refine y_iload (pc := 50) (q := 4) C dX5_study_50 rfl ?_
    refine y_iload (pc := 52) (q := 5) C dX5_study_52 rfl ?_
    obtain ⟨q103, eq103, h⟩ := bdS h
    refine y_callS (pc := 54) (As := [.int x4, .int x5]) (rest := []) C (mX5_isIn (fu := fu) eq103) vwX5_47 rfl rfl (Nat.le_of_ble_eq_true rfl) ⟨Nat.le_of_ble_eq_true rfl, Nat.le_of_ble_eq_true rfl⟩ ⟨Nat.le_refl _, Nat.le_refl _⟩ dX5_study_54 ?_
    show Y _ _ _ _ _ _ _ _ _ _ _ _ _ _ _ _ _ _ q103.2 57 [(0, .ref (ad x0)), (1, .ref (ad x1)), (2, .ref (ad x2)), (3, .int x3), (4, .int x4), (5, .int x5)] [.int q103.1]
    refine y_if_eq (pc := 57) (tgt := 80) C dX5_study_57 (by decide) (fun c104 => ?_) (fun c104 => ?_)
    · rw [if_pos c104] at h
      exact tX5_study_80 (fu := fu) C hx0 hx1 hx2 hk32 hk41 h
    · rw [if_neg c104] at h
      refine y_aload_n (pc := 60) (q := 0) C dX5_study_60 rfl rfl ?_
      refine y_iload (pc := 61) (q := 4) C dX5_study_61 rfl ?_
      refine y_iload (pc := 63) (q := 5) C dX5_study_63 rfl ?_
      refine y_iconst (pc := 65) (v := (0 : Int32)) C dX5_study_65 (by decide) ?_
      refine y_iload (pc := 66) (q := 4) C dX5_study_66 rfl ?_
      refine y_iload_n (pc := 68) (q := 3) C dX5_study_68 rfl rfl ?_
      refine y_icmp_ne (pc := 69) (tgt := 76) C dX5_study_69 (by decide) (fun c105 => ?_) (fun c105 => ?_)
      · rw [if_neg c105] at h
        refine y_iconst (pc := 76) (v := (0 : Int32)) C dX5_study_76 (by decide) ?_
        exact tX5_study_77 (fu := fu) C hx0 hx1 hx2 hx0 hk32 hk41 h
      · rw [if_pos c105] at h
        refine y_iconst (pc := 72) (v := (1 : Int32)) C dX5_study_72 (by decide) ?_
        refine y_goto (pc := 73) (tgt := 77) C dX5_study_73 (by decide) ?_
        exact tX5_study_77 (fu := fu) C hx0 hx1 hx2 hx0 hk32 hk41 h
noncomputable def fX5_study_41 (fu : Nat) (k32 : Int32 → Int32 → St → Option (St)) (x0 : Nat) (x1 : Nat) (x2 : Nat) : Nat → Int32 → Int32 → Int32 → St → Option (St) := lp (fun k41 => fX5_study_41b fu k32 k41 x0 x1 x2) (fun _ _ _ _ => none)
set_option maxHeartbeats 4000000 in
theorem tX5_study_41 {l : Launch} {D : va_G} {cA : ClassId} {bs : Nat} {ad : Nat → Nat} {p : Program} {e : Env} {s : State} {m : MethodId} {args : Array Value} {below : List Frame} {meth : Method} {c : Code} {fu : Nat} (C : Cx D cA bs ad RX5 cX5_study 6 none p s m args meth c) {k32 : Int32 → Int32 → St → Option (St)} {x0 : Nat} {x1 : Nat} {x2 : Nat} {q : St} (hx0 : xk x0 = 3) (hx1 : xk x1 = 6) (hx2 : xk x2 = 2) (hk32 : ∀ (x3 : Int32) (x4 : Int32) (σ : St), k32 x3 x4 σ = some q → Y D cA bs ad p l e (rmY 4 96) s m args below meth c 6 0 0 (QM D cA bs ad below args s none q) σ 32 [(0, .ref (ad x0)), (1, .ref (ad x1)), (2, .ref (ad x2)), (3, .int x3), (4, .int x4)] []) : ∀ (n : Nat) (x3 : Int32) (x4 : Int32) (x5 : Int32) (σ : St), fX5_study_41 fu k32 x0 x1 x2 n x3 x4 x5 σ = some q → Y D cA bs ad p l e (rmY 4 96) s m args below meth c 6 0 0 (QM D cA bs ad below args s none q) σ 41 [(0, .ref (ad x0)), (1, .ref (ad x1)), (2, .ref (ad x2)), (3, .int x3), (4, .int x4), (5, .int x5)] [] := by
  intro n
  induction n with
  | zero => intro x3 x4 x5 σ h; cases h
  | succ n ih => intro x3 x4 x5 σ h; exact tX5_study_41b (fu := fu) C hx0 hx1 hx2 hk32 ih h
noncomputable def fX5_study_32b (fu : Nat) (k32 : Int32 → Int32 → St → Option (St)) (x0 : Nat) (x1 : Nat) (x2 : Nat) (x3 : Int32) (x4 : Int32) (σ : St) : Option (St) :=
  if x4 < (1 : Int32) then
    (fX5_settle fu x0 (0 : Int32) (7 : Int32) (0 : Int32) (0 : Int32) σ).bind fun (q102 : St) =>
    some q102
  else
    fX5_study_41 fu k32 x0 x1 x2 fu x3 x4 (0 : Int32) σ
set_option maxHeartbeats 4000000 in
set_option maxRecDepth 100000 in
theorem tX5_study_32b {l : Launch} {D : va_G} {cA : ClassId} {bs : Nat} {ad : Nat → Nat} {p : Program} {e : Env} {s : State} {m : MethodId} {args : Array Value} {below : List Frame} {meth : Method} {c : Code} {fu : Nat} (C : Cx D cA bs ad RX5 cX5_study 6 none p s m args meth c) {k32 : Int32 → Int32 → St → Option (St)} {x0 : Nat} {x1 : Nat} {x2 : Nat} {x3 : Int32} {x4 : Int32} {q : St} (hx0 : xk x0 = 3) (hx1 : xk x1 = 6) (hx2 : xk x2 = 2) (hk32 : ∀ (x3 : Int32) (x4 : Int32) (σ : St), k32 x3 x4 σ = some q → Y D cA bs ad p l e (rmY 4 96) s m args below meth c 6 0 0 (QM D cA bs ad below args s none q) σ 32 [(0, .ref (ad x0)), (1, .ref (ad x1)), (2, .ref (ad x2)), (3, .int x3), (4, .int x4)] []) {σ : St} (h : fX5_study_32b fu k32 x0 x1 x2 x3 x4 σ = some q) : Y D cA bs ad p l e (rmY 4 96) s m args below meth c 6 0 0 (QM D cA bs ad below args s none q) σ 32 [(0, .ref (ad x0)), (1, .ref (ad x1)), (2, .ref (ad x2)), (3, .int x3), (4, .int x4)] [] := by
  unfold fX5_study_32b at h
  refine y_iload (pc := 32) (q := 4) C dX5_study_32 rfl ?_
  refine y_iconst (pc := 34) (v := (1 : Int32)) C dX5_study_34 (by decide) ?_
  refine y_icmp_lt (pc := 35) (tgt := 117) C dX5_study_35 (by decide) (fun c101 => ?_) (fun c101 => ?_)
  · rw [if_pos c101] at h
    refine y_aload_n (pc := 117) (q := 0) C dX5_study_117 rfl rfl ?_
    refine y_iconst (pc := 118) (v := (0 : Int32)) C dX5_study_118 (by decide) ?_
    refine y_bipush (pc := 119) (v := (7 : Int32)) C dX5_study_119 (by decide) ?_
    refine y_iconst (pc := 121) (v := (0 : Int32)) C dX5_study_121 (by decide) ?_
    refine y_iconst (pc := 122) (v := (0 : Int32)) C dX5_study_122 (by decide) ?_
    obtain ⟨q102, eq102, h⟩ := bdS h
    refine y_callV (pc := 123) (As := [.int (0 : Int32), .int (7 : Int32), .int (0 : Int32), .int (0 : Int32)]) (rest := []) C (mX5_settle (fu := fu) eq102) vwX5_51 rfl (by decide) hx0 rfl rfl (Nat.le_of_ble_eq_true rfl) ⟨Nat.le_of_ble_eq_true rfl, Nat.le_of_ble_eq_true rfl⟩ ⟨Nat.le_refl _, Nat.le_refl _⟩ dX5_study_123 ?_
    show Y _ _ _ _ _ _ _ _ _ _ _ _ _ _ _ _ _ _ q102 126 [(0, .ref (ad x0)), (1, .ref (ad x1)), (2, .ref (ad x2)), (3, .int x3), (4, .int x4)] []
    cases h
    exact y_vret (pc := 126) C dX5_study_126
  · rw [if_neg c101] at h
    refine y_iconst (pc := 38) (v := (0 : Int32)) C dX5_study_38 (by decide) ?_
    refine y_istore (pc := 39) (lv' := [(5, .int (0 : Int32)), (0, .ref (ad x0)), (1, .ref (ad x1)), (2, .ref (ad x2)), (3, .int x3), (4, .int x4)]) C dX5_study_39 (by decide) rfl ?_
    refine y_sub [1, 2, 3, 4, 5, 0] (lv' := [(0, .ref (ad x0)), (1, .ref (ad x1)), (2, .ref (ad x2)), (3, .int x3), (4, .int x4), (5, .int (0 : Int32))]) rfl ?_
    exact tX5_study_41 (fu := fu) C hx0 hx1 hx2 hk32 fu _ _ _ _ h
noncomputable def fX5_study_32 (fu : Nat) (x0 : Nat) (x1 : Nat) (x2 : Nat) : Nat → Int32 → Int32 → St → Option (St) := lp (fun k32 => fX5_study_32b fu k32 x0 x1 x2) (fun _ _ _ => none)
set_option maxHeartbeats 4000000 in
theorem tX5_study_32 {l : Launch} {D : va_G} {cA : ClassId} {bs : Nat} {ad : Nat → Nat} {p : Program} {e : Env} {s : State} {m : MethodId} {args : Array Value} {below : List Frame} {meth : Method} {c : Code} {fu : Nat} (C : Cx D cA bs ad RX5 cX5_study 6 none p s m args meth c) {x0 : Nat} {x1 : Nat} {x2 : Nat} {q : St} (hx0 : xk x0 = 3) (hx1 : xk x1 = 6) (hx2 : xk x2 = 2)  : ∀ (n : Nat) (x3 : Int32) (x4 : Int32) (σ : St), fX5_study_32 fu  x0 x1 x2 n x3 x4 σ = some q → Y D cA bs ad p l e (rmY 4 96) s m args below meth c 6 0 0 (QM D cA bs ad below args s none q) σ 32 [(0, .ref (ad x0)), (1, .ref (ad x1)), (2, .ref (ad x2)), (3, .int x3), (4, .int x4)] [] := by
  intro n
  induction n with
  | zero => intro x3 x4 σ h; cases h
  | succ n ih => intro x3 x4 σ h; exact tX5_study_32b (fu := fu) C hx0 hx1 hx2 ih h
noncomputable def fX5_study_0 (fu : Nat) (x0 : Nat) (x1 : Nat) (x2 : Nat) (σ : St) : Option (St) :=
  (fX8_size fu x1 σ).bind fun (q101 : Int32 × St) =>
  nm (si q101.2 x0 5 q101.1) fun (σ102 : St) =>
  (fX5_noteWear fu x0 x1 x2 σ102).bind fun (q103 : St) =>
  (fX5_noteNeighbours fu x0 x1 x2 q103).bind fun (q104 : St) =>
  nm (((1 : Int32) <<< ((q104.1 x0 5) &&& 31)) - (1 : Int32)) fun (y105 : Int32) =>
  fX5_study_32 fu x0 x1 x2 fu y105 y105 q104
set_option maxHeartbeats 4000000 in
set_option maxRecDepth 100000 in
theorem tX5_study_0 {l : Launch} {D : va_G} {cA : ClassId} {bs : Nat} {ad : Nat → Nat} {p : Program} {e : Env} {s : State} {m : MethodId} {args : Array Value} {below : List Frame} {meth : Method} {c : Code} {fu : Nat} (C : Cx D cA bs ad RX5 cX5_study 6 none p s m args meth c) {x0 : Nat} {x1 : Nat} {x2 : Nat} {q : St} (hx0 : xk x0 = 3) (hx1 : xk x1 = 6) (hx2 : xk x2 = 2) {σ : St} (h : fX5_study_0 fu x0 x1 x2 σ = some q) : Y D cA bs ad p l e (rmY 4 96) s m args below meth c 6 0 0 (QM D cA bs ad below args s none q) σ 0 [(0, .ref (ad x0)), (1, .ref (ad x1)), (2, .ref (ad x2))] [] := by
  unfold fX5_study_0 at h
  refine y_aload_n (pc := 0) (q := 0) C dX5_study_0 rfl rfl ?_
  refine y_aload_n (pc := 1) (q := 1) C dX5_study_1 rfl rfl ?_
  obtain ⟨q101, eq101, h⟩ := bdS h
  refine y_callV (pc := 2) (As := []) (rest := [.ref (ad x0)]) C (mX8_size (fu := fu) eq101) vwX5_31 rfl (by decide) hx1 rfl rfl (Nat.le_of_ble_eq_true rfl) ⟨Nat.le_of_ble_eq_true rfl, Nat.le_of_ble_eq_true rfl⟩ ⟨Nat.le_refl _, Nat.le_refl _⟩ dX5_study_2 ?_
  show Y _ _ _ _ _ _ _ _ _ _ _ _ _ _ _ _ _ _ q101.2 5 [(0, .ref (ad x0)), (1, .ref (ad x1)), (2, .ref (ad x2))] [.int q101.1, .ref (ad x0)]
  obtain ⟨σ102, eσ102, h⟩ := nmS h
  refine y_puti (pc := 5) C fpX5_37 rfl hx0 rfl rfl dX5_study_5 ?_
  rw [← eσ102]
  refine y_aload_n (pc := 8) (q := 0) C dX5_study_8 rfl rfl ?_
  refine y_aload_n (pc := 9) (q := 1) C dX5_study_9 rfl rfl ?_
  refine y_aload_n (pc := 10) (q := 2) C dX5_study_10 rfl rfl ?_
  obtain ⟨q103, eq103, h⟩ := bdS h
  refine y_callV (pc := 11) (As := [.ref (ad x1), .ref (ad x2)]) (rest := []) C (mX5_noteWear (fu := fu) eq103) vwX5_40 rfl (by decide) hx0 rfl rfl (Nat.le_of_ble_eq_true rfl) ⟨Nat.le_of_ble_eq_true rfl, Nat.le_of_ble_eq_true rfl⟩ ⟨Nat.le_refl _, Nat.le_refl _⟩ dX5_study_11 ?_
  show Y _ _ _ _ _ _ _ _ _ _ _ _ _ _ _ _ _ _ q103 14 [(0, .ref (ad x0)), (1, .ref (ad x1)), (2, .ref (ad x2))] []
  refine y_aload_n (pc := 14) (q := 0) C dX5_study_14 rfl rfl ?_
  refine y_aload_n (pc := 15) (q := 1) C dX5_study_15 rfl rfl ?_
  refine y_aload_n (pc := 16) (q := 2) C dX5_study_16 rfl rfl ?_
  obtain ⟨q104, eq104, h⟩ := bdS h
  refine y_callV (pc := 17) (As := [.ref (ad x1), .ref (ad x2)]) (rest := []) C (mX5_noteNeighbours (fu := fu) eq104) vwX5_44 rfl (by decide) hx0 rfl rfl (Nat.le_of_ble_eq_true rfl) ⟨Nat.le_of_ble_eq_true rfl, Nat.le_of_ble_eq_true rfl⟩ ⟨Nat.le_refl _, Nat.le_refl _⟩ dX5_study_17 ?_
  show Y _ _ _ _ _ _ _ _ _ _ _ _ _ _ _ _ _ _ q104 20 [(0, .ref (ad x0)), (1, .ref (ad x1)), (2, .ref (ad x2))] []
  refine y_iconst (pc := 20) (v := (1 : Int32)) C dX5_study_20 (by decide) ?_
  refine y_aload_n (pc := 21) (q := 0) C dX5_study_21 rfl rfl ?_
  refine y_geti (pc := 22) C faX5_37 rfl hx0 dX5_study_22 ?_
  refine y_ishl (pc := 25) C dX5_study_25 ?_
  refine y_iconst (pc := 26) (v := (1 : Int32)) C dX5_study_26 (by decide) ?_
  refine y_isub (pc := 27) C dX5_study_27 ?_
  obtain ⟨y105, ey105, h⟩ := nmS h
  refine y_nmI y105 ey105 ?_
  refine y_istore_n (pc := 28) (lv' := [(3, .int y105), (0, .ref (ad x0)), (1, .ref (ad x1)), (2, .ref (ad x2))]) C dX5_study_28 rfl (by decide) rfl ?_
  refine y_iload_n (pc := 29) (q := 0) C dX5_study_29 rfl rfl ?_
  refine y_istore (pc := 30) (lv' := [(4, .int y105), (3, .int y105), (0, .ref (ad x0)), (1, .ref (ad x1)), (2, .ref (ad x2))]) C dX5_study_30 (by decide) rfl ?_
  refine y_sub [2, 3, 4, 1, 0] (lv' := [(0, .ref (ad x0)), (1, .ref (ad x1)), (2, .ref (ad x2)), (3, .int y105), (4, .int y105)]) rfl ?_
  exact tX5_study_32 (fu := fu) C hx0 hx1 hx2 fu _ _ _ h
noncomputable def fX5_study (fu : Nat) (x0 : Nat) (x1 : Nat) (x2 : Nat) (σ : St) : Option (St) := if xk x0 = 3 then if xk x1 = 6 then if xk x2 = 2 then fX5_study_0 fu x0 x1 x2 σ else none else none else none
theorem mX5_study {l : Launch} {D : va_G} {cA : ClassId} {bs fu : Nat} {ad : Nat → Nat} {x0 : Nat} {x1 : Nat} {x2 : Nat} {σ : St} {q : St} (h : fX5_study fu x0 x1 x2 σ = some q) : Ct l D cA bs ad yX5_study cX5_study 6 none 4 96 [.ref (ad x0), .ref (ad x1), .ref (ad x2)] σ none q := by
  unfold fX5_study at h
  by_cases hx0 : xk x0 = 3
  case neg => rw [if_neg hx0] at h; cases h
  rw [if_pos hx0] at h
  by_cases hx1 : xk x1 = 6
  case neg => rw [if_neg hx1] at h; cases h
  rw [if_pos hx1] at h
  by_cases hx2 : xk x2 = 2
  case neg => rw [if_neg hx2] at h; cases h
  rw [if_pos hx2] at h
  exact Ct.of (by decide) (Nat.le_of_ble_eq_true rfl) (fun p e s m args below meth c C => tX5_study_0 (fu := fu) C hx0 hx1 hx2 h)
noncomputable def fX5_ordersFound_0 (fu : Nat) (x0 : Nat) (σ : St) : Option (Int32 × St) :=
  (ald σ (rf x0 0) 2048 (14 : Int32)).bind fun (v101 : Int32) =>
  some (v101, σ)
set_option maxHeartbeats 4000000 in
set_option maxRecDepth 100000 in
theorem tX5_ordersFound_0 {l : Launch} {D : va_G} {cA : ClassId} {bs : Nat} {ad : Nat → Nat} {p : Program} {e : Env} {s : State} {m : MethodId} {args : Array Value} {below : List Frame} {meth : Method} {c : Code} {fu : Nat} (C : Cx D cA bs ad RX5 cX5_ordersFound 1 (some .int) p s m args meth c) {x0 : Nat} {q : Int32 × St} (hx0 : xk x0 = 3) {σ : St} (h : fX5_ordersFound_0 fu x0 σ = some q) : Y D cA bs ad p l e (rmY 0 0) s m args below meth c 1 0 0 (QM D cA bs ad below args s (some (.int q.1)) q.2) σ 0 [(0, .ref (ad x0))] [] := by
  unfold fX5_ordersFound_0 at h
  refine y_aload_n (pc := 0) (q := 0) C dX5_ordersFound_0 rfl rfl ?_
  refine y_getr (pc := 1) C faX5_11 rfl hx0 dX5_ordersFound_1 ?_
  refine y_bipush (pc := 4) (v := (14 : Int32)) C dX5_ordersFound_4 (by decide) ?_
  obtain ⟨v101, ev101, h⟩ := bdS h
  refine y_iald (pc := 6) (n := 2048) C (rf_3_0 _ hx0) (by decide) ev101 dX5_ordersFound_6 ?_
  cases h
  exact y_iret (pc := 7) C dX5_ordersFound_7
noncomputable def fX5_ordersFound (fu : Nat) (x0 : Nat) (σ : St) : Option (Int32 × St) := if xk x0 = 3 then fX5_ordersFound_0 fu x0 σ else none
theorem mX5_ordersFound {l : Launch} {D : va_G} {cA : ClassId} {bs fu : Nat} {ad : Nat → Nat} {x0 : Nat} {σ : St} {q : Int32 × St} (h : fX5_ordersFound fu x0 σ = some q) : Ct l D cA bs ad yX5_ordersFound cX5_ordersFound 1 (some .int) 0 0 [.ref (ad x0)] σ (some (.int q.1)) q.2 := by
  unfold fX5_ordersFound at h
  by_cases hx0 : xk x0 = 3
  case neg => rw [if_neg hx0] at h; cases h
  rw [if_pos hx0] at h
  exact Ct.of (by decide) (Nat.le_of_ble_eq_true rfl) (fun p e s m args below meth c C => tX5_ordersFound_0 (fu := fu) C hx0 h)
noncomputable def fX6_clear_0 (fu : Nat) (x0 : Nat) (σ : St) : Option (St) :=
  nm (si σ x0 1 (0 : Int32)) fun (σ101 : St) =>
  some σ101
set_option maxHeartbeats 4000000 in
set_option maxRecDepth 100000 in
theorem tX6_clear_0 {l : Launch} {D : va_G} {cA : ClassId} {bs : Nat} {ad : Nat → Nat} {p : Program} {e : Env} {s : State} {m : MethodId} {args : Array Value} {below : List Frame} {meth : Method} {c : Code} {fu : Nat} (C : Cx D cA bs ad RX6 cX6_clear 1 none p s m args meth c) {x0 : Nat} {q : St} (hx0 : xk x0 = 4) {σ : St} (h : fX6_clear_0 fu x0 σ = some q) : Y D cA bs ad p l e (rmY 0 0) s m args below meth c 1 0 0 (QM D cA bs ad below args s none q) σ 0 [(0, .ref (ad x0))] [] := by
  unfold fX6_clear_0 at h
  refine y_aload_n (pc := 0) (q := 0) C dX6_clear_0 rfl rfl ?_
  refine y_iconst (pc := 1) (v := (0 : Int32)) C dX6_clear_1 (by decide) ?_
  obtain ⟨σ101, eσ101, h⟩ := nmS h
  refine y_puti (pc := 2) C fpX6_15 rfl hx0 rfl rfl dX6_clear_2 ?_
  rw [← eσ101]
  cases h
  exact y_vret (pc := 5) C dX6_clear_5
noncomputable def fX6_clear (fu : Nat) (x0 : Nat) (σ : St) : Option (St) := if xk x0 = 4 then fX6_clear_0 fu x0 σ else none
theorem mX6_clear {l : Launch} {D : va_G} {cA : ClassId} {bs fu : Nat} {ad : Nat → Nat} {x0 : Nat} {σ : St} {q : St} (h : fX6_clear fu x0 σ = some q) : Ct l D cA bs ad yX6_clear cX6_clear 1 none 0 0 [.ref (ad x0)] σ none q := by
  unfold fX6_clear at h
  by_cases hx0 : xk x0 = 4
  case neg => rw [if_neg hx0] at h; cases h
  rw [if_pos hx0] at h
  exact Ct.of (by decide) (Nat.le_of_ble_eq_true rfl) (fun p e s m args below meth c C => tX6_clear_0 (fu := fu) C hx0 h)
noncomputable def fX5_leastWorst_0 (fu : Nat) (x0 : Nat) (σ : St) : Option (Int32 × St) :=
  (ald σ (rf x0 1) 2048 (14 : Int32)).bind fun (v101 : Int32) =>
  some (v101, σ)
set_option maxHeartbeats 4000000 in
set_option maxRecDepth 100000 in
theorem tX5_leastWorst_0 {l : Launch} {D : va_G} {cA : ClassId} {bs : Nat} {ad : Nat → Nat} {p : Program} {e : Env} {s : State} {m : MethodId} {args : Array Value} {below : List Frame} {meth : Method} {c : Code} {fu : Nat} (C : Cx D cA bs ad RX5 cX5_leastWorst 1 (some .int) p s m args meth c) {x0 : Nat} {q : Int32 × St} (hx0 : xk x0 = 3) {σ : St} (h : fX5_leastWorst_0 fu x0 σ = some q) : Y D cA bs ad p l e (rmY 0 0) s m args below meth c 1 0 0 (QM D cA bs ad below args s (some (.int q.1)) q.2) σ 0 [(0, .ref (ad x0))] [] := by
  unfold fX5_leastWorst_0 at h
  refine y_aload_n (pc := 0) (q := 0) C dX5_leastWorst_0 rfl rfl ?_
  refine y_getr (pc := 1) C faX5_15 rfl hx0 dX5_leastWorst_1 ?_
  refine y_bipush (pc := 4) (v := (14 : Int32)) C dX5_leastWorst_4 (by decide) ?_
  obtain ⟨v101, ev101, h⟩ := bdS h
  refine y_iald (pc := 6) (n := 2048) C (rf_3_1 _ hx0) (by decide) ev101 dX5_leastWorst_6 ?_
  cases h
  exact y_iret (pc := 7) C dX5_leastWorst_7
noncomputable def fX5_leastWorst (fu : Nat) (x0 : Nat) (σ : St) : Option (Int32 × St) := if xk x0 = 3 then fX5_leastWorst_0 fu x0 σ else none
theorem mX5_leastWorst {l : Launch} {D : va_G} {cA : ClassId} {bs fu : Nat} {ad : Nat → Nat} {x0 : Nat} {σ : St} {q : Int32 × St} (h : fX5_leastWorst fu x0 σ = some q) : Ct l D cA bs ad yX5_leastWorst cX5_leastWorst 1 (some .int) 0 0 [.ref (ad x0)] σ (some (.int q.1)) q.2 := by
  unfold fX5_leastWorst at h
  by_cases hx0 : xk x0 = 3
  case neg => rw [if_neg hx0] at h; cases h
  rw [if_pos hx0] at h
  exact Ct.of (by decide) (Nat.le_of_ble_eq_true rfl) (fun p e s m args below meth c C => tX5_leastWorst_0 (fu := fu) C hx0 h)
noncomputable def fX5_firstToward_75 (fu : Nat) (k19 : Int32 → Int32 → Int32 → St → Option (Int32 × St)) (x0 : Nat) (x1 : Int32) (x2 : Int32) (x3 : Int32) (x4 : Int32) (x5 : Int32) (x6 : Int32) (x7 : Int32) (σ : St) : Option (Int32 × St) :=
  nm (x7 + (1 : Int32)) fun (y101 : Int32) =>
  k19 x5 x6 y101 σ
set_option maxHeartbeats 4000000 in
set_option maxRecDepth 100000 in
theorem tX5_firstToward_75 {l : Launch} {D : va_G} {cA : ClassId} {bs : Nat} {ad : Nat → Nat} {p : Program} {e : Env} {s : State} {m : MethodId} {args : Array Value} {below : List Frame} {meth : Method} {c : Code} {fu : Nat} (C : Cx D cA bs ad RX5 cX5_firstToward 8 (some .int) p s m args meth c) {k19 : Int32 → Int32 → Int32 → St → Option (Int32 × St)} {x0 : Nat} {x1 : Int32} {x2 : Int32} {x3 : Int32} {x4 : Int32} {x5 : Int32} {x6 : Int32} {x7 : Int32} {q : Int32 × St} (hx0 : xk x0 = 3) (hk19 : ∀ (x5 : Int32) (x6 : Int32) (x7 : Int32) (σ : St), k19 x5 x6 x7 σ = some q → Y D cA bs ad p l e (rmY 3 66) s m args below meth c 8 0 0 (QM D cA bs ad below args s (some (.int q.1)) q.2) σ 19 [(0, .ref (ad x0)), (1, .int x1), (2, .int x2), (3, .int x3), (4, .int x4), (5, .int x5), (6, .int x6), (7, .int x7)] []) {σ : St} (h : fX5_firstToward_75 fu k19 x0 x1 x2 x3 x4 x5 x6 x7 σ = some q) : Y D cA bs ad p l e (rmY 3 66) s m args below meth c 8 0 0 (QM D cA bs ad below args s (some (.int q.1)) q.2) σ 75 [(0, .ref (ad x0)), (1, .int x1), (2, .int x2), (3, .int x3), (4, .int x4), (5, .int x5), (6, .int x6), (7, .int x7)] [] := by
  unfold fX5_firstToward_75 at h
  obtain ⟨y101, ey101, h⟩ := nmS h
  refine y_iinc (pc := 75) (v := y101) (k := 7) (lv' := [(7, .int y101), (0, .ref (ad x0)), (1, .int x1), (2, .int x2), (3, .int x3), (4, .int x4), (5, .int x5), (6, .int x6)]) C dX5_firstToward_75 rfl (by rw [ey101]; rfl) (by decide) rfl ?_
  refine y_goto (pc := 78) (tgt := 19) C dX5_firstToward_78 (by decide) ?_
  refine y_sub [1, 2, 3, 4, 5, 6, 7, 0] (lv' := [(0, .ref (ad x0)), (1, .int x1), (2, .int x2), (3, .int x3), (4, .int x4), (5, .int x5), (6, .int x6), (7, .int y101)]) rfl ?_
  exact hk19 _ _ _ _ h
noncomputable def fX5_firstToward_19b (fu : Nat) (k19 : Int32 → Int32 → Int32 → St → Option (Int32 × St)) (x0 : Nat) (x1 : Int32) (x2 : Int32) (x3 : Int32) (x4 : Int32) (x5 : Int32) (x6 : Int32) (x7 : Int32) (σ : St) : Option (Int32 × St) :=
  if (σ.1 x0 5) ≤ x7 then
    some ((0 : Int32), σ)
  else
    (fX5_isIn fu x6 x7 σ).bind fun (q102 : Int32 × St) =>
    if q102.1 = 0 then
      fX5_firstToward_75 fu k19 x0 x1 x2 x3 x4 x5 x6 x7 q102.2
    else
      (ald q102.2 (rf x0 2) 49 ((x7 * (7 : Int32)) + x5)).bind fun (v104 : Int32) =>
      if x1 < v104 then
        fX5_firstToward_75 fu k19 x0 x1 x2 x3 x4 x5 x6 x7 q102.2
      else
        (fX5_stateThen fu x0 x2 x3 x7 q102.2).bind fun (q106 : Int32 × St) =>
        (ald q106.2 (rf x0 1) 2048 q106.1).bind fun (v107 : Int32) =>
        if x1 < v107 then
          fX5_firstToward_75 fu k19 x0 x1 x2 x3 x4 x5 x6 x7 q106.2
        else
          some (x7, q106.2)
set_option maxHeartbeats 4000000 in
set_option maxRecDepth 100000 in
theorem tX5_firstToward_19b {l : Launch} {D : va_G} {cA : ClassId} {bs : Nat} {ad : Nat → Nat} {p : Program} {e : Env} {s : State} {m : MethodId} {args : Array Value} {below : List Frame} {meth : Method} {c : Code} {fu : Nat} (C : Cx D cA bs ad RX5 cX5_firstToward 8 (some .int) p s m args meth c) {k19 : Int32 → Int32 → Int32 → St → Option (Int32 × St)} {x0 : Nat} {x1 : Int32} {x2 : Int32} {x3 : Int32} {x4 : Int32} {x5 : Int32} {x6 : Int32} {x7 : Int32} {q : Int32 × St} (hx0 : xk x0 = 3) (hk19 : ∀ (x5 : Int32) (x6 : Int32) (x7 : Int32) (σ : St), k19 x5 x6 x7 σ = some q → Y D cA bs ad p l e (rmY 3 66) s m args below meth c 8 0 0 (QM D cA bs ad below args s (some (.int q.1)) q.2) σ 19 [(0, .ref (ad x0)), (1, .int x1), (2, .int x2), (3, .int x3), (4, .int x4), (5, .int x5), (6, .int x6), (7, .int x7)] []) {σ : St} (h : fX5_firstToward_19b fu k19 x0 x1 x2 x3 x4 x5 x6 x7 σ = some q) : Y D cA bs ad p l e (rmY 3 66) s m args below meth c 8 0 0 (QM D cA bs ad below args s (some (.int q.1)) q.2) σ 19 [(0, .ref (ad x0)), (1, .int x1), (2, .int x2), (3, .int x3), (4, .int x4), (5, .int x5), (6, .int x6), (7, .int x7)] [] := by
  unfold fX5_firstToward_19b at h
  refine y_iload (pc := 19) (q := 7) C dX5_firstToward_19 rfl ?_
  refine y_aload_n (pc := 21) (q := 0) C dX5_firstToward_21 rfl rfl ?_
  refine y_geti (pc := 22) C faX5_37 rfl hx0 dX5_firstToward_22 ?_
  refine y_icmp_ge (pc := 25) (tgt := 81) C dX5_firstToward_25 (by decide) (fun c101 => ?_) (fun c101 => ?_)
  · rw [if_pos c101] at h
    refine y_iconst (pc := 81) (v := (0 : Int32)) C dX5_firstToward_81 (by decide) ?_
    cases h
    exact y_iret (pc := 82) C dX5_firstToward_82
  · rw [if_neg c101] at h
    refine y_iload (pc := 28) (q := 6) C dX5_firstToward_28 rfl ?_
    refine y_iload (pc := 30) (q := 7) C dX5_firstToward_30 rfl ?_
    obtain ⟨q102, eq102, h⟩ := bdS h
    refine y_callS (pc := 32) (As := [.int x6, .int x7]) (rest := []) C (mX5_isIn (fu := fu) eq102) vwX5_47 rfl rfl (Nat.le_of_ble_eq_true rfl) ⟨Nat.le_of_ble_eq_true rfl, Nat.le_of_ble_eq_true rfl⟩ ⟨Nat.le_refl _, Nat.le_refl _⟩ dX5_firstToward_32 ?_
    show Y _ _ _ _ _ _ _ _ _ _ _ _ _ _ _ _ _ _ q102.2 35 [(0, .ref (ad x0)), (1, .int x1), (2, .int x2), (3, .int x3), (4, .int x4), (5, .int x5), (6, .int x6), (7, .int x7)] [.int q102.1]
    refine y_if_eq (pc := 35) (tgt := 75) C dX5_firstToward_35 (by decide) (fun c103 => ?_) (fun c103 => ?_)
    · rw [if_pos c103] at h
      exact tX5_firstToward_75 (fu := fu) C hx0 hk19 h
    · rw [if_neg c103] at h
      refine y_aload_n (pc := 38) (q := 0) C dX5_firstToward_38 rfl rfl ?_
      refine y_getr (pc := 39) C faX5_18 rfl hx0 dX5_firstToward_39 ?_
      refine y_iload (pc := 42) (q := 7) C dX5_firstToward_42 rfl ?_
      refine y_bipush (pc := 44) (v := (7 : Int32)) C dX5_firstToward_44 (by decide) ?_
      refine y_imul (pc := 46) C dX5_firstToward_46 ?_
      refine y_iload (pc := 47) (q := 5) C dX5_firstToward_47 rfl ?_
      refine y_iadd (pc := 49) C dX5_firstToward_49 ?_
      obtain ⟨v104, ev104, h⟩ := bdS h
      refine y_iald (pc := 50) (n := 49) C (rf_3_2 _ hx0) (by decide) ev104 dX5_firstToward_50 ?_
      refine y_iload_n (pc := 51) (q := 1) C dX5_firstToward_51 rfl rfl ?_
      refine y_icmp_gt (pc := 52) (tgt := 75) C dX5_firstToward_52 (by decide) (fun c105 => ?_) (fun c105 => ?_)
      · rw [if_pos c105] at h
        exact tX5_firstToward_75 (fu := fu) C hx0 hk19 h
      · rw [if_neg c105] at h
        refine y_aload_n (pc := 55) (q := 0) C dX5_firstToward_55 rfl rfl ?_
        refine y_getr (pc := 56) C faX5_15 rfl hx0 dX5_firstToward_56 ?_
        refine y_aload_n (pc := 59) (q := 0) C dX5_firstToward_59 rfl rfl ?_
        refine y_iload_n (pc := 60) (q := 2) C dX5_firstToward_60 rfl rfl ?_
        refine y_iload_n (pc := 61) (q := 3) C dX5_firstToward_61 rfl rfl ?_
        refine y_iload (pc := 62) (q := 7) C dX5_firstToward_62 rfl ?_
        obtain ⟨q106, eq106, h⟩ := bdS h
        refine y_callV (pc := 64) (As := [.int x2, .int x3, .int x7]) (rest := [.ref (ad (rf x0 1))]) C (mX5_stateThen (fu := fu) eq106) vwX5_86 rfl (by decide) hx0 rfl rfl (Nat.le_of_ble_eq_true rfl) ⟨Nat.le_of_ble_eq_true rfl, Nat.le_of_ble_eq_true rfl⟩ ⟨Nat.le_refl _, Nat.le_refl _⟩ dX5_firstToward_64 ?_
        show Y _ _ _ _ _ _ _ _ _ _ _ _ _ _ _ _ _ _ q106.2 67 [(0, .ref (ad x0)), (1, .int x1), (2, .int x2), (3, .int x3), (4, .int x4), (5, .int x5), (6, .int x6), (7, .int x7)] [.int q106.1, .ref (ad (rf x0 1))]
        obtain ⟨v107, ev107, h⟩ := bdS h
        refine y_iald (pc := 67) (n := 2048) C (rf_3_1 _ hx0) (by decide) ev107 dX5_firstToward_67 ?_
        refine y_iload_n (pc := 68) (q := 1) C dX5_firstToward_68 rfl rfl ?_
        refine y_icmp_gt (pc := 69) (tgt := 75) C dX5_firstToward_69 (by decide) (fun c108 => ?_) (fun c108 => ?_)
        · rw [if_pos c108] at h
          exact tX5_firstToward_75 (fu := fu) C hx0 hk19 h
        · rw [if_neg c108] at h
          refine y_iload (pc := 72) (q := 7) C dX5_firstToward_72 rfl ?_
          cases h
          exact y_iret (pc := 74) C dX5_firstToward_74
noncomputable def fX5_firstToward_19 (fu : Nat) (x0 : Nat) (x1 : Int32) (x2 : Int32) (x3 : Int32) (x4 : Int32) : Nat → Int32 → Int32 → Int32 → St → Option (Int32 × St) := lp (fun k19 => fX5_firstToward_19b fu k19 x0 x1 x2 x3 x4) (fun _ _ _ _ => none)
set_option maxHeartbeats 4000000 in
theorem tX5_firstToward_19 {l : Launch} {D : va_G} {cA : ClassId} {bs : Nat} {ad : Nat → Nat} {p : Program} {e : Env} {s : State} {m : MethodId} {args : Array Value} {below : List Frame} {meth : Method} {c : Code} {fu : Nat} (C : Cx D cA bs ad RX5 cX5_firstToward 8 (some .int) p s m args meth c) {x0 : Nat} {x1 : Int32} {x2 : Int32} {x3 : Int32} {x4 : Int32} {q : Int32 × St} (hx0 : xk x0 = 3)  : ∀ (n : Nat) (x5 : Int32) (x6 : Int32) (x7 : Int32) (σ : St), fX5_firstToward_19 fu  x0 x1 x2 x3 x4 n x5 x6 x7 σ = some q → Y D cA bs ad p l e (rmY 3 66) s m args below meth c 8 0 0 (QM D cA bs ad below args s (some (.int q.1)) q.2) σ 19 [(0, .ref (ad x0)), (1, .int x1), (2, .int x2), (3, .int x3), (4, .int x4), (5, .int x5), (6, .int x6), (7, .int x7)] [] := by
  intro n
  induction n with
  | zero => intro x5 x6 x7 σ h; cases h
  | succ n ih => intro x5 x6 x7 σ h; exact tX5_firstToward_19b (fu := fu) C hx0 ih h
noncomputable def fX5_firstToward_0 (fu : Nat) (x0 : Nat) (x1 : Int32) (x2 : Int32) (x3 : Int32) (x4 : Int32) (σ : St) : Option (Int32 × St) :=
  (fJ6_bitCount_0f7a4 fu x2 σ).bind fun (q101 : Int32 × St) =>
  (fX5_openTo fu x0 x2 x3 x4 q101.2).bind fun (q102 : Int32 × St) =>
  fX5_firstToward_19 fu x0 x1 x2 x3 x4 fu q101.1 q102.1 (0 : Int32) q102.2
set_option maxHeartbeats 4000000 in
set_option maxRecDepth 100000 in
theorem tX5_firstToward_0 {l : Launch} {D : va_G} {cA : ClassId} {bs : Nat} {ad : Nat → Nat} {p : Program} {e : Env} {s : State} {m : MethodId} {args : Array Value} {below : List Frame} {meth : Method} {c : Code} {fu : Nat} (C : Cx D cA bs ad RX5 cX5_firstToward 8 (some .int) p s m args meth c) {x0 : Nat} {x1 : Int32} {x2 : Int32} {x3 : Int32} {x4 : Int32} {q : Int32 × St} (hx0 : xk x0 = 3) {σ : St} (h : fX5_firstToward_0 fu x0 x1 x2 x3 x4 σ = some q) : Y D cA bs ad p l e (rmY 3 66) s m args below meth c 8 0 0 (QM D cA bs ad below args s (some (.int q.1)) q.2) σ 0 [(0, .ref (ad x0)), (1, .int x1), (2, .int x2), (3, .int x3), (4, .int x4)] [] := by
  unfold fX5_firstToward_0 at h
  refine y_iload_n (pc := 0) (q := 2) C dX5_firstToward_0 rfl rfl ?_
  obtain ⟨q101, eq101, h⟩ := bdS h
  refine y_callS (pc := 1) (As := [.int x2]) (rest := []) C (mJ6_bitCount_0f7a4 (fu := fu) eq101) vwX5_76 rfl rfl (Nat.le_of_ble_eq_true rfl) ⟨Nat.le_of_ble_eq_true rfl, Nat.le_of_ble_eq_true rfl⟩ ⟨Nat.le_refl _, Nat.le_refl _⟩ dX5_firstToward_1 ?_
  show Y _ _ _ _ _ _ _ _ _ _ _ _ _ _ _ _ _ _ q101.2 4 [(0, .ref (ad x0)), (1, .int x1), (2, .int x2), (3, .int x3), (4, .int x4)] [.int q101.1]
  refine y_istore (pc := 4) (lv' := [(5, .int q101.1), (0, .ref (ad x0)), (1, .int x1), (2, .int x2), (3, .int x3), (4, .int x4)]) C dX5_firstToward_4 (by decide) rfl ?_
  refine y_aload_n (pc := 6) (q := 1) C dX5_firstToward_6 rfl rfl ?_
  refine y_iload_n (pc := 7) (q := 3) C dX5_firstToward_7 rfl rfl ?_
  refine y_iload_n (pc := 8) (q := 4) C dX5_firstToward_8 rfl rfl ?_
  refine y_iload (pc := 9) (q := 5) C dX5_firstToward_9 rfl ?_
  obtain ⟨q102, eq102, h⟩ := bdS h
  refine y_callV (pc := 11) (As := [.int x2, .int x3, .int x4]) (rest := []) C (mX5_openTo (fu := fu) eq102) vwX5_82 rfl (by decide) hx0 rfl rfl (Nat.le_of_ble_eq_true rfl) ⟨Nat.le_of_ble_eq_true rfl, Nat.le_of_ble_eq_true rfl⟩ ⟨Nat.le_refl _, Nat.le_refl _⟩ dX5_firstToward_11 ?_
  show Y _ _ _ _ _ _ _ _ _ _ _ _ _ _ _ _ _ _ q102.2 14 [(5, .int q101.1), (0, .ref (ad x0)), (1, .int x1), (2, .int x2), (3, .int x3), (4, .int x4)] [.int q102.1]
  refine y_istore (pc := 14) (lv' := [(6, .int q102.1), (5, .int q101.1), (0, .ref (ad x0)), (1, .int x1), (2, .int x2), (3, .int x3), (4, .int x4)]) C dX5_firstToward_14 (by decide) rfl ?_
  refine y_iconst (pc := 16) (v := (0 : Int32)) C dX5_firstToward_16 (by decide) ?_
  refine y_istore (pc := 17) (lv' := [(7, .int (0 : Int32)), (6, .int q102.1), (5, .int q101.1), (0, .ref (ad x0)), (1, .int x1), (2, .int x2), (3, .int x3), (4, .int x4)]) C dX5_firstToward_17 (by decide) rfl ?_
  refine y_sub [3, 4, 5, 6, 7, 2, 1, 0] (lv' := [(0, .ref (ad x0)), (1, .int x1), (2, .int x2), (3, .int x3), (4, .int x4), (5, .int q101.1), (6, .int q102.1), (7, .int (0 : Int32))]) rfl ?_
  exact tX5_firstToward_19 (fu := fu) C hx0 fu _ _ _ _ h
noncomputable def fX5_firstToward (fu : Nat) (x0 : Nat) (x1 : Int32) (x2 : Int32) (x3 : Int32) (x4 : Int32) (σ : St) : Option (Int32 × St) := if xk x0 = 3 then fX5_firstToward_0 fu x0 x1 x2 x3 x4 σ else none
theorem mX5_firstToward {l : Launch} {D : va_G} {cA : ClassId} {bs fu : Nat} {ad : Nat → Nat} {x0 : Nat} {x1 : Int32} {x2 : Int32} {x3 : Int32} {x4 : Int32} {σ : St} {q : Int32 × St} (h : fX5_firstToward fu x0 x1 x2 x3 x4 σ = some q) : Ct l D cA bs ad yX5_firstToward cX5_firstToward 8 (some .int) 3 66 [.ref (ad x0), .int x1, .int x2, .int x3, .int x4] σ (some (.int q.1)) q.2 := by
  unfold fX5_firstToward at h
  by_cases hx0 : xk x0 = 3
  case neg => rw [if_neg hx0] at h; cases h
  rw [if_pos hx0] at h
  exact Ct.of (by decide) (Nat.le_of_ble_eq_true rfl) (fun p e s m args below meth c C => tX5_firstToward_0 (fu := fu) C hx0 h)
noncomputable def fX6_append_29 (fu : Nat) (x0 : Nat) (x1 : Int32) (σ : St) : Option (St) :=
  some σ
set_option maxHeartbeats 4000000 in
set_option maxRecDepth 100000 in
theorem tX6_append_29 {l : Launch} {D : va_G} {cA : ClassId} {bs : Nat} {ad : Nat → Nat} {p : Program} {e : Env} {s : State} {m : MethodId} {args : Array Value} {below : List Frame} {meth : Method} {c : Code} {fu : Nat} (C : Cx D cA bs ad RX6 cX6_append 2 none p s m args meth c) {x0 : Nat} {x1 : Int32} {q : St} (hx0 : xk x0 = 4) {σ : St} (h : fX6_append_29 fu x0 x1 σ = some q) : Y D cA bs ad p l e (rmY 0 0) s m args below meth c 2 0 0 (QM D cA bs ad below args s none q) σ 29 [(0, .ref (ad x0)), (1, .int x1)] [] := by
  unfold fX6_append_29 at h
  cases h
  exact y_vret (pc := 29) C dX6_append_29
noncomputable def fX6_append_0 (fu : Nat) (x0 : Nat) (x1 : Int32) (σ : St) : Option (St) :=
  if (7 : Int32) ≤ (σ.1 x0 1) then
    fX6_append_29 fu x0 x1 σ
  else
    (ast σ (rf x0 0) 7 (σ.1 x0 1) x1).bind fun (σ102 : St) =>
    nm (si σ102 x0 1 ((σ102.1 x0 1) + (1 : Int32))) fun (σ103 : St) =>
    fX6_append_29 fu x0 x1 σ103
set_option maxHeartbeats 4000000 in
set_option maxRecDepth 100000 in
theorem tX6_append_0 {l : Launch} {D : va_G} {cA : ClassId} {bs : Nat} {ad : Nat → Nat} {p : Program} {e : Env} {s : State} {m : MethodId} {args : Array Value} {below : List Frame} {meth : Method} {c : Code} {fu : Nat} (C : Cx D cA bs ad RX6 cX6_append 2 none p s m args meth c) {x0 : Nat} {x1 : Int32} {q : St} (hx0 : xk x0 = 4) {σ : St} (h : fX6_append_0 fu x0 x1 σ = some q) : Y D cA bs ad p l e (rmY 0 0) s m args below meth c 2 0 0 (QM D cA bs ad below args s none q) σ 0 [(0, .ref (ad x0)), (1, .int x1)] [] := by
  unfold fX6_append_0 at h
  refine y_aload_n (pc := 0) (q := 0) C dX6_append_0 rfl rfl ?_
  refine y_geti (pc := 1) C faX6_15 rfl hx0 dX6_append_1 ?_
  refine y_bipush (pc := 4) (v := (7 : Int32)) C dX6_append_4 (by decide) ?_
  refine y_icmp_ge (pc := 6) (tgt := 29) C dX6_append_6 (by decide) (fun c101 => ?_) (fun c101 => ?_)
  · rw [if_pos c101] at h
    exact tX6_append_29 (fu := fu) C hx0 h
  · rw [if_neg c101] at h
    refine y_aload_n (pc := 9) (q := 0) C dX6_append_9 rfl rfl ?_
    refine y_getr (pc := 10) C faX6_9 rfl hx0 dX6_append_10 ?_
    refine y_aload_n (pc := 13) (q := 0) C dX6_append_13 rfl rfl ?_
    refine y_geti (pc := 14) C faX6_15 rfl hx0 dX6_append_14 ?_
    refine y_iload_n (pc := 17) (q := 1) C dX6_append_17 rfl rfl ?_
    obtain ⟨σ102, eσ102, h⟩ := bdS h
    refine y_iast (pc := 18) (n := 7) C (rf_4_0 _ hx0) (by decide) eσ102 dX6_append_18 ?_
    refine y_aload_n (pc := 19) (q := 0) C dX6_append_19 rfl rfl ?_
    refine y_dup (pc := 20) C dX6_append_20 rfl ?_
    refine y_geti (pc := 21) C faX6_15 rfl hx0 dX6_append_21 ?_
    refine y_iconst (pc := 24) (v := (1 : Int32)) C dX6_append_24 (by decide) ?_
    refine y_iadd (pc := 25) C dX6_append_25 ?_
    obtain ⟨σ103, eσ103, h⟩ := nmS h
    refine y_puti (pc := 26) C fpX6_15 rfl hx0 rfl rfl dX6_append_26 ?_
    rw [← eσ103]
    exact tX6_append_29 (fu := fu) C hx0 h
noncomputable def fX6_append (fu : Nat) (x0 : Nat) (x1 : Int32) (σ : St) : Option (St) := if xk x0 = 4 then fX6_append_0 fu x0 x1 σ else none
theorem mX6_append {l : Launch} {D : va_G} {cA : ClassId} {bs fu : Nat} {ad : Nat → Nat} {x0 : Nat} {x1 : Int32} {σ : St} {q : St} (h : fX6_append fu x0 x1 σ = some q) : Ct l D cA bs ad yX6_append cX6_append 2 none 0 0 [.ref (ad x0), .int x1] σ none q := by
  unfold fX6_append at h
  by_cases hx0 : xk x0 = 4
  case neg => rw [if_neg hx0] at h; cases h
  rw [if_pos hx0] at h
  exact Ct.of (by decide) (Nat.le_of_ble_eq_true rfl) (fun p e s m args below meth c C => tX6_append_0 (fu := fu) C hx0 h)
noncomputable def fX5_bestOrder_17b (fu : Nat) (k17 : Int32 → Int32 → Int32 → Int32 → St → Option (Nat × St)) (x0 : Nat) (x1 : Int32) (x2 : Int32) (x3 : Int32) (x4 : Int32) (σ : St) : Option (Nat × St) :=
  if (σ.1 x0 5) ≤ x4 then
    some ((rf x0 4), σ)
  else
    (fX5_leastWorst fu x0 σ).bind fun (q102 : Int32 × St) =>
    (fX5_firstToward fu x0 q102.1 x1 x2 x3 q102.2).bind fun (q103 : Int32 × St) =>
    (fX5_aloneThen fu x0 x2 q103.1 q103.2).bind fun (q104 : Int32 × St) =>
    nm (x1 ||| ((1 : Int32) <<< (q103.1 &&& 31))) fun (y105 : Int32) =>
    (fX6_append fu (rf x0 4) q103.1 q104.2).bind fun (q106 : St) =>
    nm (x4 + (1 : Int32)) fun (y107 : Int32) =>
    k17 y105 q103.1 q104.1 y107 q106
set_option maxHeartbeats 4000000 in
set_option maxRecDepth 100000 in
theorem tX5_bestOrder_17b {l : Launch} {D : va_G} {cA : ClassId} {bs : Nat} {ad : Nat → Nat} {p : Program} {e : Env} {s : State} {m : MethodId} {args : Array Value} {below : List Frame} {meth : Method} {c : Code} {fu : Nat} (C : Cx D cA bs ad RX5 cX5_bestOrder 6 (some (.object "PavedAnew$Order")) p s m args meth c) {k17 : Int32 → Int32 → Int32 → Int32 → St → Option (Nat × St)} {x0 : Nat} {x1 : Int32} {x2 : Int32} {x3 : Int32} {x4 : Int32} {q : Nat × St} (hx0 : xk x0 = 3) (hk17 : ∀ (x1 : Int32) (x2 : Int32) (x3 : Int32) (x4 : Int32) (σ : St), k17 x1 x2 x3 x4 σ = some q → Y D cA bs ad p l e (rmY 4 93) s m args below meth c 6 0 0 (QM D cA bs ad below args s (some (.ref (ad q.1))) q.2) σ 17 [(0, .ref (ad x0)), (1, .int x1), (2, .int x2), (3, .int x3), (4, .int x4)] []) {σ : St} (h : fX5_bestOrder_17b fu k17 x0 x1 x2 x3 x4 σ = some q) : Y D cA bs ad p l e (rmY 4 93) s m args below meth c 6 0 0 (QM D cA bs ad below args s (some (.ref (ad q.1))) q.2) σ 17 [(0, .ref (ad x0)), (1, .int x1), (2, .int x2), (3, .int x3), (4, .int x4)] [] := by
  unfold fX5_bestOrder_17b at h
  refine y_iload (pc := 17) (q := 4) C dX5_bestOrder_17 rfl ?_
  refine y_aload_n (pc := 19) (q := 0) C dX5_bestOrder_19 rfl rfl ?_
  refine y_geti (pc := 20) C faX5_37 rfl hx0 dX5_bestOrder_20 ?_
  refine y_icmp_ge (pc := 23) (tgt := 72) C dX5_bestOrder_23 (by decide) (fun c101 => ?_) (fun c101 => ?_)
  · rw [if_pos c101] at h
    refine y_aload_n (pc := 72) (q := 0) C dX5_bestOrder_72 rfl rfl ?_
    refine y_getr (pc := 73) C faX5_27 rfl hx0 dX5_bestOrder_73 ?_
    cases h
    exact y_aret (pc := 76) C dX5_bestOrder_76
  · rw [if_neg c101] at h
    refine y_aload_n (pc := 26) (q := 0) C dX5_bestOrder_26 rfl rfl ?_
    refine y_aload_n (pc := 27) (q := 0) C dX5_bestOrder_27 rfl rfl ?_
    obtain ⟨q102, eq102, h⟩ := bdS h
    refine y_callV (pc := 28) (As := []) (rest := [.ref (ad x0)]) C (mX5_leastWorst (fu := fu) eq102) vwX5_61 rfl (by decide) hx0 rfl rfl (Nat.le_of_ble_eq_true rfl) ⟨Nat.le_of_ble_eq_true rfl, Nat.le_of_ble_eq_true rfl⟩ ⟨Nat.le_refl _, Nat.le_refl _⟩ dX5_bestOrder_28 ?_
    show Y _ _ _ _ _ _ _ _ _ _ _ _ _ _ _ _ _ _ q102.2 31 [(0, .ref (ad x0)), (1, .int x1), (2, .int x2), (3, .int x3), (4, .int x4)] [.int q102.1, .ref (ad x0)]
    refine y_iload_n (pc := 31) (q := 1) C dX5_bestOrder_31 rfl rfl ?_
    refine y_iload_n (pc := 32) (q := 2) C dX5_bestOrder_32 rfl rfl ?_
    refine y_iload_n (pc := 33) (q := 3) C dX5_bestOrder_33 rfl rfl ?_
    obtain ⟨q103, eq103, h⟩ := bdS h
    refine y_callV (pc := 34) (As := [.int q102.1, .int x1, .int x2, .int x3]) (rest := []) C (mX5_firstToward (fu := fu) eq103) vwX5_64 rfl (by decide) hx0 rfl rfl (Nat.le_of_ble_eq_true rfl) ⟨Nat.le_of_ble_eq_true rfl, Nat.le_of_ble_eq_true rfl⟩ ⟨Nat.le_refl _, Nat.le_refl _⟩ dX5_bestOrder_34 ?_
    show Y _ _ _ _ _ _ _ _ _ _ _ _ _ _ _ _ _ _ q103.2 37 [(0, .ref (ad x0)), (1, .int x1), (2, .int x2), (3, .int x3), (4, .int x4)] [.int q103.1]
    refine y_istore (pc := 37) (lv' := [(5, .int q103.1), (0, .ref (ad x0)), (1, .int x1), (2, .int x2), (3, .int x3), (4, .int x4)]) C dX5_bestOrder_37 (by decide) rfl ?_
    refine y_aload_n (pc := 39) (q := 1) C dX5_bestOrder_39 rfl rfl ?_
    refine y_iload_n (pc := 40) (q := 3) C dX5_bestOrder_40 rfl rfl ?_
    refine y_iload (pc := 41) (q := 0) C dX5_bestOrder_41 rfl ?_
    obtain ⟨q104, eq104, h⟩ := bdS h
    refine y_callV (pc := 43) (As := [.int x2, .int q103.1]) (rest := []) C (mX5_aloneThen (fu := fu) eq104) vwX5_68 rfl (by decide) hx0 rfl rfl (Nat.le_of_ble_eq_true rfl) ⟨Nat.le_of_ble_eq_true rfl, Nat.le_of_ble_eq_true rfl⟩ ⟨Nat.le_refl _, Nat.le_refl _⟩ dX5_bestOrder_43 ?_
    show Y _ _ _ _ _ _ _ _ _ _ _ _ _ _ _ _ _ _ q104.2 46 [(5, .int q103.1), (0, .ref (ad x0)), (1, .int x1), (2, .int x2), (3, .int x3), (4, .int x4)] [.int q104.1]
    refine y_istore_n (pc := 46) (lv' := [(3, .int q104.1), (5, .int q103.1), (0, .ref (ad x0)), (1, .int x1), (2, .int x2), (4, .int x4)]) C dX5_bestOrder_46 rfl (by decide) rfl ?_
    refine y_iload_n (pc := 47) (q := 3) C dX5_bestOrder_47 rfl rfl ?_
    refine y_iconst (pc := 48) (v := (1 : Int32)) C dX5_bestOrder_48 (by decide) ?_
    refine y_iload (pc := 49) (q := 1) C dX5_bestOrder_49 rfl ?_
    refine y_ishl (pc := 51) C dX5_bestOrder_51 ?_
    refine y_ior (pc := 52) C dX5_bestOrder_52 ?_
    obtain ⟨y105, ey105, h⟩ := nmS h
    refine y_nmI y105 ey105 ?_
    refine y_istore_n (pc := 53) (lv' := [(1, .int y105), (3, .int q104.1), (5, .int q103.1), (0, .ref (ad x0)), (2, .int x2), (4, .int x4)]) C dX5_bestOrder_53 rfl (by decide) rfl ?_
    refine y_iload (pc := 54) (q := 2) C dX5_bestOrder_54 rfl ?_
    refine y_istore_n (pc := 56) (lv' := [(2, .int q103.1), (1, .int y105), (3, .int q104.1), (5, .int q103.1), (0, .ref (ad x0)), (4, .int x4)]) C dX5_bestOrder_56 rfl (by decide) rfl ?_
    refine y_aload_n (pc := 57) (q := 4) C dX5_bestOrder_57 rfl rfl ?_
    refine y_getr (pc := 58) C faX5_27 rfl hx0 dX5_bestOrder_58 ?_
    refine y_iload (pc := 61) (q := 3) C dX5_bestOrder_61 rfl ?_
    obtain ⟨q106, eq106, h⟩ := bdS h
    refine y_callV (pc := 63) (As := [.int q103.1]) (rest := []) C (mX6_append (fu := fu) eq106) vwX5_72 rfl (by decide) (rf_3_4 _ hx0) rfl rfl (Nat.le_of_ble_eq_true rfl) ⟨Nat.le_of_ble_eq_true rfl, Nat.le_of_ble_eq_true rfl⟩ ⟨Nat.le_refl _, Nat.le_refl _⟩ dX5_bestOrder_63 ?_
    show Y _ _ _ _ _ _ _ _ _ _ _ _ _ _ _ _ _ _ q106 66 [(2, .int q103.1), (1, .int y105), (3, .int q104.1), (5, .int q103.1), (0, .ref (ad x0)), (4, .int x4)] []
    obtain ⟨y107, ey107, h⟩ := nmS h
    refine y_iinc (pc := 66) (v := y107) (k := 5) (lv' := [(4, .int y107), (2, .int q103.1), (1, .int y105), (3, .int q104.1), (5, .int q103.1), (0, .ref (ad x0))]) C dX5_bestOrder_66 rfl (by rw [ey107]; rfl) (by decide) rfl ?_
    refine y_goto (pc := 69) (tgt := 17) C dX5_bestOrder_69 (by decide) ?_
    refine y_sub [5, 2, 1, 3, 0] (lv' := [(0, .ref (ad x0)), (1, .int y105), (2, .int q103.1), (3, .int q104.1), (4, .int y107)]) rfl ?_
    exact hk17 _ _ _ _ _ h
noncomputable def fX5_bestOrder_17 (fu : Nat) (x0 : Nat) : Nat → Int32 → Int32 → Int32 → Int32 → St → Option (Nat × St) := lp (fun k17 => fX5_bestOrder_17b fu k17 x0) (fun _ _ _ _ _ => none)
set_option maxHeartbeats 4000000 in
theorem tX5_bestOrder_17 {l : Launch} {D : va_G} {cA : ClassId} {bs : Nat} {ad : Nat → Nat} {p : Program} {e : Env} {s : State} {m : MethodId} {args : Array Value} {below : List Frame} {meth : Method} {c : Code} {fu : Nat} (C : Cx D cA bs ad RX5 cX5_bestOrder 6 (some (.object "PavedAnew$Order")) p s m args meth c) {x0 : Nat} {q : Nat × St} (hx0 : xk x0 = 3)  : ∀ (n : Nat) (x1 : Int32) (x2 : Int32) (x3 : Int32) (x4 : Int32) (σ : St), fX5_bestOrder_17 fu  x0 n x1 x2 x3 x4 σ = some q → Y D cA bs ad p l e (rmY 4 93) s m args below meth c 6 0 0 (QM D cA bs ad below args s (some (.ref (ad q.1))) q.2) σ 17 [(0, .ref (ad x0)), (1, .int x1), (2, .int x2), (3, .int x3), (4, .int x4)] [] := by
  intro n
  induction n with
  | zero => intro x1 x2 x3 x4 σ h; cases h
  | succ n ih => intro x1 x2 x3 x4 σ h; exact tX5_bestOrder_17b (fu := fu) C hx0 ih h
noncomputable def fX5_bestOrder_0 (fu : Nat) (x0 : Nat) (σ : St) : Option (Nat × St) :=
  (fX6_clear fu (rf x0 4) σ).bind fun (q101 : St) =>
  fX5_bestOrder_17 fu x0 fu (0 : Int32) (7 : Int32) (0 : Int32) (0 : Int32) q101
set_option maxHeartbeats 4000000 in
set_option maxRecDepth 100000 in
theorem tX5_bestOrder_0 {l : Launch} {D : va_G} {cA : ClassId} {bs : Nat} {ad : Nat → Nat} {p : Program} {e : Env} {s : State} {m : MethodId} {args : Array Value} {below : List Frame} {meth : Method} {c : Code} {fu : Nat} (C : Cx D cA bs ad RX5 cX5_bestOrder 6 (some (.object "PavedAnew$Order")) p s m args meth c) {x0 : Nat} {q : Nat × St} (hx0 : xk x0 = 3) {σ : St} (h : fX5_bestOrder_0 fu x0 σ = some q) : Y D cA bs ad p l e (rmY 4 93) s m args below meth c 6 0 0 (QM D cA bs ad below args s (some (.ref (ad q.1))) q.2) σ 0 [(0, .ref (ad x0))] [] := by
  unfold fX5_bestOrder_0 at h
  refine y_aload_n (pc := 0) (q := 0) C dX5_bestOrder_0 rfl rfl ?_
  refine y_getr (pc := 1) C faX5_27 rfl hx0 dX5_bestOrder_1 ?_
  obtain ⟨q101, eq101, h⟩ := bdS h
  refine y_callV (pc := 4) (As := []) (rest := []) C (mX6_clear (fu := fu) eq101) vwX5_58 rfl (by decide) (rf_3_4 _ hx0) rfl rfl (Nat.le_of_ble_eq_true rfl) ⟨Nat.le_of_ble_eq_true rfl, Nat.le_of_ble_eq_true rfl⟩ ⟨Nat.le_refl _, Nat.le_refl _⟩ dX5_bestOrder_4 ?_
  show Y _ _ _ _ _ _ _ _ _ _ _ _ _ _ _ _ _ _ q101 7 [(0, .ref (ad x0))] []
  refine y_iconst (pc := 7) (v := (0 : Int32)) C dX5_bestOrder_7 (by decide) ?_
  refine y_istore_n (pc := 8) (lv' := [(1, .int (0 : Int32)), (0, .ref (ad x0))]) C dX5_bestOrder_8 rfl (by decide) rfl ?_
  refine y_bipush (pc := 9) (v := (7 : Int32)) C dX5_bestOrder_9 (by decide) ?_
  refine y_istore_n (pc := 11) (lv' := [(2, .int (7 : Int32)), (1, .int (0 : Int32)), (0, .ref (ad x0))]) C dX5_bestOrder_11 rfl (by decide) rfl ?_
  refine y_iconst (pc := 12) (v := (0 : Int32)) C dX5_bestOrder_12 (by decide) ?_
  refine y_istore_n (pc := 13) (lv' := [(3, .int (0 : Int32)), (2, .int (7 : Int32)), (1, .int (0 : Int32)), (0, .ref (ad x0))]) C dX5_bestOrder_13 rfl (by decide) rfl ?_
  refine y_iconst (pc := 14) (v := (0 : Int32)) C dX5_bestOrder_14 (by decide) ?_
  refine y_istore (pc := 15) (lv' := [(4, .int (0 : Int32)), (3, .int (0 : Int32)), (2, .int (7 : Int32)), (1, .int (0 : Int32)), (0, .ref (ad x0))]) C dX5_bestOrder_15 (by decide) rfl ?_
  refine y_sub [4, 3, 2, 1, 0] (lv' := [(0, .ref (ad x0)), (1, .int (0 : Int32)), (2, .int (7 : Int32)), (3, .int (0 : Int32)), (4, .int (0 : Int32))]) rfl ?_
  exact tX5_bestOrder_17 (fu := fu) C hx0 fu _ _ _ _ _ h
noncomputable def fX5_bestOrder (fu : Nat) (x0 : Nat) (σ : St) : Option (Nat × St) := if xk x0 = 3 then fX5_bestOrder_0 fu x0 σ else none
theorem mX5_bestOrder {l : Launch} {D : va_G} {cA : ClassId} {bs fu : Nat} {ad : Nat → Nat} {x0 : Nat} {σ : St} {q : Nat × St} (h : fX5_bestOrder fu x0 σ = some q) : Ct l D cA bs ad yX5_bestOrder cX5_bestOrder 6 (some (.object "PavedAnew$Order")) 4 93 [.ref (ad x0)] σ (some (.ref (ad q.1))) q.2 := by
  unfold fX5_bestOrder at h
  by_cases hx0 : xk x0 = 3
  case neg => rw [if_neg hx0] at h; cases h
  rw [if_pos hx0] at h
  exact Ct.of (by decide) (Nat.le_of_ble_eq_true rfl) (fun p e s m args below meth c C => tX5_bestOrder_0 (fu := fu) C hx0 h)
noncomputable def fX8_putDown_45 (fu : Nat) (k2 : Int32 → St → Option (St)) (x0 : Nat) (x1 : Nat) (x2 : Int32) (x3 : Int32) (σ : St) : Option (St) :=
  nm (x3 + (1 : Int32)) fun (y101 : Int32) =>
  k2 y101 σ
set_option maxHeartbeats 4000000 in
set_option maxRecDepth 100000 in
theorem tX8_putDown_45 {l : Launch} {D : va_G} {cA : ClassId} {bs : Nat} {ad : Nat → Nat} {p : Program} {e : Env} {s : State} {m : MethodId} {args : Array Value} {below : List Frame} {meth : Method} {c : Code} {fu : Nat} (C : Cx D cA bs ad RX8 cX8_putDown 5 none p s m args meth c) {k2 : Int32 → St → Option (St)} {x0 : Nat} {x1 : Nat} {x2 : Int32} {x3 : Int32} {q : St} (hx0 : xk x0 = 6) (hx1 : xk x1 = 4) (hk2 : ∀ (x3 : Int32) (σ : St), k2 x3 σ = some q → Y D cA bs ad p l e (rmY 1 22) s m args below meth c 5 0 0 (QM D cA bs ad below args s none q) σ 2 [(0, .ref (ad x0)), (1, .ref (ad x1)), (2, .int x2), (3, .int x3)] []) {σ : St} (h : fX8_putDown_45 fu k2 x0 x1 x2 x3 σ = some q) : Y D cA bs ad p l e (rmY 1 22) s m args below meth c 5 0 0 (QM D cA bs ad below args s none q) σ 45 [(0, .ref (ad x0)), (1, .ref (ad x1)), (2, .int x2), (3, .int x3)] [] := by
  unfold fX8_putDown_45 at h
  obtain ⟨y101, ey101, h⟩ := nmS h
  refine y_iinc (pc := 45) (v := y101) (k := 3) (lv' := [(3, .int y101), (0, .ref (ad x0)), (1, .ref (ad x1)), (2, .int x2)]) C dX8_putDown_45 rfl (by rw [ey101]; rfl) (by decide) rfl ?_
  refine y_goto (pc := 48) (tgt := 2) C dX8_putDown_48 (by decide) ?_
  refine y_sub [1, 2, 3, 0] (lv' := [(0, .ref (ad x0)), (1, .ref (ad x1)), (2, .int x2), (3, .int y101)]) rfl ?_
  exact hk2 _ _ h
noncomputable def fX8_putDown_2b (fu : Nat) (k2 : Int32 → St → Option (St)) (x0 : Nat) (x1 : Nat) (x2 : Int32) (x3 : Int32) (σ : St) : Option (St) :=
  if (σ.1 x0 7) ≤ x3 then
    some σ
  else
    (fX6_blockIn fu x1 x3 σ).bind fun (q102 : Int32 × St) =>
    (fX8_put fu x0 q102.1 x3 q102.2).bind fun (q103 : St) =>
    if x2 = 0 then
      fX8_putDown_45 fu k2 x0 x1 x2 x3 q103
    else
      (ald q103 (rf x0 0) 7 q102.1).bind fun (v105 : Int32) =>
      if v105 = (4 : Int32) then
        fX8_putDown_45 fu k2 x0 x1 x2 x3 q103
      else
        (fX8_turnOver fu x0 q102.1 q103).bind fun (q107 : St) =>
        fX8_putDown_45 fu k2 x0 x1 x2 x3 q107
set_option maxHeartbeats 4000000 in
set_option maxRecDepth 100000 in
theorem tX8_putDown_2b {l : Launch} {D : va_G} {cA : ClassId} {bs : Nat} {ad : Nat → Nat} {p : Program} {e : Env} {s : State} {m : MethodId} {args : Array Value} {below : List Frame} {meth : Method} {c : Code} {fu : Nat} (C : Cx D cA bs ad RX8 cX8_putDown 5 none p s m args meth c) {k2 : Int32 → St → Option (St)} {x0 : Nat} {x1 : Nat} {x2 : Int32} {x3 : Int32} {q : St} (hx0 : xk x0 = 6) (hx1 : xk x1 = 4) (hk2 : ∀ (x3 : Int32) (σ : St), k2 x3 σ = some q → Y D cA bs ad p l e (rmY 1 22) s m args below meth c 5 0 0 (QM D cA bs ad below args s none q) σ 2 [(0, .ref (ad x0)), (1, .ref (ad x1)), (2, .int x2), (3, .int x3)] []) {σ : St} (h : fX8_putDown_2b fu k2 x0 x1 x2 x3 σ = some q) : Y D cA bs ad p l e (rmY 1 22) s m args below meth c 5 0 0 (QM D cA bs ad below args s none q) σ 2 [(0, .ref (ad x0)), (1, .ref (ad x1)), (2, .int x2), (3, .int x3)] [] := by
  unfold fX8_putDown_2b at h
  refine y_iload_n (pc := 2) (q := 3) C dX8_putDown_2 rfl rfl ?_
  refine y_aload_n (pc := 3) (q := 0) C dX8_putDown_3 rfl rfl ?_
  refine y_geti (pc := 4) C faX8_33 rfl hx0 dX8_putDown_4 ?_
  refine y_icmp_ge (pc := 7) (tgt := 51) C dX8_putDown_7 (by decide) (fun c101 => ?_) (fun c101 => ?_)
  · rw [if_pos c101] at h
    cases h
    exact y_vret (pc := 51) C dX8_putDown_51
  · rw [if_neg c101] at h
    refine y_aload_n (pc := 10) (q := 1) C dX8_putDown_10 rfl rfl ?_
    refine y_iload_n (pc := 11) (q := 3) C dX8_putDown_11 rfl rfl ?_
    obtain ⟨q102, eq102, h⟩ := bdS h
    refine y_callV (pc := 12) (As := [.int x3]) (rest := []) C (mX6_blockIn (fu := fu) eq102) vwX8_47 rfl (by decide) hx1 rfl rfl (Nat.le_of_ble_eq_true rfl) ⟨Nat.le_of_ble_eq_true rfl, Nat.le_of_ble_eq_true rfl⟩ ⟨Nat.le_refl _, Nat.le_refl _⟩ dX8_putDown_12 ?_
    show Y _ _ _ _ _ _ _ _ _ _ _ _ _ _ _ _ _ _ q102.2 15 [(0, .ref (ad x0)), (1, .ref (ad x1)), (2, .int x2), (3, .int x3)] [.int q102.1]
    refine y_istore (pc := 15) (lv' := [(4, .int q102.1), (0, .ref (ad x0)), (1, .ref (ad x1)), (2, .int x2), (3, .int x3)]) C dX8_putDown_15 (by decide) rfl ?_
    refine y_aload_n (pc := 17) (q := 1) C dX8_putDown_17 rfl rfl ?_
    refine y_iload (pc := 18) (q := 0) C dX8_putDown_18 rfl ?_
    refine y_iload_n (pc := 20) (q := 4) C dX8_putDown_20 rfl rfl ?_
    obtain ⟨q103, eq103, h⟩ := bdS h
    refine y_callV (pc := 21) (As := [.int q102.1, .int x3]) (rest := []) C (mX8_put (fu := fu) eq103) vwX8_37 rfl (by decide) hx0 rfl rfl (Nat.le_of_ble_eq_true rfl) ⟨Nat.le_of_ble_eq_true rfl, Nat.le_of_ble_eq_true rfl⟩ ⟨Nat.le_refl _, Nat.le_refl _⟩ dX8_putDown_21 ?_
    show Y _ _ _ _ _ _ _ _ _ _ _ _ _ _ _ _ _ _ q103 24 [(4, .int q102.1), (0, .ref (ad x0)), (1, .ref (ad x1)), (2, .int x2), (3, .int x3)] []
    refine y_iload_n (pc := 24) (q := 3) C dX8_putDown_24 rfl rfl ?_
    refine y_if_eq (pc := 25) (tgt := 45) C dX8_putDown_25 (by decide) (fun c104 => ?_) (fun c104 => ?_)
    · rw [if_pos c104] at h
      refine y_sub [1, 2, 3, 4] (lv' := [(0, .ref (ad x0)), (1, .ref (ad x1)), (2, .int x2), (3, .int x3)]) rfl ?_
      exact tX8_putDown_45 (fu := fu) C hx0 hx1 hk2 h
    · rw [if_neg c104] at h
      refine y_aload_n (pc := 28) (q := 1) C dX8_putDown_28 rfl rfl ?_
      refine y_getr (pc := 29) C faX8_9 rfl hx0 dX8_putDown_29 ?_
      refine y_iload (pc := 32) (q := 0) C dX8_putDown_32 rfl ?_
      obtain ⟨v105, ev105, h⟩ := bdS h
      refine y_iald (pc := 34) (n := 7) C (rf_6_0 _ hx0) (by decide) ev105 dX8_putDown_34 ?_
      refine y_iconst (pc := 35) (v := (4 : Int32)) C dX8_putDown_35 (by decide) ?_
      refine y_icmp_eq (pc := 36) (tgt := 45) C dX8_putDown_36 (by decide) (fun c106 => ?_) (fun c106 => ?_)
      · rw [if_pos c106] at h
        refine y_sub [1, 2, 3, 4] (lv' := [(0, .ref (ad x0)), (1, .ref (ad x1)), (2, .int x2), (3, .int x3)]) rfl ?_
        exact tX8_putDown_45 (fu := fu) C hx0 hx1 hk2 h
      · rw [if_neg c106] at h
        refine y_aload_n (pc := 39) (q := 1) C dX8_putDown_39 rfl rfl ?_
        refine y_iload (pc := 40) (q := 0) C dX8_putDown_40 rfl ?_
        obtain ⟨q107, eq107, h⟩ := bdS h
        refine y_callV (pc := 42) (As := [.int q102.1]) (rest := []) C (mX8_turnOver (fu := fu) eq107) vwX8_53 rfl (by decide) hx0 rfl rfl (Nat.le_of_ble_eq_true rfl) ⟨Nat.le_of_ble_eq_true rfl, Nat.le_of_ble_eq_true rfl⟩ ⟨Nat.le_refl _, Nat.le_refl _⟩ dX8_putDown_42 ?_
        show Y _ _ _ _ _ _ _ _ _ _ _ _ _ _ _ _ _ _ q107 45 [(4, .int q102.1), (0, .ref (ad x0)), (1, .ref (ad x1)), (2, .int x2), (3, .int x3)] []
        refine y_sub [1, 2, 3, 4] (lv' := [(0, .ref (ad x0)), (1, .ref (ad x1)), (2, .int x2), (3, .int x3)]) rfl ?_
        exact tX8_putDown_45 (fu := fu) C hx0 hx1 hk2 h
noncomputable def fX8_putDown_2 (fu : Nat) (x0 : Nat) (x1 : Nat) (x2 : Int32) : Nat → Int32 → St → Option (St) := lp (fun k2 => fX8_putDown_2b fu k2 x0 x1 x2) (fun _ _ => none)
set_option maxHeartbeats 4000000 in
theorem tX8_putDown_2 {l : Launch} {D : va_G} {cA : ClassId} {bs : Nat} {ad : Nat → Nat} {p : Program} {e : Env} {s : State} {m : MethodId} {args : Array Value} {below : List Frame} {meth : Method} {c : Code} {fu : Nat} (C : Cx D cA bs ad RX8 cX8_putDown 5 none p s m args meth c) {x0 : Nat} {x1 : Nat} {x2 : Int32} {q : St} (hx0 : xk x0 = 6) (hx1 : xk x1 = 4)  : ∀ (n : Nat) (x3 : Int32) (σ : St), fX8_putDown_2 fu  x0 x1 x2 n x3 σ = some q → Y D cA bs ad p l e (rmY 1 22) s m args below meth c 5 0 0 (QM D cA bs ad below args s none q) σ 2 [(0, .ref (ad x0)), (1, .ref (ad x1)), (2, .int x2), (3, .int x3)] [] := by
  intro n
  induction n with
  | zero => intro x3 σ h; cases h
  | succ n ih => intro x3 σ h; exact tX8_putDown_2b (fu := fu) C hx0 hx1 ih h
noncomputable def fX8_putDown_0 (fu : Nat) (x0 : Nat) (x1 : Nat) (x2 : Int32) (σ : St) : Option (St) :=
  fX8_putDown_2 fu x0 x1 x2 fu (0 : Int32) σ
set_option maxHeartbeats 4000000 in
set_option maxRecDepth 100000 in
theorem tX8_putDown_0 {l : Launch} {D : va_G} {cA : ClassId} {bs : Nat} {ad : Nat → Nat} {p : Program} {e : Env} {s : State} {m : MethodId} {args : Array Value} {below : List Frame} {meth : Method} {c : Code} {fu : Nat} (C : Cx D cA bs ad RX8 cX8_putDown 5 none p s m args meth c) {x0 : Nat} {x1 : Nat} {x2 : Int32} {q : St} (hx0 : xk x0 = 6) (hx1 : xk x1 = 4) {σ : St} (h : fX8_putDown_0 fu x0 x1 x2 σ = some q) : Y D cA bs ad p l e (rmY 1 22) s m args below meth c 5 0 0 (QM D cA bs ad below args s none q) σ 0 [(0, .ref (ad x0)), (1, .ref (ad x1)), (2, .int x2)] [] := by
  unfold fX8_putDown_0 at h
  refine y_iconst (pc := 0) (v := (0 : Int32)) C dX8_putDown_0 (by decide) ?_
  refine y_istore_n (pc := 1) (lv' := [(3, .int (0 : Int32)), (0, .ref (ad x0)), (1, .ref (ad x1)), (2, .int x2)]) C dX8_putDown_1 rfl (by decide) rfl ?_
  refine y_sub [1, 2, 3, 0] (lv' := [(0, .ref (ad x0)), (1, .ref (ad x1)), (2, .int x2), (3, .int (0 : Int32))]) rfl ?_
  exact tX8_putDown_2 (fu := fu) C hx0 hx1 fu _ _ h
noncomputable def fX8_putDown (fu : Nat) (x0 : Nat) (x1 : Nat) (x2 : Int32) (σ : St) : Option (St) := if xk x0 = 6 then if xk x1 = 4 then fX8_putDown_0 fu x0 x1 x2 σ else none else none
theorem mX8_putDown {l : Launch} {D : va_G} {cA : ClassId} {bs fu : Nat} {ad : Nat → Nat} {x0 : Nat} {x1 : Nat} {x2 : Int32} {σ : St} {q : St} (h : fX8_putDown fu x0 x1 x2 σ = some q) : Ct l D cA bs ad yX8_putDown cX8_putDown 5 none 1 22 [.ref (ad x0), .ref (ad x1), .int x2] σ none q := by
  unfold fX8_putDown at h
  by_cases hx0 : xk x0 = 6
  case neg => rw [if_neg hx0] at h; cases h
  rw [if_pos hx0] at h
  by_cases hx1 : xk x1 = 4
  case neg => rw [if_neg hx1] at h; cases h
  rw [if_pos hx1] at h
  exact Ct.of (by decide) (Nat.le_of_ble_eq_true rfl) (fun p e s m args below meth c C => tX8_putDown_0 (fu := fu) C hx0 hx1 h)
noncomputable def fX8_wearForAYear_2b (fu : Nat) (k2 : Int32 → St → Option (St)) (x0 : Nat) (x1 : Int32) (σ : St) : Option (St) :=
  if (σ.1 x0 7) ≤ x1 then
    some σ
  else
    (ald σ (rf x0 1) 7 x1).bind fun (v102 : Int32) =>
    (ald σ (rf x0 4) 7 x1).bind fun (v103 : Int32) =>
    (fX8_wornHead fu x0 v102 x1 v103 σ).bind fun (q104 : Int32 × St) =>
    (ast q104.2 (rf x0 1) 7 x1 q104.1).bind fun (σ105 : St) =>
    nm (x1 + (1 : Int32)) fun (y106 : Int32) =>
    k2 y106 σ105
set_option maxHeartbeats 4000000 in
set_option maxRecDepth 100000 in
theorem tX8_wearForAYear_2b {l : Launch} {D : va_G} {cA : ClassId} {bs : Nat} {ad : Nat → Nat} {p : Program} {e : Env} {s : State} {m : MethodId} {args : Array Value} {below : List Frame} {meth : Method} {c : Code} {fu : Nat} (C : Cx D cA bs ad RX8 cX8_wearForAYear 2 none p s m args meth c) {k2 : Int32 → St → Option (St)} {x0 : Nat} {x1 : Int32} {q : St} (hx0 : xk x0 = 6) (hk2 : ∀ (x1 : Int32) (σ : St), k2 x1 σ = some q → Y D cA bs ad p l e (rmY 2 46) s m args below meth c 2 0 0 (QM D cA bs ad below args s none q) σ 2 [(0, .ref (ad x0)), (1, .int x1)] []) {σ : St} (h : fX8_wearForAYear_2b fu k2 x0 x1 σ = some q) : Y D cA bs ad p l e (rmY 2 46) s m args below meth c 2 0 0 (QM D cA bs ad below args s none q) σ 2 [(0, .ref (ad x0)), (1, .int x1)] [] := by
  unfold fX8_wearForAYear_2b at h
  refine y_iload_n (pc := 2) (q := 1) C dX8_wearForAYear_2 rfl rfl ?_
  refine y_aload_n (pc := 3) (q := 0) C dX8_wearForAYear_3 rfl rfl ?_
  refine y_geti (pc := 4) C faX8_33 rfl hx0 dX8_wearForAYear_4 ?_
  refine y_icmp_ge (pc := 7) (tgt := 39) C dX8_wearForAYear_7 (by decide) (fun c101 => ?_) (fun c101 => ?_)
  · rw [if_pos c101] at h
    cases h
    exact y_vret (pc := 39) C dX8_wearForAYear_39
  · rw [if_neg c101] at h
    refine y_aload_n (pc := 10) (q := 0) C dX8_wearForAYear_10 rfl rfl ?_
    refine y_getr (pc := 11) C faX8_15 rfl hx0 dX8_wearForAYear_11 ?_
    refine y_iload_n (pc := 14) (q := 1) C dX8_wearForAYear_14 rfl rfl ?_
    refine y_aload_n (pc := 15) (q := 0) C dX8_wearForAYear_15 rfl rfl ?_
    refine y_aload_n (pc := 16) (q := 0) C dX8_wearForAYear_16 rfl rfl ?_
    refine y_getr (pc := 17) C faX8_15 rfl hx0 dX8_wearForAYear_17 ?_
    refine y_iload_n (pc := 20) (q := 1) C dX8_wearForAYear_20 rfl rfl ?_
    obtain ⟨v102, ev102, h⟩ := bdS h
    refine y_iald (pc := 21) (n := 7) C (rf_6_1 _ hx0) (by decide) ev102 dX8_wearForAYear_21 ?_
    refine y_iload_n (pc := 22) (q := 1) C dX8_wearForAYear_22 rfl rfl ?_
    refine y_aload_n (pc := 23) (q := 0) C dX8_wearForAYear_23 rfl rfl ?_
    refine y_getr (pc := 24) C faX8_24 rfl hx0 dX8_wearForAYear_24 ?_
    refine y_iload_n (pc := 27) (q := 1) C dX8_wearForAYear_27 rfl rfl ?_
    obtain ⟨v103, ev103, h⟩ := bdS h
    refine y_iald (pc := 28) (n := 7) C (rf_6_4 _ hx0) (by decide) ev103 dX8_wearForAYear_28 ?_
    obtain ⟨q104, eq104, h⟩ := bdS h
    refine y_callV (pc := 29) (As := [.int v102, .int x1, .int v103]) (rest := [.int x1, .ref (ad (rf x0 1))]) C (mX8_wornHead (fu := fu) eq104) vwX8_69 rfl (by decide) hx0 rfl rfl (Nat.le_of_ble_eq_true rfl) ⟨Nat.le_of_ble_eq_true rfl, Nat.le_of_ble_eq_true rfl⟩ ⟨Nat.le_refl _, Nat.le_refl _⟩ dX8_wearForAYear_29 ?_
    show Y _ _ _ _ _ _ _ _ _ _ _ _ _ _ _ _ _ _ q104.2 32 [(0, .ref (ad x0)), (1, .int x1)] [.int q104.1, .int x1, .ref (ad (rf x0 1))]
    obtain ⟨σ105, eσ105, h⟩ := bdS h
    refine y_iast (pc := 32) (n := 7) C (rf_6_1 _ hx0) (by decide) eσ105 dX8_wearForAYear_32 ?_
    obtain ⟨y106, ey106, h⟩ := nmS h
    refine y_iinc (pc := 33) (v := y106) (k := 1) (lv' := [(1, .int y106), (0, .ref (ad x0))]) C dX8_wearForAYear_33 rfl (by rw [ey106]; rfl) (by decide) rfl ?_
    refine y_goto (pc := 36) (tgt := 2) C dX8_wearForAYear_36 (by decide) ?_
    refine y_sub [1, 0] (lv' := [(0, .ref (ad x0)), (1, .int y106)]) rfl ?_
    exact hk2 _ _ h
noncomputable def fX8_wearForAYear_2 (fu : Nat) (x0 : Nat) : Nat → Int32 → St → Option (St) := lp (fun k2 => fX8_wearForAYear_2b fu k2 x0) (fun _ _ => none)
set_option maxHeartbeats 4000000 in
theorem tX8_wearForAYear_2 {l : Launch} {D : va_G} {cA : ClassId} {bs : Nat} {ad : Nat → Nat} {p : Program} {e : Env} {s : State} {m : MethodId} {args : Array Value} {below : List Frame} {meth : Method} {c : Code} {fu : Nat} (C : Cx D cA bs ad RX8 cX8_wearForAYear 2 none p s m args meth c) {x0 : Nat} {q : St} (hx0 : xk x0 = 6)  : ∀ (n : Nat) (x1 : Int32) (σ : St), fX8_wearForAYear_2 fu  x0 n x1 σ = some q → Y D cA bs ad p l e (rmY 2 46) s m args below meth c 2 0 0 (QM D cA bs ad below args s none q) σ 2 [(0, .ref (ad x0)), (1, .int x1)] [] := by
  intro n
  induction n with
  | zero => intro x1 σ h; cases h
  | succ n ih => intro x1 σ h; exact tX8_wearForAYear_2b (fu := fu) C hx0 ih h
noncomputable def fX8_wearForAYear_0 (fu : Nat) (x0 : Nat) (σ : St) : Option (St) :=
  fX8_wearForAYear_2 fu x0 fu (0 : Int32) σ
set_option maxHeartbeats 4000000 in
set_option maxRecDepth 100000 in
theorem tX8_wearForAYear_0 {l : Launch} {D : va_G} {cA : ClassId} {bs : Nat} {ad : Nat → Nat} {p : Program} {e : Env} {s : State} {m : MethodId} {args : Array Value} {below : List Frame} {meth : Method} {c : Code} {fu : Nat} (C : Cx D cA bs ad RX8 cX8_wearForAYear 2 none p s m args meth c) {x0 : Nat} {q : St} (hx0 : xk x0 = 6) {σ : St} (h : fX8_wearForAYear_0 fu x0 σ = some q) : Y D cA bs ad p l e (rmY 2 46) s m args below meth c 2 0 0 (QM D cA bs ad below args s none q) σ 0 [(0, .ref (ad x0))] [] := by
  unfold fX8_wearForAYear_0 at h
  refine y_iconst (pc := 0) (v := (0 : Int32)) C dX8_wearForAYear_0 (by decide) ?_
  refine y_istore_n (pc := 1) (lv' := [(1, .int (0 : Int32)), (0, .ref (ad x0))]) C dX8_wearForAYear_1 rfl (by decide) rfl ?_
  refine y_sub [1, 0] (lv' := [(0, .ref (ad x0)), (1, .int (0 : Int32))]) rfl ?_
  exact tX8_wearForAYear_2 (fu := fu) C hx0 fu _ _ h
noncomputable def fX8_wearForAYear (fu : Nat) (x0 : Nat) (σ : St) : Option (St) := if xk x0 = 6 then fX8_wearForAYear_0 fu x0 σ else none
theorem mX8_wearForAYear {l : Launch} {D : va_G} {cA : ClassId} {bs fu : Nat} {ad : Nat → Nat} {x0 : Nat} {σ : St} {q : St} (h : fX8_wearForAYear fu x0 σ = some q) : Ct l D cA bs ad yX8_wearForAYear cX8_wearForAYear 2 none 2 46 [.ref (ad x0)] σ none q := by
  unfold fX8_wearForAYear at h
  by_cases hx0 : xk x0 = 6
  case neg => rw [if_neg hx0] at h; cases h
  rw [if_pos hx0] at h
  exact Ct.of (by decide) (Nat.le_of_ble_eq_true rfl) (fun p e s m args below meth c C => tX8_wearForAYear_0 (fu := fu) C hx0 h)
noncomputable def fX4_burningWear_0 (fu : Nat) (x0 : Nat) (σ : St) : Option (Int32 × St) :=
  some (((σ.1 x0 3) * (100 : Int32)), σ)
set_option maxHeartbeats 4000000 in
set_option maxRecDepth 100000 in
theorem tX4_burningWear_0 {l : Launch} {D : va_G} {cA : ClassId} {bs : Nat} {ad : Nat → Nat} {p : Program} {e : Env} {s : State} {m : MethodId} {args : Array Value} {below : List Frame} {meth : Method} {c : Code} {fu : Nat} (C : Cx D cA bs ad RX4 cX4_burningWear 1 (some .int) p s m args meth c) {x0 : Nat} {q : Int32 × St} (hx0 : xk x0 = 2) {σ : St} (h : fX4_burningWear_0 fu x0 σ = some q) : Y D cA bs ad p l e (rmY 0 0) s m args below meth c 1 0 0 (QM D cA bs ad below args s (some (.int q.1)) q.2) σ 0 [(0, .ref (ad x0))] [] := by
  unfold fX4_burningWear_0 at h
  refine y_aload_n (pc := 0) (q := 0) C dX4_burningWear_0 rfl rfl ?_
  refine y_geti (pc := 1) C faX4_9 rfl hx0 dX4_burningWear_1 ?_
  refine y_bipush (pc := 4) (v := (100 : Int32)) C dX4_burningWear_4 (by decide) ?_
  refine y_imul (pc := 6) C dX4_burningWear_6 ?_
  cases h
  exact y_iret (pc := 7) C dX4_burningWear_7
noncomputable def fX4_burningWear (fu : Nat) (x0 : Nat) (σ : St) : Option (Int32 × St) := if xk x0 = 2 then fX4_burningWear_0 fu x0 σ else none
theorem mX4_burningWear {l : Launch} {D : va_G} {cA : ClassId} {bs fu : Nat} {ad : Nat → Nat} {x0 : Nat} {σ : St} {q : Int32 × St} (h : fX4_burningWear fu x0 σ = some q) : Ct l D cA bs ad yX4_burningWear cX4_burningWear 1 (some .int) 0 0 [.ref (ad x0)] σ (some (.int q.1)) q.2 := by
  unfold fX4_burningWear at h
  by_cases hx0 : xk x0 = 2
  case neg => rw [if_neg hx0] at h; cases h
  rw [if_pos hx0] at h
  exact Ct.of (by decide) (Nat.le_of_ble_eq_true rfl) (fun p e s m args below meth c C => tX4_burningWear_0 (fu := fu) C hx0 h)
noncomputable def fX8_burnWorn_49 (fu : Nat) (k4 : Int32 → Int32 → St → Option (Int32 × St)) (x0 : Nat) (x1 : Int32) (x2 : Int32) (x3 : Int32) (σ : St) : Option (Int32 × St) :=
  nm (x3 + (1 : Int32)) fun (y101 : Int32) =>
  k4 x2 y101 σ
set_option maxHeartbeats 4000000 in
set_option maxRecDepth 100000 in
theorem tX8_burnWorn_49 {l : Launch} {D : va_G} {cA : ClassId} {bs : Nat} {ad : Nat → Nat} {p : Program} {e : Env} {s : State} {m : MethodId} {args : Array Value} {below : List Frame} {meth : Method} {c : Code} {fu : Nat} (C : Cx D cA bs ad RX8 cX8_burnWorn 4 (some .int) p s m args meth c) {k4 : Int32 → Int32 → St → Option (Int32 × St)} {x0 : Nat} {x1 : Int32} {x2 : Int32} {x3 : Int32} {q : Int32 × St} (hx0 : xk x0 = 6) (hk4 : ∀ (x2 : Int32) (x3 : Int32) (σ : St), k4 x2 x3 σ = some q → Y D cA bs ad p l e (rmY 0 0) s m args below meth c 4 0 0 (QM D cA bs ad below args s (some (.int q.1)) q.2) σ 4 [(0, .ref (ad x0)), (1, .int x1), (2, .int x2), (3, .int x3)] []) {σ : St} (h : fX8_burnWorn_49 fu k4 x0 x1 x2 x3 σ = some q) : Y D cA bs ad p l e (rmY 0 0) s m args below meth c 4 0 0 (QM D cA bs ad below args s (some (.int q.1)) q.2) σ 49 [(0, .ref (ad x0)), (1, .int x1), (2, .int x2), (3, .int x3)] [] := by
  unfold fX8_burnWorn_49 at h
  obtain ⟨y101, ey101, h⟩ := nmS h
  refine y_iinc (pc := 49) (v := y101) (k := 3) (lv' := [(3, .int y101), (0, .ref (ad x0)), (1, .int x1), (2, .int x2)]) C dX8_burnWorn_49 rfl (by rw [ey101]; rfl) (by decide) rfl ?_
  refine y_goto (pc := 52) (tgt := 4) C dX8_burnWorn_52 (by decide) ?_
  refine y_sub [1, 2, 3, 0] (lv' := [(0, .ref (ad x0)), (1, .int x1), (2, .int x2), (3, .int y101)]) rfl ?_
  exact hk4 _ _ _ h
noncomputable def fX8_burnWorn_4b (fu : Nat) (k4 : Int32 → Int32 → St → Option (Int32 × St)) (x0 : Nat) (x1 : Int32) (x2 : Int32) (x3 : Int32) (σ : St) : Option (Int32 × St) :=
  if (σ.1 x0 7) ≤ x3 then
    some (x2, σ)
  else
    (ald σ (rf x0 1) 7 x3).bind fun (v102 : Int32) =>
    if v102 < x1 then
      fX8_burnWorn_49 fu k4 x0 x1 x2 x3 σ
    else
      (ald σ (rf x0 2) 7 x3).bind fun (v104 : Int32) =>
      if v104 < x1 then
        fX8_burnWorn_49 fu k4 x0 x1 x2 x3 σ
      else
        (ast σ (rf x0 1) 7 x3 (0 : Int32)).bind fun (σ106 : St) =>
        (ast σ106 (rf x0 2) 7 x3 (0 : Int32)).bind fun (σ107 : St) =>
        nm (x2 + (1 : Int32)) fun (y108 : Int32) =>
        fX8_burnWorn_49 fu k4 x0 x1 y108 x3 σ107
set_option maxHeartbeats 4000000 in
set_option maxRecDepth 100000 in
theorem tX8_burnWorn_4b {l : Launch} {D : va_G} {cA : ClassId} {bs : Nat} {ad : Nat → Nat} {p : Program} {e : Env} {s : State} {m : MethodId} {args : Array Value} {below : List Frame} {meth : Method} {c : Code} {fu : Nat} (C : Cx D cA bs ad RX8 cX8_burnWorn 4 (some .int) p s m args meth c) {k4 : Int32 → Int32 → St → Option (Int32 × St)} {x0 : Nat} {x1 : Int32} {x2 : Int32} {x3 : Int32} {q : Int32 × St} (hx0 : xk x0 = 6) (hk4 : ∀ (x2 : Int32) (x3 : Int32) (σ : St), k4 x2 x3 σ = some q → Y D cA bs ad p l e (rmY 0 0) s m args below meth c 4 0 0 (QM D cA bs ad below args s (some (.int q.1)) q.2) σ 4 [(0, .ref (ad x0)), (1, .int x1), (2, .int x2), (3, .int x3)] []) {σ : St} (h : fX8_burnWorn_4b fu k4 x0 x1 x2 x3 σ = some q) : Y D cA bs ad p l e (rmY 0 0) s m args below meth c 4 0 0 (QM D cA bs ad below args s (some (.int q.1)) q.2) σ 4 [(0, .ref (ad x0)), (1, .int x1), (2, .int x2), (3, .int x3)] [] := by
  unfold fX8_burnWorn_4b at h
  refine y_iload_n (pc := 4) (q := 3) C dX8_burnWorn_4 rfl rfl ?_
  refine y_aload_n (pc := 5) (q := 0) C dX8_burnWorn_5 rfl rfl ?_
  refine y_geti (pc := 6) C faX8_33 rfl hx0 dX8_burnWorn_6 ?_
  refine y_icmp_ge (pc := 9) (tgt := 55) C dX8_burnWorn_9 (by decide) (fun c101 => ?_) (fun c101 => ?_)
  · rw [if_pos c101] at h
    refine y_iload_n (pc := 55) (q := 2) C dX8_burnWorn_55 rfl rfl ?_
    cases h
    exact y_iret (pc := 56) C dX8_burnWorn_56
  · rw [if_neg c101] at h
    refine y_aload_n (pc := 12) (q := 0) C dX8_burnWorn_12 rfl rfl ?_
    refine y_getr (pc := 13) C faX8_15 rfl hx0 dX8_burnWorn_13 ?_
    refine y_iload_n (pc := 16) (q := 3) C dX8_burnWorn_16 rfl rfl ?_
    obtain ⟨v102, ev102, h⟩ := bdS h
    refine y_iald (pc := 17) (n := 7) C (rf_6_1 _ hx0) (by decide) ev102 dX8_burnWorn_17 ?_
    refine y_iload_n (pc := 18) (q := 1) C dX8_burnWorn_18 rfl rfl ?_
    refine y_icmp_lt (pc := 19) (tgt := 49) C dX8_burnWorn_19 (by decide) (fun c103 => ?_) (fun c103 => ?_)
    · rw [if_pos c103] at h
      exact tX8_burnWorn_49 (fu := fu) C hx0 hk4 h
    · rw [if_neg c103] at h
      refine y_aload_n (pc := 22) (q := 0) C dX8_burnWorn_22 rfl rfl ?_
      refine y_getr (pc := 23) C faX8_18 rfl hx0 dX8_burnWorn_23 ?_
      refine y_iload_n (pc := 26) (q := 3) C dX8_burnWorn_26 rfl rfl ?_
      obtain ⟨v104, ev104, h⟩ := bdS h
      refine y_iald (pc := 27) (n := 7) C (rf_6_2 _ hx0) (by decide) ev104 dX8_burnWorn_27 ?_
      refine y_iload_n (pc := 28) (q := 1) C dX8_burnWorn_28 rfl rfl ?_
      refine y_icmp_lt (pc := 29) (tgt := 49) C dX8_burnWorn_29 (by decide) (fun c105 => ?_) (fun c105 => ?_)
      · rw [if_pos c105] at h
        exact tX8_burnWorn_49 (fu := fu) C hx0 hk4 h
      · rw [if_neg c105] at h
        refine y_aload_n (pc := 32) (q := 0) C dX8_burnWorn_32 rfl rfl ?_
        refine y_getr (pc := 33) C faX8_15 rfl hx0 dX8_burnWorn_33 ?_
        refine y_iload_n (pc := 36) (q := 3) C dX8_burnWorn_36 rfl rfl ?_
        refine y_iconst (pc := 37) (v := (0 : Int32)) C dX8_burnWorn_37 (by decide) ?_
        obtain ⟨σ106, eσ106, h⟩ := bdS h
        refine y_iast (pc := 38) (n := 7) C (rf_6_1 _ hx0) (by decide) eσ106 dX8_burnWorn_38 ?_
        refine y_aload_n (pc := 39) (q := 0) C dX8_burnWorn_39 rfl rfl ?_
        refine y_getr (pc := 40) C faX8_18 rfl hx0 dX8_burnWorn_40 ?_
        refine y_iload_n (pc := 43) (q := 3) C dX8_burnWorn_43 rfl rfl ?_
        refine y_iconst (pc := 44) (v := (0 : Int32)) C dX8_burnWorn_44 (by decide) ?_
        obtain ⟨σ107, eσ107, h⟩ := bdS h
        refine y_iast (pc := 45) (n := 7) C (rf_6_2 _ hx0) (by decide) eσ107 dX8_burnWorn_45 ?_
        obtain ⟨y108, ey108, h⟩ := nmS h
        refine y_iinc (pc := 46) (v := y108) (k := 2) (lv' := [(2, .int y108), (0, .ref (ad x0)), (1, .int x1), (3, .int x3)]) C dX8_burnWorn_46 rfl (by rw [ey108]; rfl) (by decide) rfl ?_
        refine y_sub [1, 2, 0, 3] (lv' := [(0, .ref (ad x0)), (1, .int x1), (2, .int y108), (3, .int x3)]) rfl ?_
        exact tX8_burnWorn_49 (fu := fu) C hx0 hk4 h
noncomputable def fX8_burnWorn_4 (fu : Nat) (x0 : Nat) (x1 : Int32) : Nat → Int32 → Int32 → St → Option (Int32 × St) := lp (fun k4 => fX8_burnWorn_4b fu k4 x0 x1) (fun _ _ _ => none)
set_option maxHeartbeats 4000000 in
theorem tX8_burnWorn_4 {l : Launch} {D : va_G} {cA : ClassId} {bs : Nat} {ad : Nat → Nat} {p : Program} {e : Env} {s : State} {m : MethodId} {args : Array Value} {below : List Frame} {meth : Method} {c : Code} {fu : Nat} (C : Cx D cA bs ad RX8 cX8_burnWorn 4 (some .int) p s m args meth c) {x0 : Nat} {x1 : Int32} {q : Int32 × St} (hx0 : xk x0 = 6)  : ∀ (n : Nat) (x2 : Int32) (x3 : Int32) (σ : St), fX8_burnWorn_4 fu  x0 x1 n x2 x3 σ = some q → Y D cA bs ad p l e (rmY 0 0) s m args below meth c 4 0 0 (QM D cA bs ad below args s (some (.int q.1)) q.2) σ 4 [(0, .ref (ad x0)), (1, .int x1), (2, .int x2), (3, .int x3)] [] := by
  intro n
  induction n with
  | zero => intro x2 x3 σ h; cases h
  | succ n ih => intro x2 x3 σ h; exact tX8_burnWorn_4b (fu := fu) C hx0 ih h
noncomputable def fX8_burnWorn_0 (fu : Nat) (x0 : Nat) (x1 : Int32) (σ : St) : Option (Int32 × St) :=
  fX8_burnWorn_4 fu x0 x1 fu (0 : Int32) (0 : Int32) σ
set_option maxHeartbeats 4000000 in
set_option maxRecDepth 100000 in
theorem tX8_burnWorn_0 {l : Launch} {D : va_G} {cA : ClassId} {bs : Nat} {ad : Nat → Nat} {p : Program} {e : Env} {s : State} {m : MethodId} {args : Array Value} {below : List Frame} {meth : Method} {c : Code} {fu : Nat} (C : Cx D cA bs ad RX8 cX8_burnWorn 4 (some .int) p s m args meth c) {x0 : Nat} {x1 : Int32} {q : Int32 × St} (hx0 : xk x0 = 6) {σ : St} (h : fX8_burnWorn_0 fu x0 x1 σ = some q) : Y D cA bs ad p l e (rmY 0 0) s m args below meth c 4 0 0 (QM D cA bs ad below args s (some (.int q.1)) q.2) σ 0 [(0, .ref (ad x0)), (1, .int x1)] [] := by
  unfold fX8_burnWorn_0 at h
  refine y_iconst (pc := 0) (v := (0 : Int32)) C dX8_burnWorn_0 (by decide) ?_
  refine y_istore_n (pc := 1) (lv' := [(2, .int (0 : Int32)), (0, .ref (ad x0)), (1, .int x1)]) C dX8_burnWorn_1 rfl (by decide) rfl ?_
  refine y_iconst (pc := 2) (v := (0 : Int32)) C dX8_burnWorn_2 (by decide) ?_
  refine y_istore_n (pc := 3) (lv' := [(3, .int (0 : Int32)), (2, .int (0 : Int32)), (0, .ref (ad x0)), (1, .int x1)]) C dX8_burnWorn_3 rfl (by decide) rfl ?_
  refine y_sub [2, 3, 1, 0] (lv' := [(0, .ref (ad x0)), (1, .int x1), (2, .int (0 : Int32)), (3, .int (0 : Int32))]) rfl ?_
  exact tX8_burnWorn_4 (fu := fu) C hx0 fu _ _ _ h
noncomputable def fX8_burnWorn (fu : Nat) (x0 : Nat) (x1 : Int32) (σ : St) : Option (Int32 × St) := if xk x0 = 6 then fX8_burnWorn_0 fu x0 x1 σ else none
theorem mX8_burnWorn {l : Launch} {D : va_G} {cA : ClassId} {bs fu : Nat} {ad : Nat → Nat} {x0 : Nat} {x1 : Int32} {σ : St} {q : Int32 × St} (h : fX8_burnWorn fu x0 x1 σ = some q) : Ct l D cA bs ad yX8_burnWorn cX8_burnWorn 4 (some .int) 0 0 [.ref (ad x0), .int x1] σ (some (.int q.1)) q.2 := by
  unfold fX8_burnWorn at h
  by_cases hx0 : xk x0 = 6
  case neg => rw [if_neg hx0] at h; cases h
  rw [if_pos hx0] at h
  exact Ct.of (by decide) (Nat.le_of_ble_eq_true rfl) (fun p e s m args below meth c C => tX8_burnWorn_0 (fu := fu) C hx0 h)
