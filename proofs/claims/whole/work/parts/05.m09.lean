noncomputable def fX10_draw_0 (fu : Nat) (x0 : Nat) (x1 : Int32) (σ : St) : Option (Int32 × St) :=
  nm (si σ x0 26 (((((1103515245 : Int64) * ((σ.1 x0 26).toInt64)) + (12345 : Int64)) &&& (2147483647 : Int64)).toInt32)) fun (σ101 : St) =>
  if x1 = 0 then none else
  some ((((σ101.1 x0 26) / (65536 : Int32)) - ((σ101.1 x0 26) / (65536 : Int32)) / x1 * x1), σ101)
set_option maxHeartbeats 4000000 in
set_option maxRecDepth 100000 in
theorem tX10_draw_0 {l : Launch} {D : va_G} {cA : ClassId} {bs : Nat} {ad : Nat → Nat} {p : Program} {e : Env} {s : State} {m : MethodId} {args : Array Value} {below : List Frame} {meth : Method} {c : Code} {fu : Nat} (C : Cx D cA bs ad RX10 cX10_draw 2 (some .int) p s m args meth c) {x0 : Nat} {x1 : Int32} {q : Int32 × St} (hx0 : xk x0 = 8) {σ : St} (h : fX10_draw_0 fu x0 x1 σ = some q) : Y D cA bs ad p l e (rmY 0 0) s m args below meth c 2 0 0 (QM D cA bs ad below args s (some (.int q.1)) q.2) σ 0 [(0, .ref (ad x0)), (1, .int x1)] [] := by
  unfold fX10_draw_0 at h
  refine y_aload_n (pc := 0) (q := 0) C dX10_draw_0 rfl rfl ?_
  refine y_ldc2 (pc := 1) C dX10_draw_1 cwX10_194 ?_
  refine y_aload_n (pc := 4) (q := 0) C dX10_draw_4 rfl rfl ?_
  refine y_geti (pc := 5) C faX10_196 rfl hx0 dX10_draw_5 ?_
  refine y_i2l (pc := 8) C dX10_draw_8 ?_
  refine y_lmul (pc := 9) C dX10_draw_9 ?_
  refine y_ldc2 (pc := 10) C dX10_draw_10 cwX10_199 ?_
  refine y_ladd (pc := 13) C dX10_draw_13 ?_
  refine y_ldc2 (pc := 14) C dX10_draw_14 cwX10_201 ?_
  refine y_land (pc := 17) C dX10_draw_17 ?_
  refine y_l2i (pc := 18) C dX10_draw_18 ?_
  obtain ⟨σ101, eσ101, h⟩ := nmS h
  refine y_puti (pc := 19) C fpX10_196 rfl hx0 rfl rfl dX10_draw_19 ?_
  rw [← eσ101]
  refine y_aload_n (pc := 22) (q := 0) C dX10_draw_22 rfl rfl ?_
  refine y_geti (pc := 23) C faX10_196 rfl hx0 dX10_draw_23 ?_
  refine y_ldc (pc := 26) C dX10_draw_26 cwX10_203 ?_
  refine y_idiv (pc := 28) C dX10_draw_28 (by decide) ?_
  refine y_iload_n (pc := 29) (q := 1) C dX10_draw_29 rfl rfl ?_
  by_cases hz103 : x1 = 0
  case pos => rw [if_pos hz103] at h; cases h
  rw [if_neg hz103] at h
  refine y_irem (pc := 30) C dX10_draw_30 hz103 ?_
  cases h
  exact y_iret (pc := 31) C dX10_draw_31
noncomputable def fX10_draw (fu : Nat) (x0 : Nat) (x1 : Int32) (σ : St) : Option (Int32 × St) := if xk x0 = 8 then fX10_draw_0 fu x0 x1 σ else none
theorem mX10_draw {l : Launch} {D : va_G} {cA : ClassId} {bs fu : Nat} {ad : Nat → Nat} {x0 : Nat} {x1 : Int32} {σ : St} {q : Int32 × St} (h : fX10_draw fu x0 x1 σ = some q) : Ct l D cA bs ad yX10_draw cX10_draw 2 (some .int) 0 0 [.ref (ad x0), .int x1] σ (some (.int q.1)) q.2 := by
  unfold fX10_draw at h
  by_cases hx0 : xk x0 = 8
  case neg => rw [if_neg hx0] at h; cases h
  rw [if_pos hx0] at h
  exact Ct.of (by decide) (Nat.le_of_ble_eq_true rfl) (fun p e s m args below meth c C => tX10_draw_0 (fu := fu) C hx0 h)
noncomputable def fX10_flood_93 (fu : Nat) (k29 : Int32 → St → Option (Int32 × St)) (x0 : Nat) (x1 : Int32) (x2 : Int32) (σ : St) : Option (Int32 × St) :=
  nm (x2 + (-1 : Int32)) fun (y101 : Int32) =>
  k29 y101 σ
set_option maxHeartbeats 4000000 in
set_option maxRecDepth 100000 in
theorem tX10_flood_93 {l : Launch} {D : va_G} {cA : ClassId} {bs : Nat} {ad : Nat → Nat} {p : Program} {e : Env} {s : State} {m : MethodId} {args : Array Value} {below : List Frame} {meth : Method} {c : Code} {fu : Nat} (C : Cx D cA bs ad RX10 cX10_flood 6 (some .int) p s m args meth c) {k29 : Int32 → St → Option (Int32 × St)} {x0 : Nat} {x1 : Int32} {x2 : Int32} {q : Int32 × St} (hx0 : xk x0 = 8) (hk29 : ∀ (x2 : Int32) (σ : St), k29 x2 σ = some q → Y D cA bs ad p l e (rmY 1 23) s m args below meth c 6 0 0 (QM D cA bs ad below args s (some (.int q.1)) q.2) σ 29 [(0, .ref (ad x0)), (1, .int x1), (2, .int x2)] []) {σ : St} (h : fX10_flood_93 fu k29 x0 x1 x2 σ = some q) : Y D cA bs ad p l e (rmY 1 23) s m args below meth c 6 0 0 (QM D cA bs ad below args s (some (.int q.1)) q.2) σ 93 [(0, .ref (ad x0)), (1, .int x1), (2, .int x2)] [] := by
  unfold fX10_flood_93 at h
  obtain ⟨y101, ey101, h⟩ := nmS h
  refine y_iinc (pc := 93) (v := y101) (k := 2) (lv' := [(2, .int y101), (0, .ref (ad x0)), (1, .int x1)]) C dX10_flood_93 rfl (by rw [ey101]; rfl) (by decide) rfl ?_
  refine y_goto (pc := 96) (tgt := 29) C dX10_flood_96 (by decide) ?_
  refine y_sub [1, 2, 0] (lv' := [(0, .ref (ad x0)), (1, .int x1), (2, .int y101)]) rfl ?_
  exact hk29 _ _ h
noncomputable def fX10_flood_29b (fu : Nat) (k29 : Int32 → St → Option (Int32 × St)) (x0 : Nat) (x1 : Int32) (x2 : Int32) (σ : St) : Option (Int32 × St) :=
  if x2 ≤ 0 then
    some ((σ.1 x0 26), σ)
  else
    (fX10_draw fu x0 (x2 + (1 : Int32)) σ).bind fun (q102 : Int32 × St) =>
    (fX10_blockAt fu x0 x2 q102.2).bind fun (q103 : Int32 × St) =>
    (fX10_blockAt fu x0 q102.1 q103.2).bind fun (q104 : Int32 × St) =>
    (ast q104.2 (rf x0 16) 7 q103.1 q102.1).bind fun (σ105 : St) =>
    (ast σ105 (rf x0 16) 7 q104.1 x2).bind fun (σ106 : St) =>
    (fX10_draw fu x0 (2 : Int32) σ106).bind fun (q107 : Int32 × St) =>
    if q107.1 = (1 : Int32) then
      (fX10_exchange fu (rf x0 14) (rf x0 15) q104.1 q107.2).bind fun (q109 : St) =>
      fX10_flood_93 fu k29 x0 x1 x2 q109
    else
      fX10_flood_93 fu k29 x0 x1 x2 q107.2
set_option maxHeartbeats 4000000 in
set_option maxRecDepth 100000 in
theorem tX10_flood_29b {l : Launch} {D : va_G} {cA : ClassId} {bs : Nat} {ad : Nat → Nat} {p : Program} {e : Env} {s : State} {m : MethodId} {args : Array Value} {below : List Frame} {meth : Method} {c : Code} {fu : Nat} (C : Cx D cA bs ad RX10 cX10_flood 6 (some .int) p s m args meth c) {k29 : Int32 → St → Option (Int32 × St)} {x0 : Nat} {x1 : Int32} {x2 : Int32} {q : Int32 × St} (hx0 : xk x0 = 8) (hk29 : ∀ (x2 : Int32) (σ : St), k29 x2 σ = some q → Y D cA bs ad p l e (rmY 1 23) s m args below meth c 6 0 0 (QM D cA bs ad below args s (some (.int q.1)) q.2) σ 29 [(0, .ref (ad x0)), (1, .int x1), (2, .int x2)] []) {σ : St} (h : fX10_flood_29b fu k29 x0 x1 x2 σ = some q) : Y D cA bs ad p l e (rmY 1 23) s m args below meth c 6 0 0 (QM D cA bs ad below args s (some (.int q.1)) q.2) σ 29 [(0, .ref (ad x0)), (1, .int x1), (2, .int x2)] [] := by
  unfold fX10_flood_29b at h
  refine y_iload_n (pc := 29) (q := 2) C dX10_flood_29 rfl rfl ?_
  refine y_if_le (pc := 30) (tgt := 99) C dX10_flood_30 (by decide) (fun c101 => ?_) (fun c101 => ?_)
  · rw [if_pos c101] at h
    refine y_aload_n (pc := 99) (q := 0) C dX10_flood_99 rfl rfl ?_
    refine y_geti (pc := 100) C faX10_196 rfl hx0 dX10_flood_100 ?_
    cases h
    exact y_iret (pc := 103) C dX10_flood_103
  · rw [if_neg c101] at h
    refine y_aload_n (pc := 33) (q := 0) C dX10_flood_33 rfl rfl ?_
    refine y_iload_n (pc := 34) (q := 2) C dX10_flood_34 rfl rfl ?_
    refine y_iconst (pc := 35) (v := (1 : Int32)) C dX10_flood_35 (by decide) ?_
    refine y_iadd (pc := 36) C dX10_flood_36 ?_
    obtain ⟨q102, eq102, h⟩ := bdS h
    refine y_callV (pc := 37) (As := [.int (x2 + (1 : Int32))]) (rest := []) C (mX10_draw (fu := fu) eq102) vwX10_204 rfl (by decide) hx0 rfl rfl (Nat.le_of_ble_eq_true rfl) ⟨Nat.le_of_ble_eq_true rfl, Nat.le_of_ble_eq_true rfl⟩ ⟨Nat.le_refl _, Nat.le_refl _⟩ dX10_flood_37 ?_
    show Y _ _ _ _ _ _ _ _ _ _ _ _ _ _ _ _ _ _ q102.2 40 [(0, .ref (ad x0)), (1, .int x1), (2, .int x2)] [.int q102.1]
    refine y_istore_n (pc := 40) (lv' := [(3, .int q102.1), (0, .ref (ad x0)), (1, .int x1), (2, .int x2)]) C dX10_flood_40 rfl (by decide) rfl ?_
    refine y_aload_n (pc := 41) (q := 1) C dX10_flood_41 rfl rfl ?_
    refine y_iload_n (pc := 42) (q := 3) C dX10_flood_42 rfl rfl ?_
    obtain ⟨q103, eq103, h⟩ := bdS h
    refine y_callV (pc := 43) (As := [.int x2]) (rest := []) C (mX10_blockAt (fu := fu) eq103) vwX10_123 rfl (by decide) hx0 rfl rfl (Nat.le_of_ble_eq_true rfl) ⟨Nat.le_of_ble_eq_true rfl, Nat.le_of_ble_eq_true rfl⟩ ⟨Nat.le_refl _, Nat.le_refl _⟩ dX10_flood_43 ?_
    show Y _ _ _ _ _ _ _ _ _ _ _ _ _ _ _ _ _ _ q103.2 46 [(3, .int q102.1), (0, .ref (ad x0)), (1, .int x1), (2, .int x2)] [.int q103.1]
    refine y_istore (pc := 46) (lv' := [(4, .int q103.1), (3, .int q102.1), (0, .ref (ad x0)), (1, .int x1), (2, .int x2)]) C dX10_flood_46 (by decide) rfl ?_
    refine y_aload_n (pc := 48) (q := 2) C dX10_flood_48 rfl rfl ?_
    refine y_iload_n (pc := 49) (q := 1) C dX10_flood_49 rfl rfl ?_
    obtain ⟨q104, eq104, h⟩ := bdS h
    refine y_callV (pc := 50) (As := [.int q102.1]) (rest := []) C (mX10_blockAt (fu := fu) eq104) vwX10_123 rfl (by decide) hx0 rfl rfl (Nat.le_of_ble_eq_true rfl) ⟨Nat.le_of_ble_eq_true rfl, Nat.le_of_ble_eq_true rfl⟩ ⟨Nat.le_refl _, Nat.le_refl _⟩ dX10_flood_50 ?_
    show Y _ _ _ _ _ _ _ _ _ _ _ _ _ _ _ _ _ _ q104.2 53 [(4, .int q103.1), (3, .int q102.1), (0, .ref (ad x0)), (1, .int x1), (2, .int x2)] [.int q104.1]
    refine y_istore (pc := 53) (lv' := [(5, .int q104.1), (4, .int q103.1), (3, .int q102.1), (0, .ref (ad x0)), (1, .int x1), (2, .int x2)]) C dX10_flood_53 (by decide) rfl ?_
    refine y_aload_n (pc := 55) (q := 3) C dX10_flood_55 rfl rfl ?_
    refine y_getr (pc := 56) C faX10_22 rfl hx0 dX10_flood_56 ?_
    refine y_iload (pc := 59) (q := 1) C dX10_flood_59 rfl ?_
    refine y_iload_n (pc := 61) (q := 2) C dX10_flood_61 rfl rfl ?_
    obtain ⟨σ105, eσ105, h⟩ := bdS h
    refine y_iast (pc := 62) (n := 7) C (rf_8_16 _ hx0) (by decide) eσ105 dX10_flood_62 ?_
    refine y_aload_n (pc := 63) (q := 3) C dX10_flood_63 rfl rfl ?_
    refine y_getr (pc := 64) C faX10_22 rfl hx0 dX10_flood_64 ?_
    refine y_iload (pc := 67) (q := 0) C dX10_flood_67 rfl ?_
    refine y_iload_n (pc := 69) (q := 5) C dX10_flood_69 rfl rfl ?_
    obtain ⟨σ106, eσ106, h⟩ := bdS h
    refine y_iast (pc := 70) (n := 7) C (rf_8_16 _ hx0) (by decide) eσ106 dX10_flood_70 ?_
    refine y_aload_n (pc := 71) (q := 3) C dX10_flood_71 rfl rfl ?_
    refine y_iconst (pc := 72) (v := (2 : Int32)) C dX10_flood_72 (by decide) ?_
    obtain ⟨q107, eq107, h⟩ := bdS h
    refine y_callV (pc := 73) (As := [.int (2 : Int32)]) (rest := []) C (mX10_draw (fu := fu) eq107) vwX10_204 rfl (by decide) hx0 rfl rfl (Nat.le_of_ble_eq_true rfl) ⟨Nat.le_of_ble_eq_true rfl, Nat.le_of_ble_eq_true rfl⟩ ⟨Nat.le_refl _, Nat.le_refl _⟩ dX10_flood_73 ?_
    show Y _ _ _ _ _ _ _ _ _ _ _ _ _ _ _ _ _ _ q107.2 76 [(5, .int q104.1), (4, .int q103.1), (3, .int q102.1), (0, .ref (ad x0)), (1, .int x1), (2, .int x2)] [.int q107.1]
    refine y_iconst (pc := 76) (v := (1 : Int32)) C dX10_flood_76 (by decide) ?_
    refine y_icmp_ne (pc := 77) (tgt := 93) C dX10_flood_77 (by decide) (fun c108 => ?_) (fun c108 => ?_)
    · rw [if_neg c108] at h
      refine y_sub [3, 4, 5] (lv' := [(0, .ref (ad x0)), (1, .int x1), (2, .int x2)]) rfl ?_
      exact tX10_flood_93 (fu := fu) C hx0 hk29 h
    · rw [if_pos c108] at h
      refine y_aload_n (pc := 80) (q := 3) C dX10_flood_80 rfl rfl ?_
      refine y_getr (pc := 81) C faX10_16 rfl hx0 dX10_flood_81 ?_
      refine y_aload_n (pc := 84) (q := 3) C dX10_flood_84 rfl rfl ?_
      refine y_getr (pc := 85) C faX10_19 rfl hx0 dX10_flood_85 ?_
      refine y_iload (pc := 88) (q := 0) C dX10_flood_88 rfl ?_
      obtain ⟨q109, eq109, h⟩ := bdS h
      refine y_callS (pc := 90) (As := [.ref (ad (rf x0 14)), .ref (ad (rf x0 15)), .int q104.1]) (rest := []) C (mX10_exchange (fu := fu) eq109) vwX10_126 rfl rfl (Nat.le_of_ble_eq_true rfl) ⟨Nat.le_of_ble_eq_true rfl, Nat.le_of_ble_eq_true rfl⟩ ⟨Nat.le_refl _, Nat.le_refl _⟩ dX10_flood_90 ?_
      show Y _ _ _ _ _ _ _ _ _ _ _ _ _ _ _ _ _ _ q109 93 [(5, .int q104.1), (4, .int q103.1), (3, .int q102.1), (0, .ref (ad x0)), (1, .int x1), (2, .int x2)] []
      refine y_sub [3, 4, 5] (lv' := [(0, .ref (ad x0)), (1, .int x1), (2, .int x2)]) rfl ?_
      exact tX10_flood_93 (fu := fu) C hx0 hk29 h
noncomputable def fX10_flood_29 (fu : Nat) (x0 : Nat) (x1 : Int32) : Nat → Int32 → St → Option (Int32 × St) := lp (fun k29 => fX10_flood_29b fu k29 x0 x1) (fun _ _ => none)
set_option maxHeartbeats 4000000 in
theorem tX10_flood_29 {l : Launch} {D : va_G} {cA : ClassId} {bs : Nat} {ad : Nat → Nat} {p : Program} {e : Env} {s : State} {m : MethodId} {args : Array Value} {below : List Frame} {meth : Method} {c : Code} {fu : Nat} (C : Cx D cA bs ad RX10 cX10_flood 6 (some .int) p s m args meth c) {x0 : Nat} {x1 : Int32} {q : Int32 × St} (hx0 : xk x0 = 8)  : ∀ (n : Nat) (x2 : Int32) (σ : St), fX10_flood_29 fu  x0 x1 n x2 σ = some q → Y D cA bs ad p l e (rmY 1 23) s m args below meth c 6 0 0 (QM D cA bs ad below args s (some (.int q.1)) q.2) σ 29 [(0, .ref (ad x0)), (1, .int x1), (2, .int x2)] [] := by
  intro n
  induction n with
  | zero => intro x2 σ h; cases h
  | succ n ih => intro x2 σ h; exact tX10_flood_29b (fu := fu) C hx0 ih h
noncomputable def fX10_flood_0 (fu : Nat) (x0 : Nat) (x1 : Int32) (σ : St) : Option (Int32 × St) :=
  (fX10_lacks fu x0 σ).bind fun (q101 : Int32 × St) =>
  if q101.1 = 0 then
    if 0 ≤ x1 then
      nm (si q101.2 x0 26 x1) fun (σ104 : St) =>
      nm ((σ104.1 x0 12) - (1 : Int32)) fun (y105 : Int32) =>
      fX10_flood_29 fu x0 x1 fu y105 σ104
    else
      some ((-102 : Int32), q101.2)
  else
    some ((-103 : Int32), q101.2)
set_option maxHeartbeats 4000000 in
set_option maxRecDepth 100000 in
theorem tX10_flood_0 {l : Launch} {D : va_G} {cA : ClassId} {bs : Nat} {ad : Nat → Nat} {p : Program} {e : Env} {s : State} {m : MethodId} {args : Array Value} {below : List Frame} {meth : Method} {c : Code} {fu : Nat} (C : Cx D cA bs ad RX10 cX10_flood 6 (some .int) p s m args meth c) {x0 : Nat} {x1 : Int32} {q : Int32 × St} (hx0 : xk x0 = 8) {σ : St} (h : fX10_flood_0 fu x0 x1 σ = some q) : Y D cA bs ad p l e (rmY 1 23) s m args below meth c 6 0 0 (QM D cA bs ad below args s (some (.int q.1)) q.2) σ 0 [(0, .ref (ad x0)), (1, .int x1)] [] := by
  unfold fX10_flood_0 at h
  refine y_aload_n (pc := 0) (q := 0) C dX10_flood_0 rfl rfl ?_
  obtain ⟨q101, eq101, h⟩ := bdS h
  refine y_callV (pc := 1) (As := []) (rest := []) C (mX10_lacks (fu := fu) eq101) vwX10_137 rfl (by decide) hx0 rfl rfl (Nat.le_of_ble_eq_true rfl) ⟨Nat.le_of_ble_eq_true rfl, Nat.le_of_ble_eq_true rfl⟩ ⟨Nat.le_refl _, Nat.le_refl _⟩ dX10_flood_1 ?_
  show Y _ _ _ _ _ _ _ _ _ _ _ _ _ _ _ _ _ _ q101.2 4 [(0, .ref (ad x0)), (1, .int x1)] [.int q101.1]
  refine y_if_eq (pc := 4) (tgt := 10) C dX10_flood_4 (by decide) (fun c102 => ?_) (fun c102 => ?_)
  · rw [if_pos c102] at h
    refine y_iload_n (pc := 10) (q := 1) C dX10_flood_10 rfl rfl ?_
    refine y_if_ge (pc := 11) (tgt := 17) C dX10_flood_11 (by decide) (fun c103 => ?_) (fun c103 => ?_)
    · rw [if_pos c103] at h
      refine y_aload_n (pc := 17) (q := 0) C dX10_flood_17 rfl rfl ?_
      refine y_iload_n (pc := 18) (q := 1) C dX10_flood_18 rfl rfl ?_
      obtain ⟨σ104, eσ104, h⟩ := nmS h
      refine y_puti (pc := 19) C fpX10_196 rfl hx0 rfl rfl dX10_flood_19 ?_
      rw [← eσ104]
      refine y_aload_n (pc := 22) (q := 0) C dX10_flood_22 rfl rfl ?_
      refine y_geti (pc := 23) C faX10_105 rfl hx0 dX10_flood_23 ?_
      refine y_iconst (pc := 26) (v := (1 : Int32)) C dX10_flood_26 (by decide) ?_
      refine y_isub (pc := 27) C dX10_flood_27 ?_
      obtain ⟨y105, ey105, h⟩ := nmS h
      refine y_nmI y105 ey105 ?_
      refine y_istore_n (pc := 28) (lv' := [(2, .int y105), (0, .ref (ad x0)), (1, .int x1)]) C dX10_flood_28 rfl (by decide) rfl ?_
      refine y_sub [1, 2, 0] (lv' := [(0, .ref (ad x0)), (1, .int x1), (2, .int y105)]) rfl ?_
      exact tX10_flood_29 (fu := fu) C hx0 fu _ _ h
    · rw [if_neg c103] at h
      refine y_bipush (pc := 14) (v := (-102 : Int32)) C dX10_flood_14 (by decide) ?_
      cases h
      exact y_iret (pc := 16) C dX10_flood_16
  · rw [if_neg c102] at h
    refine y_bipush (pc := 7) (v := (-103 : Int32)) C dX10_flood_7 (by decide) ?_
    cases h
    exact y_iret (pc := 9) C dX10_flood_9
noncomputable def fX10_flood (fu : Nat) (x0 : Nat) (x1 : Int32) (σ : St) : Option (Int32 × St) := if xk x0 = 8 then fX10_flood_0 fu x0 x1 σ else none
theorem mX10_flood {l : Launch} {D : va_G} {cA : ClassId} {bs fu : Nat} {ad : Nat → Nat} {x0 : Nat} {x1 : Int32} {σ : St} {q : Int32 × St} (h : fX10_flood fu x0 x1 σ = some q) : Ct l D cA bs ad yX10_flood cX10_flood 6 (some .int) 1 23 [.ref (ad x0), .int x1] σ (some (.int q.1)) q.2 := by
  unfold fX10_flood at h
  by_cases hx0 : xk x0 = 8
  case neg => rw [if_neg hx0] at h; cases h
  rw [if_pos hx0] at h
  exact Ct.of (by decide) (Nat.le_of_ble_eq_true rfl) (fun p e s m args below meth c C => tX10_flood_0 (fu := fu) C hx0 h)
noncomputable def fX10_looksOf_40 (fu : Nat) (k4 : Int32 → Int32 → St → Option (Int32 × St)) (k14 : Int32 → Int32 → Int32 → Int32 → St → Option (Int32 × St)) (x0 : Nat) (x1 : Int32) (x2 : Int32) (x4 : Int32) (s0 : Int32) (s1 : Int32) (σ : St) : Option (Int32 × St) :=
  nm (s0 + s1) fun (y101 : Int32) =>
  nm (x4 + (1 : Int32)) fun (y102 : Int32) =>
  k14 x1 x2 y101 y102 σ
set_option maxHeartbeats 4000000 in
set_option maxRecDepth 100000 in
theorem tX10_looksOf_40 {l : Launch} {D : va_G} {cA : ClassId} {bs : Nat} {ad : Nat → Nat} {p : Program} {e : Env} {s : State} {m : MethodId} {args : Array Value} {below : List Frame} {meth : Method} {c : Code} {fu : Nat} (C : Cx D cA bs ad RX10 cX10_looksOf 5 (some .int) p s m args meth c) {k4 : Int32 → Int32 → St → Option (Int32 × St)} {k14 : Int32 → Int32 → Int32 → Int32 → St → Option (Int32 × St)} {x0 : Nat} {x1 : Int32} {x2 : Int32} {x4 : Int32} {s0 : Int32} {s1 : Int32} {q : Int32 × St} (hx0 : xk x0 = 8) (hk4 : ∀ (x1 : Int32) (x2 : Int32) (σ : St), k4 x1 x2 σ = some q → Y D cA bs ad p l e (rmY 0 0) s m args below meth c 5 0 0 (QM D cA bs ad below args s (some (.int q.1)) q.2) σ 4 [(0, .ref (ad x0)), (1, .int x1), (2, .int x2)] []) (hk14 : ∀ (x1 : Int32) (x2 : Int32) (x3 : Int32) (x4 : Int32) (σ : St), k14 x1 x2 x3 x4 σ = some q → Y D cA bs ad p l e (rmY 0 0) s m args below meth c 5 0 0 (QM D cA bs ad below args s (some (.int q.1)) q.2) σ 14 [(0, .ref (ad x0)), (1, .int x1), (2, .int x2), (3, .int x3), (4, .int x4)] []) {σ : St} (h : fX10_looksOf_40 fu k4 k14 x0 x1 x2 x4 s0 s1 σ = some q) : Y D cA bs ad p l e (rmY 0 0) s m args below meth c 5 0 0 (QM D cA bs ad below args s (some (.int q.1)) q.2) σ 40 [(0, .ref (ad x0)), (1, .int x1), (2, .int x2), (4, .int x4)] [.int s1, .int s0] := by
  unfold fX10_looksOf_40 at h
  refine y_iadd (pc := 40) C dX10_looksOf_40 ?_
  obtain ⟨y101, ey101, h⟩ := nmS h
  refine y_nmI y101 ey101 ?_
  refine y_istore_n (pc := 41) (lv' := [(3, .int y101), (0, .ref (ad x0)), (1, .int x1), (2, .int x2), (4, .int x4)]) C dX10_looksOf_41 rfl (by decide) rfl ?_
  obtain ⟨y102, ey102, h⟩ := nmS h
  refine y_iinc (pc := 42) (v := y102) (k := 4) (lv' := [(4, .int y102), (3, .int y101), (0, .ref (ad x0)), (1, .int x1), (2, .int x2)]) C dX10_looksOf_42 rfl (by rw [ey102]; rfl) (by decide) rfl ?_
  refine y_goto (pc := 45) (tgt := 14) C dX10_looksOf_45 (by decide) ?_
  refine y_sub [2, 3, 4, 1, 0] (lv' := [(0, .ref (ad x0)), (1, .int x1), (2, .int x2), (3, .int y101), (4, .int y102)]) rfl ?_
  exact hk14 _ _ _ _ _ h
noncomputable def fX10_looksOf_60 (fu : Nat) (k4 : Int32 → Int32 → St → Option (Int32 × St)) (x0 : Nat) (x2 : Int32) (s0 : Int32) (s1 : Int32) (σ : St) : Option (Int32 × St) :=
  nm (s0 + s1) fun (y101 : Int32) =>
  nm (x2 + (1 : Int32)) fun (y102 : Int32) =>
  k4 y101 y102 σ
set_option maxHeartbeats 4000000 in
set_option maxRecDepth 100000 in
theorem tX10_looksOf_60 {l : Launch} {D : va_G} {cA : ClassId} {bs : Nat} {ad : Nat → Nat} {p : Program} {e : Env} {s : State} {m : MethodId} {args : Array Value} {below : List Frame} {meth : Method} {c : Code} {fu : Nat} (C : Cx D cA bs ad RX10 cX10_looksOf 5 (some .int) p s m args meth c) {k4 : Int32 → Int32 → St → Option (Int32 × St)} {x0 : Nat} {x2 : Int32} {s0 : Int32} {s1 : Int32} {q : Int32 × St} (hx0 : xk x0 = 8) (hk4 : ∀ (x1 : Int32) (x2 : Int32) (σ : St), k4 x1 x2 σ = some q → Y D cA bs ad p l e (rmY 0 0) s m args below meth c 5 0 0 (QM D cA bs ad below args s (some (.int q.1)) q.2) σ 4 [(0, .ref (ad x0)), (1, .int x1), (2, .int x2)] []) {σ : St} (h : fX10_looksOf_60 fu k4 x0 x2 s0 s1 σ = some q) : Y D cA bs ad p l e (rmY 0 0) s m args below meth c 5 0 0 (QM D cA bs ad below args s (some (.int q.1)) q.2) σ 60 [(0, .ref (ad x0)), (2, .int x2)] [.int s1, .int s0] := by
  unfold fX10_looksOf_60 at h
  refine y_iadd (pc := 60) C dX10_looksOf_60 ?_
  obtain ⟨y101, ey101, h⟩ := nmS h
  refine y_nmI y101 ey101 ?_
  refine y_istore_n (pc := 61) (lv' := [(1, .int y101), (0, .ref (ad x0)), (2, .int x2)]) C dX10_looksOf_61 rfl (by decide) rfl ?_
  obtain ⟨y102, ey102, h⟩ := nmS h
  refine y_iinc (pc := 62) (v := y102) (k := 2) (lv' := [(2, .int y102), (1, .int y101), (0, .ref (ad x0))]) C dX10_looksOf_62 rfl (by rw [ey102]; rfl) (by decide) rfl ?_
  refine y_goto (pc := 65) (tgt := 4) C dX10_looksOf_65 (by decide) ?_
  refine y_sub [2, 1, 0] (lv' := [(0, .ref (ad x0)), (1, .int y101), (2, .int y102)]) rfl ?_
  exact hk4 _ _ _ h
noncomputable def fX10_looksOf_14b (fu : Nat) (k4 : Int32 → Int32 → St → Option (Int32 × St)) (k14 : Int32 → Int32 → Int32 → Int32 → St → Option (Int32 × St)) (x0 : Nat) (x1 : Int32) (x2 : Int32) (x3 : Int32) (x4 : Int32) (σ : St) : Option (Int32 × St) :=
  if (σ.1 x0 12) ≤ x4 then
    if x3 ≤ 0 then
      fX10_looksOf_60 fu k4 x0 x2 x1 (0 : Int32) σ
    else
      fX10_looksOf_60 fu k4 x0 x2 x1 (x3 - (1 : Int32)) σ
  else
    (ald σ (rf x0 13) 7 x4).bind fun (v103 : Int32) =>
    if v103 = x2 then
      fX10_looksOf_40 fu k4 k14 x0 x1 x2 x4 x3 (1 : Int32) σ
    else
      fX10_looksOf_40 fu k4 k14 x0 x1 x2 x4 x3 (0 : Int32) σ
set_option maxHeartbeats 4000000 in
set_option maxRecDepth 100000 in
theorem tX10_looksOf_14b {l : Launch} {D : va_G} {cA : ClassId} {bs : Nat} {ad : Nat → Nat} {p : Program} {e : Env} {s : State} {m : MethodId} {args : Array Value} {below : List Frame} {meth : Method} {c : Code} {fu : Nat} (C : Cx D cA bs ad RX10 cX10_looksOf 5 (some .int) p s m args meth c) {k4 : Int32 → Int32 → St → Option (Int32 × St)} {k14 : Int32 → Int32 → Int32 → Int32 → St → Option (Int32 × St)} {x0 : Nat} {x1 : Int32} {x2 : Int32} {x3 : Int32} {x4 : Int32} {q : Int32 × St} (hx0 : xk x0 = 8) (hk4 : ∀ (x1 : Int32) (x2 : Int32) (σ : St), k4 x1 x2 σ = some q → Y D cA bs ad p l e (rmY 0 0) s m args below meth c 5 0 0 (QM D cA bs ad below args s (some (.int q.1)) q.2) σ 4 [(0, .ref (ad x0)), (1, .int x1), (2, .int x2)] []) (hk14 : ∀ (x1 : Int32) (x2 : Int32) (x3 : Int32) (x4 : Int32) (σ : St), k14 x1 x2 x3 x4 σ = some q → Y D cA bs ad p l e (rmY 0 0) s m args below meth c 5 0 0 (QM D cA bs ad below args s (some (.int q.1)) q.2) σ 14 [(0, .ref (ad x0)), (1, .int x1), (2, .int x2), (3, .int x3), (4, .int x4)] []) {σ : St} (h : fX10_looksOf_14b fu k4 k14 x0 x1 x2 x3 x4 σ = some q) : Y D cA bs ad p l e (rmY 0 0) s m args below meth c 5 0 0 (QM D cA bs ad below args s (some (.int q.1)) q.2) σ 14 [(0, .ref (ad x0)), (1, .int x1), (2, .int x2), (3, .int x3), (4, .int x4)] [] := by
  unfold fX10_looksOf_14b at h
  refine y_iload (pc := 14) (q := 4) C dX10_looksOf_14 rfl ?_
  refine y_aload_n (pc := 16) (q := 0) C dX10_looksOf_16 rfl rfl ?_
  refine y_geti (pc := 17) C faX10_105 rfl hx0 dX10_looksOf_17 ?_
  refine y_icmp_ge (pc := 20) (tgt := 48) C dX10_looksOf_20 (by decide) (fun c101 => ?_) (fun c101 => ?_)
  · rw [if_pos c101] at h
    refine y_iload_n (pc := 48) (q := 1) C dX10_looksOf_48 rfl rfl ?_
    refine y_iload_n (pc := 49) (q := 3) C dX10_looksOf_49 rfl rfl ?_
    refine y_if_le (pc := 50) (tgt := 59) C dX10_looksOf_50 (by decide) (fun c102 => ?_) (fun c102 => ?_)
    · rw [if_pos c102] at h
      refine y_iconst (pc := 59) (v := (0 : Int32)) C dX10_looksOf_59 (by decide) ?_
      refine y_sub [0, 2] (lv' := [(0, .ref (ad x0)), (2, .int x2)]) rfl ?_
      exact tX10_looksOf_60 (fu := fu) C hx0 hk4 h
    · rw [if_neg c102] at h
      refine y_iload_n (pc := 53) (q := 3) C dX10_looksOf_53 rfl rfl ?_
      refine y_iconst (pc := 54) (v := (1 : Int32)) C dX10_looksOf_54 (by decide) ?_
      refine y_isub (pc := 55) C dX10_looksOf_55 ?_
      refine y_goto (pc := 56) (tgt := 60) C dX10_looksOf_56 (by decide) ?_
      refine y_sub [0, 2] (lv' := [(0, .ref (ad x0)), (2, .int x2)]) rfl ?_
      exact tX10_looksOf_60 (fu := fu) C hx0 hk4 h
  · rw [if_neg c101] at h
    refine y_iload_n (pc := 23) (q := 3) C dX10_looksOf_23 rfl rfl ?_
    refine y_aload_n (pc := 24) (q := 0) C dX10_looksOf_24 rfl rfl ?_
    refine y_getr (pc := 25) C faX10_13 rfl hx0 dX10_looksOf_25 ?_
    refine y_iload (pc := 28) (q := 4) C dX10_looksOf_28 rfl ?_
    obtain ⟨v103, ev103, h⟩ := bdS h
    refine y_iald (pc := 30) (n := 7) C (rf_8_13 _ hx0) (by decide) ev103 dX10_looksOf_30 ?_
    refine y_iload_n (pc := 31) (q := 2) C dX10_looksOf_31 rfl rfl ?_
    refine y_icmp_ne (pc := 32) (tgt := 39) C dX10_looksOf_32 (by decide) (fun c104 => ?_) (fun c104 => ?_)
    · rw [if_neg c104] at h
      refine y_iconst (pc := 39) (v := (0 : Int32)) C dX10_looksOf_39 (by decide) ?_
      refine y_sub [0, 1, 2, 4] (lv' := [(0, .ref (ad x0)), (1, .int x1), (2, .int x2), (4, .int x4)]) rfl ?_
      exact tX10_looksOf_40 (fu := fu) C hx0 hk4 hk14 h
    · rw [if_pos c104] at h
      refine y_iconst (pc := 35) (v := (1 : Int32)) C dX10_looksOf_35 (by decide) ?_
      refine y_goto (pc := 36) (tgt := 40) C dX10_looksOf_36 (by decide) ?_
      refine y_sub [0, 1, 2, 4] (lv' := [(0, .ref (ad x0)), (1, .int x1), (2, .int x2), (4, .int x4)]) rfl ?_
      exact tX10_looksOf_40 (fu := fu) C hx0 hk4 hk14 h
noncomputable def fX10_looksOf_14 (fu : Nat) (k4 : Int32 → Int32 → St → Option (Int32 × St)) (x0 : Nat) : Nat → Int32 → Int32 → Int32 → Int32 → St → Option (Int32 × St) := lp (fun k14 => fX10_looksOf_14b fu k4 k14 x0) (fun _ _ _ _ _ => none)
set_option maxHeartbeats 4000000 in
theorem tX10_looksOf_14 {l : Launch} {D : va_G} {cA : ClassId} {bs : Nat} {ad : Nat → Nat} {p : Program} {e : Env} {s : State} {m : MethodId} {args : Array Value} {below : List Frame} {meth : Method} {c : Code} {fu : Nat} (C : Cx D cA bs ad RX10 cX10_looksOf 5 (some .int) p s m args meth c) {k4 : Int32 → Int32 → St → Option (Int32 × St)} {x0 : Nat} {q : Int32 × St} (hx0 : xk x0 = 8) (hk4 : ∀ (x1 : Int32) (x2 : Int32) (σ : St), k4 x1 x2 σ = some q → Y D cA bs ad p l e (rmY 0 0) s m args below meth c 5 0 0 (QM D cA bs ad below args s (some (.int q.1)) q.2) σ 4 [(0, .ref (ad x0)), (1, .int x1), (2, .int x2)] []) : ∀ (n : Nat) (x1 : Int32) (x2 : Int32) (x3 : Int32) (x4 : Int32) (σ : St), fX10_looksOf_14 fu k4 x0 n x1 x2 x3 x4 σ = some q → Y D cA bs ad p l e (rmY 0 0) s m args below meth c 5 0 0 (QM D cA bs ad below args s (some (.int q.1)) q.2) σ 14 [(0, .ref (ad x0)), (1, .int x1), (2, .int x2), (3, .int x3), (4, .int x4)] [] := by
  intro n
  induction n with
  | zero => intro x1 x2 x3 x4 σ h; cases h
  | succ n ih => intro x1 x2 x3 x4 σ h; exact tX10_looksOf_14b (fu := fu) C hx0 hk4 ih h
noncomputable def fX10_looksOf_4b (fu : Nat) (k4 : Int32 → Int32 → St → Option (Int32 × St)) (x0 : Nat) (x1 : Int32) (x2 : Int32) (σ : St) : Option (Int32 × St) :=
  if (5 : Int32) ≤ x2 then
    some (x1, σ)
  else
    fX10_looksOf_14 fu k4 x0 fu x1 x2 (0 : Int32) (0 : Int32) σ
set_option maxHeartbeats 4000000 in
set_option maxRecDepth 100000 in
theorem tX10_looksOf_4b {l : Launch} {D : va_G} {cA : ClassId} {bs : Nat} {ad : Nat → Nat} {p : Program} {e : Env} {s : State} {m : MethodId} {args : Array Value} {below : List Frame} {meth : Method} {c : Code} {fu : Nat} (C : Cx D cA bs ad RX10 cX10_looksOf 5 (some .int) p s m args meth c) {k4 : Int32 → Int32 → St → Option (Int32 × St)} {x0 : Nat} {x1 : Int32} {x2 : Int32} {q : Int32 × St} (hx0 : xk x0 = 8) (hk4 : ∀ (x1 : Int32) (x2 : Int32) (σ : St), k4 x1 x2 σ = some q → Y D cA bs ad p l e (rmY 0 0) s m args below meth c 5 0 0 (QM D cA bs ad below args s (some (.int q.1)) q.2) σ 4 [(0, .ref (ad x0)), (1, .int x1), (2, .int x2)] []) {σ : St} (h : fX10_looksOf_4b fu k4 x0 x1 x2 σ = some q) : Y D cA bs ad p l e (rmY 0 0) s m args below meth c 5 0 0 (QM D cA bs ad below args s (some (.int q.1)) q.2) σ 4 [(0, .ref (ad x0)), (1, .int x1), (2, .int x2)] [] := by
  unfold fX10_looksOf_4b at h
  refine y_iload_n (pc := 4) (q := 2) C dX10_looksOf_4 rfl rfl ?_
  refine y_iconst (pc := 5) (v := (5 : Int32)) C dX10_looksOf_5 (by decide) ?_
  refine y_icmp_ge (pc := 6) (tgt := 68) C dX10_looksOf_6 (by decide) (fun c101 => ?_) (fun c101 => ?_)
  · rw [if_pos c101] at h
    refine y_iload_n (pc := 68) (q := 1) C dX10_looksOf_68 rfl rfl ?_
    cases h
    exact y_iret (pc := 69) C dX10_looksOf_69
  · rw [if_neg c101] at h
    refine y_iconst (pc := 9) (v := (0 : Int32)) C dX10_looksOf_9 (by decide) ?_
    refine y_istore_n (pc := 10) (lv' := [(3, .int (0 : Int32)), (0, .ref (ad x0)), (1, .int x1), (2, .int x2)]) C dX10_looksOf_10 rfl (by decide) rfl ?_
    refine y_iconst (pc := 11) (v := (0 : Int32)) C dX10_looksOf_11 (by decide) ?_
    refine y_istore (pc := 12) (lv' := [(4, .int (0 : Int32)), (3, .int (0 : Int32)), (0, .ref (ad x0)), (1, .int x1), (2, .int x2)]) C dX10_looksOf_12 (by decide) rfl ?_
    refine y_sub [2, 3, 4, 1, 0] (lv' := [(0, .ref (ad x0)), (1, .int x1), (2, .int x2), (3, .int (0 : Int32)), (4, .int (0 : Int32))]) rfl ?_
    exact tX10_looksOf_14 (fu := fu) C hx0 hk4 fu _ _ _ _ _ h
noncomputable def fX10_looksOf_4 (fu : Nat) (x0 : Nat) : Nat → Int32 → Int32 → St → Option (Int32 × St) := lp (fun k4 => fX10_looksOf_4b fu k4 x0) (fun _ _ _ => none)
set_option maxHeartbeats 4000000 in
theorem tX10_looksOf_4 {l : Launch} {D : va_G} {cA : ClassId} {bs : Nat} {ad : Nat → Nat} {p : Program} {e : Env} {s : State} {m : MethodId} {args : Array Value} {below : List Frame} {meth : Method} {c : Code} {fu : Nat} (C : Cx D cA bs ad RX10 cX10_looksOf 5 (some .int) p s m args meth c) {x0 : Nat} {q : Int32 × St} (hx0 : xk x0 = 8)  : ∀ (n : Nat) (x1 : Int32) (x2 : Int32) (σ : St), fX10_looksOf_4 fu  x0 n x1 x2 σ = some q → Y D cA bs ad p l e (rmY 0 0) s m args below meth c 5 0 0 (QM D cA bs ad below args s (some (.int q.1)) q.2) σ 4 [(0, .ref (ad x0)), (1, .int x1), (2, .int x2)] [] := by
  intro n
  induction n with
  | zero => intro x1 x2 σ h; cases h
  | succ n ih => intro x1 x2 σ h; exact tX10_looksOf_4b (fu := fu) C hx0 ih h
noncomputable def fX10_looksOf_0 (fu : Nat) (x0 : Nat) (σ : St) : Option (Int32 × St) :=
  fX10_looksOf_4 fu x0 fu (0 : Int32) (0 : Int32) σ
set_option maxHeartbeats 4000000 in
set_option maxRecDepth 100000 in
theorem tX10_looksOf_0 {l : Launch} {D : va_G} {cA : ClassId} {bs : Nat} {ad : Nat → Nat} {p : Program} {e : Env} {s : State} {m : MethodId} {args : Array Value} {below : List Frame} {meth : Method} {c : Code} {fu : Nat} (C : Cx D cA bs ad RX10 cX10_looksOf 5 (some .int) p s m args meth c) {x0 : Nat} {q : Int32 × St} (hx0 : xk x0 = 8) {σ : St} (h : fX10_looksOf_0 fu x0 σ = some q) : Y D cA bs ad p l e (rmY 0 0) s m args below meth c 5 0 0 (QM D cA bs ad below args s (some (.int q.1)) q.2) σ 0 [(0, .ref (ad x0))] [] := by
  unfold fX10_looksOf_0 at h
  refine y_iconst (pc := 0) (v := (0 : Int32)) C dX10_looksOf_0 (by decide) ?_
  refine y_istore_n (pc := 1) (lv' := [(1, .int (0 : Int32)), (0, .ref (ad x0))]) C dX10_looksOf_1 rfl (by decide) rfl ?_
  refine y_iconst (pc := 2) (v := (0 : Int32)) C dX10_looksOf_2 (by decide) ?_
  refine y_istore_n (pc := 3) (lv' := [(2, .int (0 : Int32)), (1, .int (0 : Int32)), (0, .ref (ad x0))]) C dX10_looksOf_3 rfl (by decide) rfl ?_
  refine y_sub [2, 1, 0] (lv' := [(0, .ref (ad x0)), (1, .int (0 : Int32)), (2, .int (0 : Int32))]) rfl ?_
  exact tX10_looksOf_4 (fu := fu) C hx0 fu _ _ _ h
noncomputable def fX10_looksOf (fu : Nat) (x0 : Nat) (σ : St) : Option (Int32 × St) := if xk x0 = 8 then fX10_looksOf_0 fu x0 σ else none
theorem mX10_looksOf {l : Launch} {D : va_G} {cA : ClassId} {bs fu : Nat} {ad : Nat → Nat} {x0 : Nat} {σ : St} {q : Int32 × St} (h : fX10_looksOf fu x0 σ = some q) : Ct l D cA bs ad yX10_looksOf cX10_looksOf 5 (some .int) 0 0 [.ref (ad x0)] σ (some (.int q.1)) q.2 := by
  unfold fX10_looksOf at h
  by_cases hx0 : xk x0 = 8
  case neg => rw [if_neg hx0] at h; cases h
  rw [if_pos hx0] at h
  exact Ct.of (by decide) (Nat.le_of_ble_eq_true rfl) (fun p e s m args below meth c C => tX10_looksOf_0 (fu := fu) C hx0 h)
noncomputable def fX10_looks_16 (fu : Nat) (x0 : Nat) (s0 : Int32) (σ : St) : Option (Int32 × St) :=
  some (s0, σ)
set_option maxHeartbeats 4000000 in
set_option maxRecDepth 100000 in
theorem tX10_looks_16 {l : Launch} {D : va_G} {cA : ClassId} {bs : Nat} {ad : Nat → Nat} {p : Program} {e : Env} {s : State} {m : MethodId} {args : Array Value} {below : List Frame} {meth : Method} {c : Code} {fu : Nat} (C : Cx D cA bs ad RX10 cX10_looks 1 (some .int) p s m args meth c) {x0 : Nat} {s0 : Int32} {q : Int32 × St} (hx0 : xk x0 = 8) {σ : St} (h : fX10_looks_16 fu x0 s0 σ = some q) : Y D cA bs ad p l e (rmY 1 24) s m args below meth c 1 0 0 (QM D cA bs ad below args s (some (.int q.1)) q.2) σ 16 [(0, .ref (ad x0))] [.int s0] := by
  unfold fX10_looks_16 at h
  cases h
  exact y_iret (pc := 16) C dX10_looks_16
noncomputable def fX10_looks_0 (fu : Nat) (x0 : Nat) (σ : St) : Option (Int32 × St) :=
  (fX10_lacks fu x0 σ).bind fun (q101 : Int32 × St) =>
  if q101.1 = 0 then
    (fX10_looksOf fu x0 q101.2).bind fun (q103 : Int32 × St) =>
    fX10_looks_16 fu x0 q103.1 q103.2
  else
    fX10_looks_16 fu x0 (-103 : Int32) q101.2
set_option maxHeartbeats 4000000 in
set_option maxRecDepth 100000 in
theorem tX10_looks_0 {l : Launch} {D : va_G} {cA : ClassId} {bs : Nat} {ad : Nat → Nat} {p : Program} {e : Env} {s : State} {m : MethodId} {args : Array Value} {below : List Frame} {meth : Method} {c : Code} {fu : Nat} (C : Cx D cA bs ad RX10 cX10_looks 1 (some .int) p s m args meth c) {x0 : Nat} {q : Int32 × St} (hx0 : xk x0 = 8) {σ : St} (h : fX10_looks_0 fu x0 σ = some q) : Y D cA bs ad p l e (rmY 1 24) s m args below meth c 1 0 0 (QM D cA bs ad below args s (some (.int q.1)) q.2) σ 0 [(0, .ref (ad x0))] [] := by
  unfold fX10_looks_0 at h
  refine y_aload_n (pc := 0) (q := 0) C dX10_looks_0 rfl rfl ?_
  obtain ⟨q101, eq101, h⟩ := bdS h
  refine y_callV (pc := 1) (As := []) (rest := []) C (mX10_lacks (fu := fu) eq101) vwX10_137 rfl (by decide) hx0 rfl rfl (Nat.le_of_ble_eq_true rfl) ⟨Nat.le_of_ble_eq_true rfl, Nat.le_of_ble_eq_true rfl⟩ ⟨Nat.le_refl _, Nat.le_refl _⟩ dX10_looks_1 ?_
  show Y _ _ _ _ _ _ _ _ _ _ _ _ _ _ _ _ _ _ q101.2 4 [(0, .ref (ad x0))] [.int q101.1]
  refine y_if_eq (pc := 4) (tgt := 12) C dX10_looks_4 (by decide) (fun c102 => ?_) (fun c102 => ?_)
  · rw [if_pos c102] at h
    refine y_aload_n (pc := 12) (q := 0) C dX10_looks_12 rfl rfl ?_
    obtain ⟨q103, eq103, h⟩ := bdS h
    refine y_callV (pc := 13) (As := []) (rest := []) C (mX10_looksOf (fu := fu) eq103) vwX10_207 rfl (by decide) hx0 rfl rfl (Nat.le_of_ble_eq_true rfl) ⟨Nat.le_of_ble_eq_true rfl, Nat.le_of_ble_eq_true rfl⟩ ⟨Nat.le_refl _, Nat.le_refl _⟩ dX10_looks_13 ?_
    show Y _ _ _ _ _ _ _ _ _ _ _ _ _ _ _ _ _ _ q103.2 16 [(0, .ref (ad x0))] [.int q103.1]
    exact tX10_looks_16 (fu := fu) C hx0 h
  · rw [if_neg c102] at h
    refine y_bipush (pc := 7) (v := (-103 : Int32)) C dX10_looks_7 (by decide) ?_
    refine y_goto (pc := 9) (tgt := 16) C dX10_looks_9 (by decide) ?_
    exact tX10_looks_16 (fu := fu) C hx0 h
noncomputable def fX10_looks (fu : Nat) (x0 : Nat) (σ : St) : Option (Int32 × St) := if xk x0 = 8 then fX10_looks_0 fu x0 σ else none
theorem mX10_looks {l : Launch} {D : va_G} {cA : ClassId} {bs fu : Nat} {ad : Nat → Nat} {x0 : Nat} {σ : St} {q : Int32 × St} (h : fX10_looks fu x0 σ = some q) : Ct l D cA bs ad yX10_looks cX10_looks 1 (some .int) 1 24 [.ref (ad x0)] σ (some (.int q.1)) q.2 := by
  unfold fX10_looks at h
  by_cases hx0 : xk x0 = 8
  case neg => rw [if_neg hx0] at h; cases h
  rw [if_pos hx0] at h
  exact Ct.of (by decide) (Nat.le_of_ble_eq_true rfl) (fun p e s m args below meth c C => tX10_looks_0 (fu := fu) C hx0 h)
noncomputable def fX10_was_0 (fu : Nat) (x0 : Nat) (x1 : Int32) (x2 : Int32) (σ : St) : Option (Int32 × St) :=
  (fX10_isBlock fu x0 x1 σ).bind fun (q101 : Int32 × St) =>
  if q101.1 = 0 then
    some ((-101 : Int32), q101.2)
  else
    (fX10_in fu x2.toInt64 (-1 : Int64) (999 : Int64) q101.2).bind fun (q103 : Int32 × St) =>
    if q103.1 = 0 then
      some ((-102 : Int32), q103.2)
    else
      (ald q103.2 (rf x0 17) 7 x1).bind fun (v105 : Int32) =>
      (ast q103.2 (rf x0 17) 7 x1 x2).bind fun (σ106 : St) =>
      some (v105, σ106)
set_option maxHeartbeats 4000000 in
set_option maxRecDepth 100000 in
theorem tX10_was_0 {l : Launch} {D : va_G} {cA : ClassId} {bs : Nat} {ad : Nat → Nat} {p : Program} {e : Env} {s : State} {m : MethodId} {args : Array Value} {below : List Frame} {meth : Method} {c : Code} {fu : Nat} (C : Cx D cA bs ad RX10 cX10_was 4 (some .int) p s m args meth c) {x0 : Nat} {x1 : Int32} {x2 : Int32} {q : Int32 × St} (hx0 : xk x0 = 8) {σ : St} (h : fX10_was_0 fu x0 x1 x2 σ = some q) : Y D cA bs ad p l e (rmY 2 46) s m args below meth c 4 0 0 (QM D cA bs ad below args s (some (.int q.1)) q.2) σ 0 [(0, .ref (ad x0)), (1, .int x1), (2, .int x2)] [] := by
  unfold fX10_was_0 at h
  refine y_aload_n (pc := 0) (q := 0) C dX10_was_0 rfl rfl ?_
  refine y_iload_n (pc := 1) (q := 1) C dX10_was_1 rfl rfl ?_
  obtain ⟨q101, eq101, h⟩ := bdS h
  refine y_callV (pc := 2) (As := [.int x1]) (rest := []) C (mX10_isBlock (fu := fu) eq101) vwX10_112 rfl (by decide) hx0 rfl rfl (Nat.le_of_ble_eq_true rfl) ⟨Nat.le_of_ble_eq_true rfl, Nat.le_of_ble_eq_true rfl⟩ ⟨Nat.le_refl _, Nat.le_refl _⟩ dX10_was_2 ?_
  show Y _ _ _ _ _ _ _ _ _ _ _ _ _ _ _ _ _ _ q101.2 5 [(0, .ref (ad x0)), (1, .int x1), (2, .int x2)] [.int q101.1]
  refine y_if_ne (pc := 5) (tgt := 11) C dX10_was_5 (by decide) (fun c102 => ?_) (fun c102 => ?_)
  · rw [if_neg c102] at h
    refine y_iload_n (pc := 11) (q := 2) C dX10_was_11 rfl rfl ?_
    refine y_i2l (pc := 12) C dX10_was_12 ?_
    refine y_ldc2 (pc := 13) C dX10_was_13 cwX10_210 ?_
    refine y_ldc2 (pc := 16) C dX10_was_16 cwX10_110 ?_
    obtain ⟨q103, eq103, h⟩ := bdS h
    refine y_callS (pc := 19) (As := [.long x2.toInt64, .long (-1 : Int64), .long (999 : Int64)]) (rest := []) C (mX10_in (fu := fu) eq103) vwX10_68 rfl rfl (Nat.le_of_ble_eq_true rfl) ⟨Nat.le_of_ble_eq_true rfl, Nat.le_of_ble_eq_true rfl⟩ ⟨Nat.le_refl _, Nat.le_refl _⟩ dX10_was_19 ?_
    show Y _ _ _ _ _ _ _ _ _ _ _ _ _ _ _ _ _ _ q103.2 22 [(0, .ref (ad x0)), (1, .int x1), (2, .int x2)] [.int q103.1]
    refine y_if_ne (pc := 22) (tgt := 28) C dX10_was_22 (by decide) (fun c104 => ?_) (fun c104 => ?_)
    · rw [if_neg c104] at h
      refine y_aload_n (pc := 28) (q := 0) C dX10_was_28 rfl rfl ?_
      refine y_getr (pc := 29) C faX10_25 rfl hx0 dX10_was_29 ?_
      refine y_iload_n (pc := 32) (q := 1) C dX10_was_32 rfl rfl ?_
      obtain ⟨v105, ev105, h⟩ := bdS h
      refine y_iald (pc := 33) (n := 7) C (rf_8_17 _ hx0) (by decide) ev105 dX10_was_33 ?_
      refine y_istore_n (pc := 34) (lv' := [(3, .int v105), (0, .ref (ad x0)), (1, .int x1), (2, .int x2)]) C dX10_was_34 rfl (by decide) rfl ?_
      refine y_aload_n (pc := 35) (q := 1) C dX10_was_35 rfl rfl ?_
      refine y_getr (pc := 36) C faX10_25 rfl hx0 dX10_was_36 ?_
      refine y_iload_n (pc := 39) (q := 2) C dX10_was_39 rfl rfl ?_
      refine y_iload_n (pc := 40) (q := 3) C dX10_was_40 rfl rfl ?_
      obtain ⟨σ106, eσ106, h⟩ := bdS h
      refine y_iast (pc := 41) (n := 7) C (rf_8_17 _ hx0) (by decide) eσ106 dX10_was_41 ?_
      refine y_iload_n (pc := 42) (q := 0) C dX10_was_42 rfl rfl ?_
      cases h
      exact y_iret (pc := 43) C dX10_was_43
    · rw [if_pos c104] at h
      refine y_bipush (pc := 25) (v := (-102 : Int32)) C dX10_was_25 (by decide) ?_
      cases h
      exact y_iret (pc := 27) C dX10_was_27
  · rw [if_pos c102] at h
    refine y_bipush (pc := 8) (v := (-101 : Int32)) C dX10_was_8 (by decide) ?_
    cases h
    exact y_iret (pc := 10) C dX10_was_10
noncomputable def fX10_was (fu : Nat) (x0 : Nat) (x1 : Int32) (x2 : Int32) (σ : St) : Option (Int32 × St) := if xk x0 = 8 then fX10_was_0 fu x0 x1 x2 σ else none
theorem mX10_was {l : Launch} {D : va_G} {cA : ClassId} {bs fu : Nat} {ad : Nat → Nat} {x0 : Nat} {x1 : Int32} {x2 : Int32} {σ : St} {q : Int32 × St} (h : fX10_was fu x0 x1 x2 σ = some q) : Ct l D cA bs ad yX10_was cX10_was 4 (some .int) 2 46 [.ref (ad x0), .int x1, .int x2] σ (some (.int q.1)) q.2 := by
  unfold fX10_was at h
  by_cases hx0 : xk x0 = 8
  case neg => rw [if_neg hx0] at h; cases h
  rw [if_pos hx0] at h
  exact Ct.of (by decide) (Nat.le_of_ble_eq_true rfl) (fun p e s m args below meth c C => tX10_was_0 (fu := fu) C hx0 h)
noncomputable def fX10_isLast_68 (fu : Nat) (k4 : Int32 → Int32 → St → Option (Int32 × St)) (x0 : Nat) (x2 : Int32) (s0 : Int32) (σ : St) : Option (Int32 × St) :=
  nm (x2 + (1 : Int32)) fun (y101 : Int32) =>
  k4 s0 y101 σ
set_option maxHeartbeats 4000000 in
set_option maxRecDepth 100000 in
theorem tX10_isLast_68 {l : Launch} {D : va_G} {cA : ClassId} {bs : Nat} {ad : Nat → Nat} {p : Program} {e : Env} {s : State} {m : MethodId} {args : Array Value} {below : List Frame} {meth : Method} {c : Code} {fu : Nat} (C : Cx D cA bs ad RX10 cX10_isLast 4 (some .boolean) p s m args meth c) {k4 : Int32 → Int32 → St → Option (Int32 × St)} {x0 : Nat} {x2 : Int32} {s0 : Int32} {q : Int32 × St} (hx0 : xk x0 = 8) (hk4 : ∀ (x1 : Int32) (x2 : Int32) (σ : St), k4 x1 x2 σ = some q → Y D cA bs ad p l e (rmY 1 23) s m args below meth c 4 0 0 (QM D cA bs ad below args s (some (.int q.1)) q.2) σ 4 [(0, .ref (ad x0)), (1, .int x1), (2, .int x2)] []) {σ : St} (h : fX10_isLast_68 fu k4 x0 x2 s0 σ = some q) : Y D cA bs ad p l e (rmY 1 23) s m args below meth c 4 0 0 (QM D cA bs ad below args s (some (.int q.1)) q.2) σ 68 [(0, .ref (ad x0)), (2, .int x2)] [.int s0] := by
  unfold fX10_isLast_68 at h
  refine y_istore_n (pc := 68) (lv' := [(1, .int s0), (0, .ref (ad x0)), (2, .int x2)]) C dX10_isLast_68 rfl (by decide) rfl ?_
  obtain ⟨y101, ey101, h⟩ := nmS h
  refine y_iinc (pc := 69) (v := y101) (k := 2) (lv' := [(2, .int y101), (1, .int s0), (0, .ref (ad x0))]) C dX10_isLast_69 rfl (by rw [ey101]; rfl) (by decide) rfl ?_
  refine y_goto (pc := 72) (tgt := 4) C dX10_isLast_72 (by decide) ?_
  refine y_sub [2, 1, 0] (lv' := [(0, .ref (ad x0)), (1, .int s0), (2, .int y101)]) rfl ?_
  exact hk4 _ _ _ h
noncomputable def fX10_isLast_63 (fu : Nat) (k4 : Int32 → Int32 → St → Option (Int32 × St)) (x0 : Nat) (x2 : Int32) (σ : St) : Option (Int32 × St) :=
  fX10_isLast_68 fu k4 x0 x2 (1 : Int32) σ
set_option maxHeartbeats 4000000 in
set_option maxRecDepth 100000 in
theorem tX10_isLast_63 {l : Launch} {D : va_G} {cA : ClassId} {bs : Nat} {ad : Nat → Nat} {p : Program} {e : Env} {s : State} {m : MethodId} {args : Array Value} {below : List Frame} {meth : Method} {c : Code} {fu : Nat} (C : Cx D cA bs ad RX10 cX10_isLast 4 (some .boolean) p s m args meth c) {k4 : Int32 → Int32 → St → Option (Int32 × St)} {x0 : Nat} {x2 : Int32} {q : Int32 × St} (hx0 : xk x0 = 8) (hk4 : ∀ (x1 : Int32) (x2 : Int32) (σ : St), k4 x1 x2 σ = some q → Y D cA bs ad p l e (rmY 1 23) s m args below meth c 4 0 0 (QM D cA bs ad below args s (some (.int q.1)) q.2) σ 4 [(0, .ref (ad x0)), (1, .int x1), (2, .int x2)] []) {σ : St} (h : fX10_isLast_63 fu k4 x0 x2 σ = some q) : Y D cA bs ad p l e (rmY 1 23) s m args below meth c 4 0 0 (QM D cA bs ad below args s (some (.int q.1)) q.2) σ 63 [(0, .ref (ad x0)), (2, .int x2)] [] := by
  unfold fX10_isLast_63 at h
  refine y_iconst (pc := 63) (v := (1 : Int32)) C dX10_isLast_63 (by decide) ?_
  refine y_goto (pc := 64) (tgt := 68) C dX10_isLast_64 (by decide) ?_
  exact tX10_isLast_68 (fu := fu) C hx0 hk4 h
noncomputable def fX10_isLast_67 (fu : Nat) (k4 : Int32 → Int32 → St → Option (Int32 × St)) (x0 : Nat) (x2 : Int32) (σ : St) : Option (Int32 × St) :=
  fX10_isLast_68 fu k4 x0 x2 (0 : Int32) σ
set_option maxHeartbeats 4000000 in
set_option maxRecDepth 100000 in
theorem tX10_isLast_67 {l : Launch} {D : va_G} {cA : ClassId} {bs : Nat} {ad : Nat → Nat} {p : Program} {e : Env} {s : State} {m : MethodId} {args : Array Value} {below : List Frame} {meth : Method} {c : Code} {fu : Nat} (C : Cx D cA bs ad RX10 cX10_isLast 4 (some .boolean) p s m args meth c) {k4 : Int32 → Int32 → St → Option (Int32 × St)} {x0 : Nat} {x2 : Int32} {q : Int32 × St} (hx0 : xk x0 = 8) (hk4 : ∀ (x1 : Int32) (x2 : Int32) (σ : St), k4 x1 x2 σ = some q → Y D cA bs ad p l e (rmY 1 23) s m args below meth c 4 0 0 (QM D cA bs ad below args s (some (.int q.1)) q.2) σ 4 [(0, .ref (ad x0)), (1, .int x1), (2, .int x2)] []) {σ : St} (h : fX10_isLast_67 fu k4 x0 x2 σ = some q) : Y D cA bs ad p l e (rmY 1 23) s m args below meth c 4 0 0 (QM D cA bs ad below args s (some (.int q.1)) q.2) σ 67 [(0, .ref (ad x0)), (2, .int x2)] [] := by
  unfold fX10_isLast_67 at h
  refine y_iconst (pc := 67) (v := (0 : Int32)) C dX10_isLast_67 (by decide) ?_
  exact tX10_isLast_68 (fu := fu) C hx0 hk4 h
noncomputable def fX10_isLast_4b (fu : Nat) (k4 : Int32 → Int32 → St → Option (Int32 × St)) (x0 : Nat) (x1 : Int32) (x2 : Int32) (σ : St) : Option (Int32 × St) :=
  if (σ.1 x0 12) ≤ x2 then
    if x1 = 0 ∨ x1 = 1 then some (x1, σ) else none
  else
    (ald σ (rf x0 19) 7 x2).bind fun (v103 : Int32) =>
    if x1 = 0 then
      fX10_isLast_67 fu k4 x0 x2 σ
    else
      (ald σ (rf x0 17) 7 v103).bind fun (v105 : Int32) =>
      if v105 = (-1 : Int32) then
        fX10_isLast_63 fu k4 x0 x2 σ
      else
        (ald σ (rf x0 13) 7 v103).bind fun (v107 : Int32) =>
        (ald σ (rf x0 17) 7 v103).bind fun (v108 : Int32) =>
        (ald σ (rf x0 18) 7 x2).bind fun (v109 : Int32) =>
        (fX10_worn fu v107 v108 v109 σ).bind fun (q110 : Int32 × St) =>
        (ald q110.2 (rf x0 14) 7 v103).bind fun (v111 : Int32) =>
        if q110.1 = v111 then
          fX10_isLast_63 fu k4 x0 x2 q110.2
        else
          fX10_isLast_67 fu k4 x0 x2 q110.2
set_option maxHeartbeats 4000000 in
set_option maxRecDepth 100000 in
theorem tX10_isLast_4b {l : Launch} {D : va_G} {cA : ClassId} {bs : Nat} {ad : Nat → Nat} {p : Program} {e : Env} {s : State} {m : MethodId} {args : Array Value} {below : List Frame} {meth : Method} {c : Code} {fu : Nat} (C : Cx D cA bs ad RX10 cX10_isLast 4 (some .boolean) p s m args meth c) {k4 : Int32 → Int32 → St → Option (Int32 × St)} {x0 : Nat} {x1 : Int32} {x2 : Int32} {q : Int32 × St} (hx0 : xk x0 = 8) (hk4 : ∀ (x1 : Int32) (x2 : Int32) (σ : St), k4 x1 x2 σ = some q → Y D cA bs ad p l e (rmY 1 23) s m args below meth c 4 0 0 (QM D cA bs ad below args s (some (.int q.1)) q.2) σ 4 [(0, .ref (ad x0)), (1, .int x1), (2, .int x2)] []) {σ : St} (h : fX10_isLast_4b fu k4 x0 x1 x2 σ = some q) : Y D cA bs ad p l e (rmY 1 23) s m args below meth c 4 0 0 (QM D cA bs ad below args s (some (.int q.1)) q.2) σ 4 [(0, .ref (ad x0)), (1, .int x1), (2, .int x2)] [] := by
  unfold fX10_isLast_4b at h
  refine y_iload_n (pc := 4) (q := 2) C dX10_isLast_4 rfl rfl ?_
  refine y_aload_n (pc := 5) (q := 0) C dX10_isLast_5 rfl rfl ?_
  refine y_geti (pc := 6) C faX10_105 rfl hx0 dX10_isLast_6 ?_
  refine y_icmp_ge (pc := 9) (tgt := 75) C dX10_isLast_9 (by decide) (fun c101 => ?_) (fun c101 => ?_)
  · rw [if_pos c101] at h
    refine y_iload_n (pc := 75) (q := 1) C dX10_isLast_75 rfl rfl ?_
    by_cases c102 : x1 = 0 ∨ x1 = 1
    case neg => rw [if_neg c102] at h; cases h
    rw [if_pos c102] at h
    cases h
    exact y_zret (pc := 76) C c102 dX10_isLast_76
  · rw [if_neg c101] at h
    refine y_aload_n (pc := 12) (q := 0) C dX10_isLast_12 rfl rfl ?_
    refine y_getr (pc := 13) C faX10_31 rfl hx0 dX10_isLast_13 ?_
    refine y_iload_n (pc := 16) (q := 2) C dX10_isLast_16 rfl rfl ?_
    obtain ⟨v103, ev103, h⟩ := bdS h
    refine y_iald (pc := 17) (n := 7) C (rf_8_19 _ hx0) (by decide) ev103 dX10_isLast_17 ?_
    refine y_istore_n (pc := 18) (lv' := [(3, .int v103), (0, .ref (ad x0)), (1, .int x1), (2, .int x2)]) C dX10_isLast_18 rfl (by decide) rfl ?_
    refine y_iload_n (pc := 19) (q := 2) C dX10_isLast_19 rfl rfl ?_
    refine y_if_eq (pc := 20) (tgt := 67) C dX10_isLast_20 (by decide) (fun c104 => ?_) (fun c104 => ?_)
    · rw [if_pos c104] at h
      refine y_sub [1, 3] (lv' := [(0, .ref (ad x0)), (2, .int x2)]) rfl ?_
      exact tX10_isLast_67 (fu := fu) C hx0 hk4 h
    · rw [if_neg c104] at h
      refine y_aload_n (pc := 23) (q := 1) C dX10_isLast_23 rfl rfl ?_
      refine y_getr (pc := 24) C faX10_25 rfl hx0 dX10_isLast_24 ?_
      refine y_iload_n (pc := 27) (q := 0) C dX10_isLast_27 rfl rfl ?_
      obtain ⟨v105, ev105, h⟩ := bdS h
      refine y_iald (pc := 28) (n := 7) C (rf_8_17 _ hx0) (by decide) ev105 dX10_isLast_28 ?_
      refine y_iconst (pc := 29) (v := (-1 : Int32)) C dX10_isLast_29 (by decide) ?_
      refine y_icmp_eq (pc := 30) (tgt := 63) C dX10_isLast_30 (by decide) (fun c106 => ?_) (fun c106 => ?_)
      · rw [if_pos c106] at h
        refine y_sub [1, 3] (lv' := [(0, .ref (ad x0)), (2, .int x2)]) rfl ?_
        exact tX10_isLast_63 (fu := fu) C hx0 hk4 h
      · rw [if_neg c106] at h
        refine y_aload_n (pc := 33) (q := 1) C dX10_isLast_33 rfl rfl ?_
        refine y_getr (pc := 34) C faX10_13 rfl hx0 dX10_isLast_34 ?_
        refine y_iload_n (pc := 37) (q := 0) C dX10_isLast_37 rfl rfl ?_
        obtain ⟨v107, ev107, h⟩ := bdS h
        refine y_iald (pc := 38) (n := 7) C (rf_8_13 _ hx0) (by decide) ev107 dX10_isLast_38 ?_
        refine y_aload_n (pc := 39) (q := 1) C dX10_isLast_39 rfl rfl ?_
        refine y_getr (pc := 40) C faX10_25 rfl hx0 dX10_isLast_40 ?_
        refine y_iload_n (pc := 43) (q := 0) C dX10_isLast_43 rfl rfl ?_
        obtain ⟨v108, ev108, h⟩ := bdS h
        refine y_iald (pc := 44) (n := 7) C (rf_8_17 _ hx0) (by decide) ev108 dX10_isLast_44 ?_
        refine y_aload_n (pc := 45) (q := 1) C dX10_isLast_45 rfl rfl ?_
        refine y_getr (pc := 46) C faX10_28 rfl hx0 dX10_isLast_46 ?_
        refine y_iload_n (pc := 49) (q := 3) C dX10_isLast_49 rfl rfl ?_
        obtain ⟨v109, ev109, h⟩ := bdS h
        refine y_iald (pc := 50) (n := 7) C (rf_8_18 _ hx0) (by decide) ev109 dX10_isLast_50 ?_
        obtain ⟨q110, eq110, h⟩ := bdS h
        refine y_callS (pc := 51) (As := [.int v107, .int v108, .int v109]) (rest := []) C (mX10_worn (fu := fu) eq110) vwX10_133 rfl rfl (Nat.le_of_ble_eq_true rfl) ⟨Nat.le_of_ble_eq_true rfl, Nat.le_of_ble_eq_true rfl⟩ ⟨Nat.le_refl _, Nat.le_refl _⟩ dX10_isLast_51 ?_
        show Y _ _ _ _ _ _ _ _ _ _ _ _ _ _ _ _ _ _ q110.2 54 [(3, .int v103), (0, .ref (ad x0)), (1, .int x1), (2, .int x2)] [.int q110.1]
        refine y_aload_n (pc := 54) (q := 1) C dX10_isLast_54 rfl rfl ?_
        refine y_getr (pc := 55) C faX10_16 rfl hx0 dX10_isLast_55 ?_
        refine y_iload_n (pc := 58) (q := 0) C dX10_isLast_58 rfl rfl ?_
        obtain ⟨v111, ev111, h⟩ := bdS h
        refine y_iald (pc := 59) (n := 7) C (rf_8_14 _ hx0) (by decide) ev111 dX10_isLast_59 ?_
        refine y_icmp_ne (pc := 60) (tgt := 67) C dX10_isLast_60 (by decide) (fun c112 => ?_) (fun c112 => ?_)
        · rw [if_neg c112] at h
          refine y_sub [1, 3] (lv' := [(0, .ref (ad x0)), (2, .int x2)]) rfl ?_
          exact tX10_isLast_67 (fu := fu) C hx0 hk4 h
        · rw [if_pos c112] at h
          refine y_sub [1, 3] (lv' := [(0, .ref (ad x0)), (2, .int x2)]) rfl ?_
          exact tX10_isLast_63 (fu := fu) C hx0 hk4 h
noncomputable def fX10_isLast_4 (fu : Nat) (x0 : Nat) : Nat → Int32 → Int32 → St → Option (Int32 × St) := lp (fun k4 => fX10_isLast_4b fu k4 x0) (fun _ _ _ => none)
set_option maxHeartbeats 4000000 in
theorem tX10_isLast_4 {l : Launch} {D : va_G} {cA : ClassId} {bs : Nat} {ad : Nat → Nat} {p : Program} {e : Env} {s : State} {m : MethodId} {args : Array Value} {below : List Frame} {meth : Method} {c : Code} {fu : Nat} (C : Cx D cA bs ad RX10 cX10_isLast 4 (some .boolean) p s m args meth c) {x0 : Nat} {q : Int32 × St} (hx0 : xk x0 = 8)  : ∀ (n : Nat) (x1 : Int32) (x2 : Int32) (σ : St), fX10_isLast_4 fu  x0 n x1 x2 σ = some q → Y D cA bs ad p l e (rmY 1 23) s m args below meth c 4 0 0 (QM D cA bs ad below args s (some (.int q.1)) q.2) σ 4 [(0, .ref (ad x0)), (1, .int x1), (2, .int x2)] [] := by
  intro n
  induction n with
  | zero => intro x1 x2 σ h; cases h
  | succ n ih => intro x1 x2 σ h; exact tX10_isLast_4b (fu := fu) C hx0 ih h
noncomputable def fX10_isLast_0 (fu : Nat) (x0 : Nat) (σ : St) : Option (Int32 × St) :=
  fX10_isLast_4 fu x0 fu (1 : Int32) (0 : Int32) σ
set_option maxHeartbeats 4000000 in
set_option maxRecDepth 100000 in
theorem tX10_isLast_0 {l : Launch} {D : va_G} {cA : ClassId} {bs : Nat} {ad : Nat → Nat} {p : Program} {e : Env} {s : State} {m : MethodId} {args : Array Value} {below : List Frame} {meth : Method} {c : Code} {fu : Nat} (C : Cx D cA bs ad RX10 cX10_isLast 4 (some .boolean) p s m args meth c) {x0 : Nat} {q : Int32 × St} (hx0 : xk x0 = 8) {σ : St} (h : fX10_isLast_0 fu x0 σ = some q) : Y D cA bs ad p l e (rmY 1 23) s m args below meth c 4 0 0 (QM D cA bs ad below args s (some (.int q.1)) q.2) σ 0 [(0, .ref (ad x0))] [] := by
  unfold fX10_isLast_0 at h
  refine y_iconst (pc := 0) (v := (1 : Int32)) C dX10_isLast_0 (by decide) ?_
  refine y_istore_n (pc := 1) (lv' := [(1, .int (1 : Int32)), (0, .ref (ad x0))]) C dX10_isLast_1 rfl (by decide) rfl ?_
  refine y_iconst (pc := 2) (v := (0 : Int32)) C dX10_isLast_2 (by decide) ?_
  refine y_istore_n (pc := 3) (lv' := [(2, .int (0 : Int32)), (1, .int (1 : Int32)), (0, .ref (ad x0))]) C dX10_isLast_3 rfl (by decide) rfl ?_
  refine y_sub [2, 1, 0] (lv' := [(0, .ref (ad x0)), (1, .int (1 : Int32)), (2, .int (0 : Int32))]) rfl ?_
  exact tX10_isLast_4 (fu := fu) C hx0 fu _ _ _ h
noncomputable def fX10_isLast (fu : Nat) (x0 : Nat) (σ : St) : Option (Int32 × St) := if xk x0 = 8 then fX10_isLast_0 fu x0 σ else none
theorem mX10_isLast {l : Launch} {D : va_G} {cA : ClassId} {bs fu : Nat} {ad : Nat → Nat} {x0 : Nat} {σ : St} {q : Int32 × St} (h : fX10_isLast fu x0 σ = some q) : Ct l D cA bs ad yX10_isLast cX10_isLast 4 (some .boolean) 1 23 [.ref (ad x0)] σ (some (.int q.1)) q.2 := by
  unfold fX10_isLast at h
  by_cases hx0 : xk x0 = 8
  case neg => rw [if_neg hx0] at h; cases h
  rw [if_pos hx0] at h
  exact Ct.of (by decide) (Nat.le_of_ble_eq_true rfl) (fun p e s m args below meth c C => tX10_isLast_0 (fu := fu) C hx0 h)
noncomputable def fX10_last_84 (fu : Nat) (k56 : Int32 → Int32 → Int32 → St → Option (Int32 × St)) (x0 : Nat) (x1 : Int32) (x2 : Int32) (x3 : Int32) (σ : St) : Option (Int32 × St) :=
  (fX10_nextOrder fu x0 σ).bind fun (q101 : Int32 × St) =>
  k56 x2 x3 q101.1 q101.2
set_option maxHeartbeats 4000000 in
set_option maxRecDepth 100000 in
theorem tX10_last_84 {l : Launch} {D : va_G} {cA : ClassId} {bs : Nat} {ad : Nat → Nat} {p : Program} {e : Env} {s : State} {m : MethodId} {args : Array Value} {below : List Frame} {meth : Method} {c : Code} {fu : Nat} (C : Cx D cA bs ad RX10 cX10_last 5 (some .int) p s m args meth c) {k56 : Int32 → Int32 → Int32 → St → Option (Int32 × St)} {x0 : Nat} {x1 : Int32} {x2 : Int32} {x3 : Int32} {q : Int32 × St} (hx0 : xk x0 = 8) (hk56 : ∀ (x2 : Int32) (x3 : Int32) (x4 : Int32) (σ : St), k56 x2 x3 x4 σ = some q → Y D cA bs ad p l e (rmY 2 46) s m args below meth c 5 0 0 (QM D cA bs ad below args s (some (.int q.1)) q.2) σ 56 [(0, .ref (ad x0)), (1, .int x1), (2, .int x2), (3, .int x3), (4, .int x4)] []) {σ : St} (h : fX10_last_84 fu k56 x0 x1 x2 x3 σ = some q) : Y D cA bs ad p l e (rmY 2 46) s m args below meth c 5 0 0 (QM D cA bs ad below args s (some (.int q.1)) q.2) σ 84 [(0, .ref (ad x0)), (1, .int x1), (2, .int x2), (3, .int x3)] [] := by
  unfold fX10_last_84 at h
  refine y_aload_n (pc := 84) (q := 0) C dX10_last_84 rfl rfl ?_
  obtain ⟨q101, eq101, h⟩ := bdS h
  refine y_callV (pc := 85) (As := []) (rest := []) C (mX10_nextOrder (fu := fu) eq101) vwX10_179 rfl (by decide) hx0 rfl rfl (Nat.le_of_ble_eq_true rfl) ⟨Nat.le_of_ble_eq_true rfl, Nat.le_of_ble_eq_true rfl⟩ ⟨Nat.le_refl _, Nat.le_refl _⟩ dX10_last_85 ?_
  show Y _ _ _ _ _ _ _ _ _ _ _ _ _ _ _ _ _ _ q101.2 88 [(0, .ref (ad x0)), (1, .int x1), (2, .int x2), (3, .int x3)] [.int q101.1]
  refine y_istore (pc := 88) (lv' := [(4, .int q101.1), (0, .ref (ad x0)), (1, .int x1), (2, .int x2), (3, .int x3)]) C dX10_last_88 (by decide) rfl ?_
  refine y_goto (pc := 90) (tgt := 56) C dX10_last_90 (by decide) ?_
  refine y_sub [1, 2, 3, 4, 0] (lv' := [(0, .ref (ad x0)), (1, .int x1), (2, .int x2), (3, .int x3), (4, .int q101.1)]) rfl ?_
  exact hk56 _ _ _ _ h
noncomputable def fX10_last_80 (fu : Nat) (k56 : Int32 → Int32 → Int32 → St → Option (Int32 × St)) (x0 : Nat) (x1 : Int32) (x2 : Int32) (s0 : Int32) (σ : St) : Option (Int32 × St) :=
  nm (x2 + (1 : Int32)) fun (y101 : Int32) =>
  fX10_last_84 fu k56 x0 x1 y101 s0 σ
set_option maxHeartbeats 4000000 in
set_option maxRecDepth 100000 in
theorem tX10_last_80 {l : Launch} {D : va_G} {cA : ClassId} {bs : Nat} {ad : Nat → Nat} {p : Program} {e : Env} {s : State} {m : MethodId} {args : Array Value} {below : List Frame} {meth : Method} {c : Code} {fu : Nat} (C : Cx D cA bs ad RX10 cX10_last 5 (some .int) p s m args meth c) {k56 : Int32 → Int32 → Int32 → St → Option (Int32 × St)} {x0 : Nat} {x1 : Int32} {x2 : Int32} {s0 : Int32} {q : Int32 × St} (hx0 : xk x0 = 8) (hk56 : ∀ (x2 : Int32) (x3 : Int32) (x4 : Int32) (σ : St), k56 x2 x3 x4 σ = some q → Y D cA bs ad p l e (rmY 2 46) s m args below meth c 5 0 0 (QM D cA bs ad below args s (some (.int q.1)) q.2) σ 56 [(0, .ref (ad x0)), (1, .int x1), (2, .int x2), (3, .int x3), (4, .int x4)] []) {σ : St} (h : fX10_last_80 fu k56 x0 x1 x2 s0 σ = some q) : Y D cA bs ad p l e (rmY 2 46) s m args below meth c 5 0 0 (QM D cA bs ad below args s (some (.int q.1)) q.2) σ 80 [(0, .ref (ad x0)), (1, .int x1), (2, .int x2)] [.int s0] := by
  unfold fX10_last_80 at h
  refine y_istore_n (pc := 80) (lv' := [(3, .int s0), (0, .ref (ad x0)), (1, .int x1), (2, .int x2)]) C dX10_last_80 rfl (by decide) rfl ?_
  obtain ⟨y101, ey101, h⟩ := nmS h
  refine y_iinc (pc := 81) (v := y101) (k := 3) (lv' := [(2, .int y101), (3, .int s0), (0, .ref (ad x0)), (1, .int x1)]) C dX10_last_81 rfl (by rw [ey101]; rfl) (by decide) rfl ?_
  refine y_sub [2, 3, 0, 1] (lv' := [(0, .ref (ad x0)), (1, .int x1), (2, .int y101), (3, .int s0)]) rfl ?_
  exact tX10_last_84 (fu := fu) C hx0 hk56 h
noncomputable def fX10_last_102 (fu : Nat) (x0 : Nat) (x1 : Int32) (s0 : Int32) (σ : St) : Option (Int32 × St) :=
  some (s0, σ)
set_option maxHeartbeats 4000000 in
set_option maxRecDepth 100000 in
theorem tX10_last_102 {l : Launch} {D : va_G} {cA : ClassId} {bs : Nat} {ad : Nat → Nat} {p : Program} {e : Env} {s : State} {m : MethodId} {args : Array Value} {below : List Frame} {meth : Method} {c : Code} {fu : Nat} (C : Cx D cA bs ad RX10 cX10_last 5 (some .int) p s m args meth c) {x0 : Nat} {x1 : Int32} {s0 : Int32} {q : Int32 × St} (hx0 : xk x0 = 8) {σ : St} (h : fX10_last_102 fu x0 x1 s0 σ = some q) : Y D cA bs ad p l e (rmY 2 46) s m args below meth c 5 0 0 (QM D cA bs ad below args s (some (.int q.1)) q.2) σ 102 [(0, .ref (ad x0)), (1, .int x1)] [.int s0] := by
  unfold fX10_last_102 at h
  cases h
  exact y_iret (pc := 102) C dX10_last_102
noncomputable def fX10_last_56b (fu : Nat) (k56 : Int32 → Int32 → Int32 → St → Option (Int32 × St)) (x0 : Nat) (x1 : Int32) (x2 : Int32) (x3 : Int32) (x4 : Int32) (σ : St) : Option (Int32 × St) :=
  if x4 = 0 then
    if x1 = 0 then
      fX10_last_102 fu x0 x1 x2 σ
    else
      fX10_last_102 fu x0 x1 x3 σ
  else
    (fX10_isLast fu x0 σ).bind fun (q103 : Int32 × St) =>
    if q103.1 = 0 then
      fX10_last_84 fu k56 x0 x1 x2 x3 q103.2
    else
      if x2 = 0 then
        (fX10_numberOf fu x0 q103.2).bind fun (q106 : Int32 × St) =>
        fX10_last_80 fu k56 x0 x1 x2 q106.1 q106.2
      else
        fX10_last_80 fu k56 x0 x1 x2 x3 q103.2
set_option maxHeartbeats 4000000 in
set_option maxRecDepth 100000 in
theorem tX10_last_56b {l : Launch} {D : va_G} {cA : ClassId} {bs : Nat} {ad : Nat → Nat} {p : Program} {e : Env} {s : State} {m : MethodId} {args : Array Value} {below : List Frame} {meth : Method} {c : Code} {fu : Nat} (C : Cx D cA bs ad RX10 cX10_last 5 (some .int) p s m args meth c) {k56 : Int32 → Int32 → Int32 → St → Option (Int32 × St)} {x0 : Nat} {x1 : Int32} {x2 : Int32} {x3 : Int32} {x4 : Int32} {q : Int32 × St} (hx0 : xk x0 = 8) (hk56 : ∀ (x2 : Int32) (x3 : Int32) (x4 : Int32) (σ : St), k56 x2 x3 x4 σ = some q → Y D cA bs ad p l e (rmY 2 46) s m args below meth c 5 0 0 (QM D cA bs ad below args s (some (.int q.1)) q.2) σ 56 [(0, .ref (ad x0)), (1, .int x1), (2, .int x2), (3, .int x3), (4, .int x4)] []) {σ : St} (h : fX10_last_56b fu k56 x0 x1 x2 x3 x4 σ = some q) : Y D cA bs ad p l e (rmY 2 46) s m args below meth c 5 0 0 (QM D cA bs ad below args s (some (.int q.1)) q.2) σ 56 [(0, .ref (ad x0)), (1, .int x1), (2, .int x2), (3, .int x3), (4, .int x4)] [] := by
  unfold fX10_last_56b at h
  refine y_iload (pc := 56) (q := 4) C dX10_last_56 rfl ?_
  refine y_if_eq (pc := 58) (tgt := 93) C dX10_last_58 (by decide) (fun c101 => ?_) (fun c101 => ?_)
  · rw [if_pos c101] at h
    refine y_iload_n (pc := 93) (q := 1) C dX10_last_93 rfl rfl ?_
    refine y_if_ne (pc := 94) (tgt := 101) C dX10_last_94 (by decide) (fun c102 => ?_) (fun c102 => ?_)
    · rw [if_neg c102] at h
      refine y_iload_n (pc := 101) (q := 3) C dX10_last_101 rfl rfl ?_
      refine y_sub [0, 1] (lv' := [(0, .ref (ad x0)), (1, .int x1)]) rfl ?_
      exact tX10_last_102 (fu := fu) C hx0 h
    · rw [if_pos c102] at h
      refine y_iload_n (pc := 97) (q := 2) C dX10_last_97 rfl rfl ?_
      refine y_goto (pc := 98) (tgt := 102) C dX10_last_98 (by decide) ?_
      refine y_sub [0, 1] (lv' := [(0, .ref (ad x0)), (1, .int x1)]) rfl ?_
      exact tX10_last_102 (fu := fu) C hx0 h
  · rw [if_neg c101] at h
    refine y_aload_n (pc := 61) (q := 0) C dX10_last_61 rfl rfl ?_
    obtain ⟨q103, eq103, h⟩ := bdS h
    refine y_callV (pc := 62) (As := []) (rest := []) C (mX10_isLast (fu := fu) eq103) vwX10_215 rfl (by decide) hx0 rfl rfl (Nat.le_of_ble_eq_true rfl) ⟨Nat.le_of_ble_eq_true rfl, Nat.le_of_ble_eq_true rfl⟩ ⟨Nat.le_refl _, Nat.le_refl _⟩ dX10_last_62 ?_
    show Y _ _ _ _ _ _ _ _ _ _ _ _ _ _ _ _ _ _ q103.2 65 [(0, .ref (ad x0)), (1, .int x1), (2, .int x2), (3, .int x3), (4, .int x4)] [.int q103.1]
    refine y_if_eq (pc := 65) (tgt := 84) C dX10_last_65 (by decide) (fun c104 => ?_) (fun c104 => ?_)
    · rw [if_pos c104] at h
      refine y_sub [0, 1, 2, 3] (lv' := [(0, .ref (ad x0)), (1, .int x1), (2, .int x2), (3, .int x3)]) rfl ?_
      exact tX10_last_84 (fu := fu) C hx0 hk56 h
    · rw [if_neg c104] at h
      refine y_iload_n (pc := 68) (q := 2) C dX10_last_68 rfl rfl ?_
      refine y_if_ne (pc := 69) (tgt := 79) C dX10_last_69 (by decide) (fun c105 => ?_) (fun c105 => ?_)
      · rw [if_neg c105] at h
        refine y_iload_n (pc := 79) (q := 3) C dX10_last_79 rfl rfl ?_
        refine y_sub [0, 1, 2] (lv' := [(0, .ref (ad x0)), (1, .int x1), (2, .int x2)]) rfl ?_
        exact tX10_last_80 (fu := fu) C hx0 hk56 h
      · rw [if_pos c105] at h
        refine y_aload_n (pc := 72) (q := 0) C dX10_last_72 rfl rfl ?_
        obtain ⟨q106, eq106, h⟩ := bdS h
        refine y_callV (pc := 73) (As := []) (rest := []) C (mX10_numberOf (fu := fu) eq106) vwX10_176 rfl (by decide) hx0 rfl rfl (Nat.le_of_ble_eq_true rfl) ⟨Nat.le_of_ble_eq_true rfl, Nat.le_of_ble_eq_true rfl⟩ ⟨Nat.le_refl _, Nat.le_refl _⟩ dX10_last_73 ?_
        show Y _ _ _ _ _ _ _ _ _ _ _ _ _ _ _ _ _ _ q106.2 76 [(0, .ref (ad x0)), (1, .int x1), (2, .int x2), (3, .int x3), (4, .int x4)] [.int q106.1]
        refine y_goto (pc := 76) (tgt := 80) C dX10_last_76 (by decide) ?_
        refine y_sub [0, 1, 2] (lv' := [(0, .ref (ad x0)), (1, .int x1), (2, .int x2)]) rfl ?_
        exact tX10_last_80 (fu := fu) C hx0 hk56 h
noncomputable def fX10_last_56 (fu : Nat) (x0 : Nat) (x1 : Int32) : Nat → Int32 → Int32 → Int32 → St → Option (Int32 × St) := lp (fun k56 => fX10_last_56b fu k56 x0 x1) (fun _ _ _ _ => none)
set_option maxHeartbeats 4000000 in
theorem tX10_last_56 {l : Launch} {D : va_G} {cA : ClassId} {bs : Nat} {ad : Nat → Nat} {p : Program} {e : Env} {s : State} {m : MethodId} {args : Array Value} {below : List Frame} {meth : Method} {c : Code} {fu : Nat} (C : Cx D cA bs ad RX10 cX10_last 5 (some .int) p s m args meth c) {x0 : Nat} {x1 : Int32} {q : Int32 × St} (hx0 : xk x0 = 8)  : ∀ (n : Nat) (x2 : Int32) (x3 : Int32) (x4 : Int32) (σ : St), fX10_last_56 fu  x0 x1 n x2 x3 x4 σ = some q → Y D cA bs ad p l e (rmY 2 46) s m args below meth c 5 0 0 (QM D cA bs ad below args s (some (.int q.1)) q.2) σ 56 [(0, .ref (ad x0)), (1, .int x1), (2, .int x2), (3, .int x3), (4, .int x4)] [] := by
  intro n
  induction n with
  | zero => intro x2 x3 x4 σ h; cases h
  | succ n ih => intro x2 x3 x4 σ h; exact tX10_last_56b (fu := fu) C hx0 ih h
noncomputable def fX10_last_0 (fu : Nat) (x0 : Nat) (x1 : Int32) (σ : St) : Option (Int32 × St) :=
  (fX10_lacks fu x0 σ).bind fun (q101 : Int32 × St) =>
  if q101.1 = 0 then
    (fX10_in fu x1.toInt64 (0 : Int64) (1 : Int64) q101.2).bind fun (q103 : Int32 × St) =>
    if q103.1 = 0 then
      some ((-102 : Int32), q103.2)
    else
      if (q103.2.1 x0 27) = (40 : Int32) then
        some ((-103 : Int32), q103.2)
      else
        nm (si q103.2 x0 27 ((q103.2.1 x0 27) + (1 : Int32))) fun (σ106 : St) =>
        (fX10_firstOrder fu x0 σ106).bind fun (q107 : St) =>
        fX10_last_56 fu x0 x1 fu (0 : Int32) (-1 : Int32) (1 : Int32) q107
  else
    some ((-103 : Int32), q101.2)
set_option maxHeartbeats 4000000 in
set_option maxRecDepth 100000 in
theorem tX10_last_0 {l : Launch} {D : va_G} {cA : ClassId} {bs : Nat} {ad : Nat → Nat} {p : Program} {e : Env} {s : State} {m : MethodId} {args : Array Value} {below : List Frame} {meth : Method} {c : Code} {fu : Nat} (C : Cx D cA bs ad RX10 cX10_last 5 (some .int) p s m args meth c) {x0 : Nat} {x1 : Int32} {q : Int32 × St} (hx0 : xk x0 = 8) {σ : St} (h : fX10_last_0 fu x0 x1 σ = some q) : Y D cA bs ad p l e (rmY 2 46) s m args below meth c 5 0 0 (QM D cA bs ad below args s (some (.int q.1)) q.2) σ 0 [(0, .ref (ad x0)), (1, .int x1)] [] := by
  unfold fX10_last_0 at h
  refine y_aload_n (pc := 0) (q := 0) C dX10_last_0 rfl rfl ?_
  obtain ⟨q101, eq101, h⟩ := bdS h
  refine y_callV (pc := 1) (As := []) (rest := []) C (mX10_lacks (fu := fu) eq101) vwX10_137 rfl (by decide) hx0 rfl rfl (Nat.le_of_ble_eq_true rfl) ⟨Nat.le_of_ble_eq_true rfl, Nat.le_of_ble_eq_true rfl⟩ ⟨Nat.le_refl _, Nat.le_refl _⟩ dX10_last_1 ?_
  show Y _ _ _ _ _ _ _ _ _ _ _ _ _ _ _ _ _ _ q101.2 4 [(0, .ref (ad x0)), (1, .int x1)] [.int q101.1]
  refine y_if_eq (pc := 4) (tgt := 10) C dX10_last_4 (by decide) (fun c102 => ?_) (fun c102 => ?_)
  · rw [if_pos c102] at h
    refine y_iload_n (pc := 10) (q := 1) C dX10_last_10 rfl rfl ?_
    refine y_i2l (pc := 11) C dX10_last_11 ?_
    refine y_lconst (pc := 12) (v := (0 : Int64)) C dX10_last_12 (by decide) ?_
    refine y_lconst (pc := 13) (v := (1 : Int64)) C dX10_last_13 (by decide) ?_
    obtain ⟨q103, eq103, h⟩ := bdS h
    refine y_callS (pc := 14) (As := [.long x1.toInt64, .long (0 : Int64), .long (1 : Int64)]) (rest := []) C (mX10_in (fu := fu) eq103) vwX10_68 rfl rfl (Nat.le_of_ble_eq_true rfl) ⟨Nat.le_of_ble_eq_true rfl, Nat.le_of_ble_eq_true rfl⟩ ⟨Nat.le_refl _, Nat.le_refl _⟩ dX10_last_14 ?_
    show Y _ _ _ _ _ _ _ _ _ _ _ _ _ _ _ _ _ _ q103.2 17 [(0, .ref (ad x0)), (1, .int x1)] [.int q103.1]
    refine y_if_ne (pc := 17) (tgt := 23) C dX10_last_17 (by decide) (fun c104 => ?_) (fun c104 => ?_)
    · rw [if_neg c104] at h
      refine y_aload_n (pc := 23) (q := 0) C dX10_last_23 rfl rfl ?_
      refine y_geti (pc := 24) C faX10_212 rfl hx0 dX10_last_24 ?_
      refine y_bipush (pc := 27) (v := (40 : Int32)) C dX10_last_27 (by decide) ?_
      refine y_icmp_ne (pc := 29) (tgt := 35) C dX10_last_29 (by decide) (fun c105 => ?_) (fun c105 => ?_)
      · rw [if_neg c105] at h
        refine y_aload_n (pc := 35) (q := 0) C dX10_last_35 rfl rfl ?_
        refine y_dup (pc := 36) C dX10_last_36 rfl ?_
        refine y_geti (pc := 37) C faX10_212 rfl hx0 dX10_last_37 ?_
        refine y_iconst (pc := 40) (v := (1 : Int32)) C dX10_last_40 (by decide) ?_
        refine y_iadd (pc := 41) C dX10_last_41 ?_
        obtain ⟨σ106, eσ106, h⟩ := nmS h
        refine y_puti (pc := 42) C fpX10_212 rfl hx0 rfl rfl dX10_last_42 ?_
        rw [← eσ106]
        refine y_iconst (pc := 45) (v := (0 : Int32)) C dX10_last_45 (by decide) ?_
        refine y_istore_n (pc := 46) (lv' := [(2, .int (0 : Int32)), (0, .ref (ad x0)), (1, .int x1)]) C dX10_last_46 rfl (by decide) rfl ?_
        refine y_iconst (pc := 47) (v := (-1 : Int32)) C dX10_last_47 (by decide) ?_
        refine y_istore_n (pc := 48) (lv' := [(3, .int (-1 : Int32)), (2, .int (0 : Int32)), (0, .ref (ad x0)), (1, .int x1)]) C dX10_last_48 rfl (by decide) rfl ?_
        refine y_iconst (pc := 49) (v := (1 : Int32)) C dX10_last_49 (by decide) ?_
        refine y_istore (pc := 50) (lv' := [(4, .int (1 : Int32)), (3, .int (-1 : Int32)), (2, .int (0 : Int32)), (0, .ref (ad x0)), (1, .int x1)]) C dX10_last_50 (by decide) rfl ?_
        refine y_aload_n (pc := 52) (q := 3) C dX10_last_52 rfl rfl ?_
        obtain ⟨q107, eq107, h⟩ := bdS h
        refine y_callV (pc := 53) (As := []) (rest := []) C (mX10_firstOrder (fu := fu) eq107) vwX10_169 rfl (by decide) hx0 rfl rfl (Nat.le_of_ble_eq_true rfl) ⟨Nat.le_of_ble_eq_true rfl, Nat.le_of_ble_eq_true rfl⟩ ⟨Nat.le_refl _, Nat.le_refl _⟩ dX10_last_53 ?_
        show Y _ _ _ _ _ _ _ _ _ _ _ _ _ _ _ _ _ _ q107 56 [(4, .int (1 : Int32)), (3, .int (-1 : Int32)), (2, .int (0 : Int32)), (0, .ref (ad x0)), (1, .int x1)] []
        refine y_sub [3, 4, 2, 1, 0] (lv' := [(0, .ref (ad x0)), (1, .int x1), (2, .int (0 : Int32)), (3, .int (-1 : Int32)), (4, .int (1 : Int32))]) rfl ?_
        exact tX10_last_56 (fu := fu) C hx0 fu _ _ _ _ h
      · rw [if_pos c105] at h
        refine y_bipush (pc := 32) (v := (-103 : Int32)) C dX10_last_32 (by decide) ?_
        cases h
        exact y_iret (pc := 34) C dX10_last_34
    · rw [if_pos c104] at h
      refine y_bipush (pc := 20) (v := (-102 : Int32)) C dX10_last_20 (by decide) ?_
      cases h
      exact y_iret (pc := 22) C dX10_last_22
  · rw [if_neg c102] at h
    refine y_bipush (pc := 7) (v := (-103 : Int32)) C dX10_last_7 (by decide) ?_
    cases h
    exact y_iret (pc := 9) C dX10_last_9
noncomputable def fX10_last (fu : Nat) (x0 : Nat) (x1 : Int32) (σ : St) : Option (Int32 × St) := if xk x0 = 8 then fX10_last_0 fu x0 x1 σ else none
theorem mX10_last {l : Launch} {D : va_G} {cA : ClassId} {bs fu : Nat} {ad : Nat → Nat} {x0 : Nat} {x1 : Int32} {σ : St} {q : Int32 × St} (h : fX10_last fu x0 x1 σ = some q) : Ct l D cA bs ad yX10_last cX10_last 5 (some .int) 2 46 [.ref (ad x0), .int x1] σ (some (.int q.1)) q.2 := by
  unfold fX10_last at h
  by_cases hx0 : xk x0 = 8
  case neg => rw [if_neg hx0] at h; cases h
  rw [if_pos hx0] at h
  exact Ct.of (by decide) (Nat.le_of_ble_eq_true rfl) (fun p e s m args below meth c C => tX10_last_0 (fu := fu) C hx0 h)
noncomputable def fX10_sure_27 (fu : Nat) (x0 : Nat) (x1 : Int32) (σ : St) : Option (Int32 × St) :=
  some ((-103 : Int32), σ)
set_option maxHeartbeats 4000000 in
set_option maxRecDepth 100000 in
theorem tX10_sure_27 {l : Launch} {D : va_G} {cA : ClassId} {bs : Nat} {ad : Nat → Nat} {p : Program} {e : Env} {s : State} {m : MethodId} {args : Array Value} {below : List Frame} {meth : Method} {c : Code} {fu : Nat} (C : Cx D cA bs ad RX10 cX10_sure 5 (some .int) p s m args meth c) {x0 : Nat} {x1 : Int32} {q : Int32 × St} (hx0 : xk x0 = 8) {σ : St} (h : fX10_sure_27 fu x0 x1 σ = some q) : Y D cA bs ad p l e (rmY 2 46) s m args below meth c 5 0 0 (QM D cA bs ad below args s (some (.int q.1)) q.2) σ 27 [(0, .ref (ad x0)), (1, .int x1)] [] := by
  unfold fX10_sure_27 at h
  refine y_bipush (pc := 27) (v := (-103 : Int32)) C dX10_sure_27 (by decide) ?_
  cases h
  exact y_iret (pc := 29) C dX10_sure_29
noncomputable def fX10_sure_91 (fu : Nat) (k48 : Int32 → Int32 → St → Option (Int32 × St)) (k62 : Int32 → Int32 → St → Option (Int32 × St)) (x0 : Nat) (x1 : Int32) (x4 : Int32) (s0 : Int32) (s1 : Int32) (σ : St) : Option (Int32 × St) :=
  nm (s0 ||| s1) fun (y101 : Int32) =>
  nm (x4 + (1 : Int32)) fun (y102 : Int32) =>
  k62 y101 y102 σ
set_option maxHeartbeats 4000000 in
set_option maxRecDepth 100000 in
theorem tX10_sure_91 {l : Launch} {D : va_G} {cA : ClassId} {bs : Nat} {ad : Nat → Nat} {p : Program} {e : Env} {s : State} {m : MethodId} {args : Array Value} {below : List Frame} {meth : Method} {c : Code} {fu : Nat} (C : Cx D cA bs ad RX10 cX10_sure 5 (some .int) p s m args meth c) {k48 : Int32 → Int32 → St → Option (Int32 × St)} {k62 : Int32 → Int32 → St → Option (Int32 × St)} {x0 : Nat} {x1 : Int32} {x4 : Int32} {s0 : Int32} {s1 : Int32} {q : Int32 × St} (hx0 : xk x0 = 8) (hk48 : ∀ (x2 : Int32) (x3 : Int32) (σ : St), k48 x2 x3 σ = some q → Y D cA bs ad p l e (rmY 2 46) s m args below meth c 5 0 0 (QM D cA bs ad below args s (some (.int q.1)) q.2) σ 48 [(0, .ref (ad x0)), (1, .int x1), (2, .int x2), (3, .int x3)] []) (hk62 : ∀ (x2 : Int32) (x4 : Int32) (σ : St), k62 x2 x4 σ = some q → Y D cA bs ad p l e (rmY 2 46) s m args below meth c 5 0 0 (QM D cA bs ad below args s (some (.int q.1)) q.2) σ 62 [(0, .ref (ad x0)), (1, .int x1), (2, .int x2), (4, .int x4)] []) {σ : St} (h : fX10_sure_91 fu k48 k62 x0 x1 x4 s0 s1 σ = some q) : Y D cA bs ad p l e (rmY 2 46) s m args below meth c 5 0 0 (QM D cA bs ad below args s (some (.int q.1)) q.2) σ 91 [(0, .ref (ad x0)), (1, .int x1), (4, .int x4)] [.int s1, .int s0] := by
  unfold fX10_sure_91 at h
  refine y_ior (pc := 91) C dX10_sure_91 ?_
  obtain ⟨y101, ey101, h⟩ := nmS h
  refine y_nmI y101 ey101 ?_
  refine y_istore_n (pc := 92) (lv' := [(2, .int y101), (0, .ref (ad x0)), (1, .int x1), (4, .int x4)]) C dX10_sure_92 rfl (by decide) rfl ?_
  obtain ⟨y102, ey102, h⟩ := nmS h
  refine y_iinc (pc := 93) (v := y102) (k := 3) (lv' := [(4, .int y102), (2, .int y101), (0, .ref (ad x0)), (1, .int x1)]) C dX10_sure_93 rfl (by rw [ey102]; rfl) (by decide) rfl ?_
  refine y_goto (pc := 96) (tgt := 62) C dX10_sure_96 (by decide) ?_
  refine y_sub [2, 3, 1, 0] (lv' := [(0, .ref (ad x0)), (1, .int x1), (2, .int y101), (4, .int y102)]) rfl ?_
  exact hk62 _ _ _ h
noncomputable def fX10_sure_99 (fu : Nat) (k48 : Int32 → Int32 → St → Option (Int32 × St)) (x0 : Nat) (x1 : Int32) (x2 : Int32) (σ : St) : Option (Int32 × St) :=
  (fX10_nextOrder fu x0 σ).bind fun (q101 : Int32 × St) =>
  k48 x2 q101.1 q101.2
set_option maxHeartbeats 4000000 in
set_option maxRecDepth 100000 in
theorem tX10_sure_99 {l : Launch} {D : va_G} {cA : ClassId} {bs : Nat} {ad : Nat → Nat} {p : Program} {e : Env} {s : State} {m : MethodId} {args : Array Value} {below : List Frame} {meth : Method} {c : Code} {fu : Nat} (C : Cx D cA bs ad RX10 cX10_sure 5 (some .int) p s m args meth c) {k48 : Int32 → Int32 → St → Option (Int32 × St)} {x0 : Nat} {x1 : Int32} {x2 : Int32} {q : Int32 × St} (hx0 : xk x0 = 8) (hk48 : ∀ (x2 : Int32) (x3 : Int32) (σ : St), k48 x2 x3 σ = some q → Y D cA bs ad p l e (rmY 2 46) s m args below meth c 5 0 0 (QM D cA bs ad below args s (some (.int q.1)) q.2) σ 48 [(0, .ref (ad x0)), (1, .int x1), (2, .int x2), (3, .int x3)] []) {σ : St} (h : fX10_sure_99 fu k48 x0 x1 x2 σ = some q) : Y D cA bs ad p l e (rmY 2 46) s m args below meth c 5 0 0 (QM D cA bs ad below args s (some (.int q.1)) q.2) σ 99 [(0, .ref (ad x0)), (1, .int x1), (2, .int x2)] [] := by
  unfold fX10_sure_99 at h
  refine y_aload_n (pc := 99) (q := 0) C dX10_sure_99 rfl rfl ?_
  obtain ⟨q101, eq101, h⟩ := bdS h
  refine y_callV (pc := 100) (As := []) (rest := []) C (mX10_nextOrder (fu := fu) eq101) vwX10_179 rfl (by decide) hx0 rfl rfl (Nat.le_of_ble_eq_true rfl) ⟨Nat.le_of_ble_eq_true rfl, Nat.le_of_ble_eq_true rfl⟩ ⟨Nat.le_refl _, Nat.le_refl _⟩ dX10_sure_100 ?_
  show Y _ _ _ _ _ _ _ _ _ _ _ _ _ _ _ _ _ _ q101.2 103 [(0, .ref (ad x0)), (1, .int x1), (2, .int x2)] [.int q101.1]
  refine y_istore_n (pc := 103) (lv' := [(3, .int q101.1), (0, .ref (ad x0)), (1, .int x1), (2, .int x2)]) C dX10_sure_103 rfl (by decide) rfl ?_
  refine y_goto (pc := 104) (tgt := 48) C dX10_sure_104 (by decide) ?_
  refine y_sub [1, 2, 3, 0] (lv' := [(0, .ref (ad x0)), (1, .int x1), (2, .int x2), (3, .int q101.1)]) rfl ?_
  exact hk48 _ _ _ h
noncomputable def fX10_sure_62b (fu : Nat) (k48 : Int32 → Int32 → St → Option (Int32 × St)) (k62 : Int32 → Int32 → St → Option (Int32 × St)) (x0 : Nat) (x1 : Int32) (x2 : Int32) (x4 : Int32) (σ : St) : Option (Int32 × St) :=
  if (σ.1 x0 12) ≤ x4 then
    fX10_sure_99 fu k48 x0 x1 x2 σ
  else
    (ald σ (rf x0 19) 7 x4).bind fun (v102 : Int32) =>
    if v102 = x1 then
      fX10_sure_91 fu k48 k62 x0 x1 x4 x2 ((1 : Int32) <<< (x4 &&& 31)) σ
    else
      fX10_sure_91 fu k48 k62 x0 x1 x4 x2 (0 : Int32) σ
set_option maxHeartbeats 4000000 in
set_option maxRecDepth 100000 in
theorem tX10_sure_62b {l : Launch} {D : va_G} {cA : ClassId} {bs : Nat} {ad : Nat → Nat} {p : Program} {e : Env} {s : State} {m : MethodId} {args : Array Value} {below : List Frame} {meth : Method} {c : Code} {fu : Nat} (C : Cx D cA bs ad RX10 cX10_sure 5 (some .int) p s m args meth c) {k48 : Int32 → Int32 → St → Option (Int32 × St)} {k62 : Int32 → Int32 → St → Option (Int32 × St)} {x0 : Nat} {x1 : Int32} {x2 : Int32} {x4 : Int32} {q : Int32 × St} (hx0 : xk x0 = 8) (hk48 : ∀ (x2 : Int32) (x3 : Int32) (σ : St), k48 x2 x3 σ = some q → Y D cA bs ad p l e (rmY 2 46) s m args below meth c 5 0 0 (QM D cA bs ad below args s (some (.int q.1)) q.2) σ 48 [(0, .ref (ad x0)), (1, .int x1), (2, .int x2), (3, .int x3)] []) (hk62 : ∀ (x2 : Int32) (x4 : Int32) (σ : St), k62 x2 x4 σ = some q → Y D cA bs ad p l e (rmY 2 46) s m args below meth c 5 0 0 (QM D cA bs ad below args s (some (.int q.1)) q.2) σ 62 [(0, .ref (ad x0)), (1, .int x1), (2, .int x2), (4, .int x4)] []) {σ : St} (h : fX10_sure_62b fu k48 k62 x0 x1 x2 x4 σ = some q) : Y D cA bs ad p l e (rmY 2 46) s m args below meth c 5 0 0 (QM D cA bs ad below args s (some (.int q.1)) q.2) σ 62 [(0, .ref (ad x0)), (1, .int x1), (2, .int x2), (4, .int x4)] [] := by
  unfold fX10_sure_62b at h
  refine y_iload (pc := 62) (q := 3) C dX10_sure_62 rfl ?_
  refine y_aload_n (pc := 64) (q := 0) C dX10_sure_64 rfl rfl ?_
  refine y_geti (pc := 65) C faX10_105 rfl hx0 dX10_sure_65 ?_
  refine y_icmp_ge (pc := 68) (tgt := 99) C dX10_sure_68 (by decide) (fun c101 => ?_) (fun c101 => ?_)
  · rw [if_pos c101] at h
    refine y_sub [0, 1, 2] (lv' := [(0, .ref (ad x0)), (1, .int x1), (2, .int x2)]) rfl ?_
    exact tX10_sure_99 (fu := fu) C hx0 hk48 h
  · rw [if_neg c101] at h
    refine y_iload_n (pc := 71) (q := 2) C dX10_sure_71 rfl rfl ?_
    refine y_aload_n (pc := 72) (q := 0) C dX10_sure_72 rfl rfl ?_
    refine y_getr (pc := 73) C faX10_31 rfl hx0 dX10_sure_73 ?_
    refine y_iload (pc := 76) (q := 3) C dX10_sure_76 rfl ?_
    obtain ⟨v102, ev102, h⟩ := bdS h
    refine y_iald (pc := 78) (n := 7) C (rf_8_19 _ hx0) (by decide) ev102 dX10_sure_78 ?_
    refine y_iload_n (pc := 79) (q := 1) C dX10_sure_79 rfl rfl ?_
    refine y_icmp_ne (pc := 80) (tgt := 90) C dX10_sure_80 (by decide) (fun c103 => ?_) (fun c103 => ?_)
    · rw [if_neg c103] at h
      refine y_iconst (pc := 90) (v := (0 : Int32)) C dX10_sure_90 (by decide) ?_
      refine y_sub [0, 1, 3] (lv' := [(0, .ref (ad x0)), (1, .int x1), (4, .int x4)]) rfl ?_
      exact tX10_sure_91 (fu := fu) C hx0 hk48 hk62 h
    · rw [if_pos c103] at h
      refine y_iconst (pc := 83) (v := (1 : Int32)) C dX10_sure_83 (by decide) ?_
      refine y_iload (pc := 84) (q := 3) C dX10_sure_84 rfl ?_
      refine y_ishl (pc := 86) C dX10_sure_86 ?_
      refine y_goto (pc := 87) (tgt := 91) C dX10_sure_87 (by decide) ?_
      refine y_sub [0, 1, 3] (lv' := [(0, .ref (ad x0)), (1, .int x1), (4, .int x4)]) rfl ?_
      exact tX10_sure_91 (fu := fu) C hx0 hk48 hk62 h
noncomputable def fX10_sure_62 (fu : Nat) (k48 : Int32 → Int32 → St → Option (Int32 × St)) (x0 : Nat) (x1 : Int32) : Nat → Int32 → Int32 → St → Option (Int32 × St) := lp (fun k62 => fX10_sure_62b fu k48 k62 x0 x1) (fun _ _ _ => none)
set_option maxHeartbeats 4000000 in
theorem tX10_sure_62 {l : Launch} {D : va_G} {cA : ClassId} {bs : Nat} {ad : Nat → Nat} {p : Program} {e : Env} {s : State} {m : MethodId} {args : Array Value} {below : List Frame} {meth : Method} {c : Code} {fu : Nat} (C : Cx D cA bs ad RX10 cX10_sure 5 (some .int) p s m args meth c) {k48 : Int32 → Int32 → St → Option (Int32 × St)} {x0 : Nat} {x1 : Int32} {q : Int32 × St} (hx0 : xk x0 = 8) (hk48 : ∀ (x2 : Int32) (x3 : Int32) (σ : St), k48 x2 x3 σ = some q → Y D cA bs ad p l e (rmY 2 46) s m args below meth c 5 0 0 (QM D cA bs ad below args s (some (.int q.1)) q.2) σ 48 [(0, .ref (ad x0)), (1, .int x1), (2, .int x2), (3, .int x3)] []) : ∀ (n : Nat) (x2 : Int32) (x4 : Int32) (σ : St), fX10_sure_62 fu k48 x0 x1 n x2 x4 σ = some q → Y D cA bs ad p l e (rmY 2 46) s m args below meth c 5 0 0 (QM D cA bs ad below args s (some (.int q.1)) q.2) σ 62 [(0, .ref (ad x0)), (1, .int x1), (2, .int x2), (4, .int x4)] [] := by
  intro n
  induction n with
  | zero => intro x2 x4 σ h; cases h
  | succ n ih => intro x2 x4 σ h; exact tX10_sure_62b (fu := fu) C hx0 hk48 ih h
noncomputable def fX10_sure_110b (fu : Nat) (k110 : Int32 → Int32 → St → Option (Int32 × St)) (x0 : Nat) (x1 : Int32) (x2 : Int32) (x4 : Int32) (σ : St) : Option (Int32 × St) :=
  if (σ.1 x0 12) ≤ x4 then
    some ((-1 : Int32), σ)
  else
    if x2 = ((1 : Int32) <<< (x4 &&& 31)) then
      some (x4, σ)
    else
      nm (x4 + (1 : Int32)) fun (y103 : Int32) =>
      k110 x2 y103 σ
set_option maxHeartbeats 4000000 in
set_option maxRecDepth 100000 in
theorem tX10_sure_110b {l : Launch} {D : va_G} {cA : ClassId} {bs : Nat} {ad : Nat → Nat} {p : Program} {e : Env} {s : State} {m : MethodId} {args : Array Value} {below : List Frame} {meth : Method} {c : Code} {fu : Nat} (C : Cx D cA bs ad RX10 cX10_sure 5 (some .int) p s m args meth c) {k110 : Int32 → Int32 → St → Option (Int32 × St)} {x0 : Nat} {x1 : Int32} {x2 : Int32} {x4 : Int32} {q : Int32 × St} (hx0 : xk x0 = 8) (hk110 : ∀ (x2 : Int32) (x4 : Int32) (σ : St), k110 x2 x4 σ = some q → Y D cA bs ad p l e (rmY 2 46) s m args below meth c 5 0 0 (QM D cA bs ad below args s (some (.int q.1)) q.2) σ 110 [(0, .ref (ad x0)), (1, .int x1), (2, .int x2), (4, .int x4)] []) {σ : St} (h : fX10_sure_110b fu k110 x0 x1 x2 x4 σ = some q) : Y D cA bs ad p l e (rmY 2 46) s m args below meth c 5 0 0 (QM D cA bs ad below args s (some (.int q.1)) q.2) σ 110 [(0, .ref (ad x0)), (1, .int x1), (2, .int x2), (4, .int x4)] [] := by
  unfold fX10_sure_110b at h
  refine y_iload (pc := 110) (q := 3) C dX10_sure_110 rfl ?_
  refine y_aload_n (pc := 112) (q := 0) C dX10_sure_112 rfl rfl ?_
  refine y_geti (pc := 113) C faX10_105 rfl hx0 dX10_sure_113 ?_
  refine y_icmp_ge (pc := 116) (tgt := 136) C dX10_sure_116 (by decide) (fun c101 => ?_) (fun c101 => ?_)
  · rw [if_pos c101] at h
    refine y_iconst (pc := 136) (v := (-1 : Int32)) C dX10_sure_136 (by decide) ?_
    cases h
    exact y_iret (pc := 137) C dX10_sure_137
  · rw [if_neg c101] at h
    refine y_iload_n (pc := 119) (q := 2) C dX10_sure_119 rfl rfl ?_
    refine y_iconst (pc := 120) (v := (1 : Int32)) C dX10_sure_120 (by decide) ?_
    refine y_iload (pc := 121) (q := 3) C dX10_sure_121 rfl ?_
    refine y_ishl (pc := 123) C dX10_sure_123 ?_
    refine y_icmp_ne (pc := 124) (tgt := 130) C dX10_sure_124 (by decide) (fun c102 => ?_) (fun c102 => ?_)
    · rw [if_neg c102] at h
      obtain ⟨y103, ey103, h⟩ := nmS h
      refine y_iinc (pc := 130) (v := y103) (k := 3) (lv' := [(4, .int y103), (0, .ref (ad x0)), (1, .int x1), (2, .int x2)]) C dX10_sure_130 rfl (by rw [ey103]; rfl) (by decide) rfl ?_
      refine y_goto (pc := 133) (tgt := 110) C dX10_sure_133 (by decide) ?_
      refine y_sub [1, 2, 3, 0] (lv' := [(0, .ref (ad x0)), (1, .int x1), (2, .int x2), (4, .int y103)]) rfl ?_
      exact hk110 _ _ _ h
    · rw [if_pos c102] at h
      refine y_iload (pc := 127) (q := 3) C dX10_sure_127 rfl ?_
      cases h
      exact y_iret (pc := 129) C dX10_sure_129
noncomputable def fX10_sure_110 (fu : Nat) (x0 : Nat) (x1 : Int32) : Nat → Int32 → Int32 → St → Option (Int32 × St) := lp (fun k110 => fX10_sure_110b fu k110 x0 x1) (fun _ _ _ => none)
set_option maxHeartbeats 4000000 in
theorem tX10_sure_110 {l : Launch} {D : va_G} {cA : ClassId} {bs : Nat} {ad : Nat → Nat} {p : Program} {e : Env} {s : State} {m : MethodId} {args : Array Value} {below : List Frame} {meth : Method} {c : Code} {fu : Nat} (C : Cx D cA bs ad RX10 cX10_sure 5 (some .int) p s m args meth c) {x0 : Nat} {x1 : Int32} {q : Int32 × St} (hx0 : xk x0 = 8)  : ∀ (n : Nat) (x2 : Int32) (x4 : Int32) (σ : St), fX10_sure_110 fu  x0 x1 n x2 x4 σ = some q → Y D cA bs ad p l e (rmY 2 46) s m args below meth c 5 0 0 (QM D cA bs ad below args s (some (.int q.1)) q.2) σ 110 [(0, .ref (ad x0)), (1, .int x1), (2, .int x2), (4, .int x4)] [] := by
  intro n
  induction n with
  | zero => intro x2 x4 σ h; cases h
  | succ n ih => intro x2 x4 σ h; exact tX10_sure_110b (fu := fu) C hx0 ih h
noncomputable def fX10_sure_48b (fu : Nat) (k48 : Int32 → Int32 → St → Option (Int32 × St)) (x0 : Nat) (x1 : Int32) (x2 : Int32) (x3 : Int32) (σ : St) : Option (Int32 × St) :=
  if x3 = 0 then
    fX10_sure_110 fu x0 x1 fu x2 (0 : Int32) σ
  else
    (fX10_isLast fu x0 σ).bind fun (q102 : Int32 × St) =>
    if q102.1 = 0 then
      fX10_sure_99 fu k48 x0 x1 x2 q102.2
    else
      fX10_sure_62 fu k48 x0 x1 fu x2 (0 : Int32) q102.2
set_option maxHeartbeats 4000000 in
set_option maxRecDepth 100000 in
theorem tX10_sure_48b {l : Launch} {D : va_G} {cA : ClassId} {bs : Nat} {ad : Nat → Nat} {p : Program} {e : Env} {s : State} {m : MethodId} {args : Array Value} {below : List Frame} {meth : Method} {c : Code} {fu : Nat} (C : Cx D cA bs ad RX10 cX10_sure 5 (some .int) p s m args meth c) {k48 : Int32 → Int32 → St → Option (Int32 × St)} {x0 : Nat} {x1 : Int32} {x2 : Int32} {x3 : Int32} {q : Int32 × St} (hx0 : xk x0 = 8) (hk48 : ∀ (x2 : Int32) (x3 : Int32) (σ : St), k48 x2 x3 σ = some q → Y D cA bs ad p l e (rmY 2 46) s m args below meth c 5 0 0 (QM D cA bs ad below args s (some (.int q.1)) q.2) σ 48 [(0, .ref (ad x0)), (1, .int x1), (2, .int x2), (3, .int x3)] []) {σ : St} (h : fX10_sure_48b fu k48 x0 x1 x2 x3 σ = some q) : Y D cA bs ad p l e (rmY 2 46) s m args below meth c 5 0 0 (QM D cA bs ad below args s (some (.int q.1)) q.2) σ 48 [(0, .ref (ad x0)), (1, .int x1), (2, .int x2), (3, .int x3)] [] := by
  unfold fX10_sure_48b at h
  refine y_iload_n (pc := 48) (q := 3) C dX10_sure_48 rfl rfl ?_
  refine y_if_eq (pc := 49) (tgt := 107) C dX10_sure_49 (by decide) (fun c101 => ?_) (fun c101 => ?_)
  · rw [if_pos c101] at h
    refine y_iconst (pc := 107) (v := (0 : Int32)) C dX10_sure_107 (by decide) ?_
    refine y_istore (pc := 108) (lv' := [(4, .int (0 : Int32)), (0, .ref (ad x0)), (1, .int x1), (2, .int x2), (3, .int x3)]) C dX10_sure_108 (by decide) rfl ?_
    refine y_sub [1, 2, 3, 0] (lv' := [(0, .ref (ad x0)), (1, .int x1), (2, .int x2), (4, .int (0 : Int32))]) rfl ?_
    exact tX10_sure_110 (fu := fu) C hx0 fu _ _ _ h
  · rw [if_neg c101] at h
    refine y_aload_n (pc := 52) (q := 0) C dX10_sure_52 rfl rfl ?_
    obtain ⟨q102, eq102, h⟩ := bdS h
    refine y_callV (pc := 53) (As := []) (rest := []) C (mX10_isLast (fu := fu) eq102) vwX10_215 rfl (by decide) hx0 rfl rfl (Nat.le_of_ble_eq_true rfl) ⟨Nat.le_of_ble_eq_true rfl, Nat.le_of_ble_eq_true rfl⟩ ⟨Nat.le_refl _, Nat.le_refl _⟩ dX10_sure_53 ?_
    show Y _ _ _ _ _ _ _ _ _ _ _ _ _ _ _ _ _ _ q102.2 56 [(0, .ref (ad x0)), (1, .int x1), (2, .int x2), (3, .int x3)] [.int q102.1]
    refine y_if_eq (pc := 56) (tgt := 99) C dX10_sure_56 (by decide) (fun c103 => ?_) (fun c103 => ?_)
    · rw [if_pos c103] at h
      refine y_sub [0, 1, 2] (lv' := [(0, .ref (ad x0)), (1, .int x1), (2, .int x2)]) rfl ?_
      exact tX10_sure_99 (fu := fu) C hx0 hk48 h
    · rw [if_neg c103] at h
      refine y_iconst (pc := 59) (v := (0 : Int32)) C dX10_sure_59 (by decide) ?_
      refine y_istore (pc := 60) (lv' := [(4, .int (0 : Int32)), (0, .ref (ad x0)), (1, .int x1), (2, .int x2), (3, .int x3)]) C dX10_sure_60 (by decide) rfl ?_
      refine y_sub [1, 2, 3, 0] (lv' := [(0, .ref (ad x0)), (1, .int x1), (2, .int x2), (4, .int (0 : Int32))]) rfl ?_
      exact tX10_sure_62 (fu := fu) C hx0 hk48 fu _ _ _ h
noncomputable def fX10_sure_48 (fu : Nat) (x0 : Nat) (x1 : Int32) : Nat → Int32 → Int32 → St → Option (Int32 × St) := lp (fun k48 => fX10_sure_48b fu k48 x0 x1) (fun _ _ _ => none)
set_option maxHeartbeats 4000000 in
theorem tX10_sure_48 {l : Launch} {D : va_G} {cA : ClassId} {bs : Nat} {ad : Nat → Nat} {p : Program} {e : Env} {s : State} {m : MethodId} {args : Array Value} {below : List Frame} {meth : Method} {c : Code} {fu : Nat} (C : Cx D cA bs ad RX10 cX10_sure 5 (some .int) p s m args meth c) {x0 : Nat} {x1 : Int32} {q : Int32 × St} (hx0 : xk x0 = 8)  : ∀ (n : Nat) (x2 : Int32) (x3 : Int32) (σ : St), fX10_sure_48 fu  x0 x1 n x2 x3 σ = some q → Y D cA bs ad p l e (rmY 2 46) s m args below meth c 5 0 0 (QM D cA bs ad below args s (some (.int q.1)) q.2) σ 48 [(0, .ref (ad x0)), (1, .int x1), (2, .int x2), (3, .int x3)] [] := by
  intro n
  induction n with
  | zero => intro x2 x3 σ h; cases h
  | succ n ih => intro x2 x3 σ h; exact tX10_sure_48b (fu := fu) C hx0 ih h
noncomputable def fX10_sure_0 (fu : Nat) (x0 : Nat) (x1 : Int32) (σ : St) : Option (Int32 × St) :=
  (fX10_isBlock fu x0 x1 σ).bind fun (q101 : Int32 × St) =>
  if q101.1 = 0 then
    some ((-101 : Int32), q101.2)
  else
    (fX10_lacks fu x0 q101.2).bind fun (q103 : Int32 × St) =>
    if q103.1 = 0 then
      if (q103.2.1 x0 27) = (40 : Int32) then
        fX10_sure_27 fu x0 x1 q103.2
      else
        nm (si q103.2 x0 27 ((q103.2.1 x0 27) + (1 : Int32))) fun (σ106 : St) =>
        (fX10_firstOrder fu x0 σ106).bind fun (q107 : St) =>
        fX10_sure_48 fu x0 x1 fu (0 : Int32) (1 : Int32) q107
    else
      fX10_sure_27 fu x0 x1 q103.2
set_option maxHeartbeats 4000000 in
set_option maxRecDepth 100000 in
theorem tX10_sure_0 {l : Launch} {D : va_G} {cA : ClassId} {bs : Nat} {ad : Nat → Nat} {p : Program} {e : Env} {s : State} {m : MethodId} {args : Array Value} {below : List Frame} {meth : Method} {c : Code} {fu : Nat} (C : Cx D cA bs ad RX10 cX10_sure 5 (some .int) p s m args meth c) {x0 : Nat} {x1 : Int32} {q : Int32 × St} (hx0 : xk x0 = 8) {σ : St} (h : fX10_sure_0 fu x0 x1 σ = some q) : Y D cA bs ad p l e (rmY 2 46) s m args below meth c 5 0 0 (QM D cA bs ad below args s (some (.int q.1)) q.2) σ 0 [(0, .ref (ad x0)), (1, .int x1)] [] := by
  unfold fX10_sure_0 at h
  refine y_aload_n (pc := 0) (q := 0) C dX10_sure_0 rfl rfl ?_
  refine y_iload_n (pc := 1) (q := 1) C dX10_sure_1 rfl rfl ?_
  obtain ⟨q101, eq101, h⟩ := bdS h
  refine y_callV (pc := 2) (As := [.int x1]) (rest := []) C (mX10_isBlock (fu := fu) eq101) vwX10_112 rfl (by decide) hx0 rfl rfl (Nat.le_of_ble_eq_true rfl) ⟨Nat.le_of_ble_eq_true rfl, Nat.le_of_ble_eq_true rfl⟩ ⟨Nat.le_refl _, Nat.le_refl _⟩ dX10_sure_2 ?_
  show Y _ _ _ _ _ _ _ _ _ _ _ _ _ _ _ _ _ _ q101.2 5 [(0, .ref (ad x0)), (1, .int x1)] [.int q101.1]
  refine y_if_ne (pc := 5) (tgt := 11) C dX10_sure_5 (by decide) (fun c102 => ?_) (fun c102 => ?_)
  · rw [if_neg c102] at h
    refine y_aload_n (pc := 11) (q := 0) C dX10_sure_11 rfl rfl ?_
    obtain ⟨q103, eq103, h⟩ := bdS h
    refine y_callV (pc := 12) (As := []) (rest := []) C (mX10_lacks (fu := fu) eq103) vwX10_137 rfl (by decide) hx0 rfl rfl (Nat.le_of_ble_eq_true rfl) ⟨Nat.le_of_ble_eq_true rfl, Nat.le_of_ble_eq_true rfl⟩ ⟨Nat.le_refl _, Nat.le_refl _⟩ dX10_sure_12 ?_
    show Y _ _ _ _ _ _ _ _ _ _ _ _ _ _ _ _ _ _ q103.2 15 [(0, .ref (ad x0)), (1, .int x1)] [.int q103.1]
    refine y_if_ne (pc := 15) (tgt := 27) C dX10_sure_15 (by decide) (fun c104 => ?_) (fun c104 => ?_)
    · rw [if_neg c104] at h
      exact tX10_sure_27 (fu := fu) C hx0 h
    · rw [if_pos c104] at h
      refine y_aload_n (pc := 18) (q := 0) C dX10_sure_18 rfl rfl ?_
      refine y_geti (pc := 19) C faX10_212 rfl hx0 dX10_sure_19 ?_
      refine y_bipush (pc := 22) (v := (40 : Int32)) C dX10_sure_22 (by decide) ?_
      refine y_icmp_ne (pc := 24) (tgt := 30) C dX10_sure_24 (by decide) (fun c105 => ?_) (fun c105 => ?_)
      · rw [if_neg c105] at h
        refine y_aload_n (pc := 30) (q := 0) C dX10_sure_30 rfl rfl ?_
        refine y_dup (pc := 31) C dX10_sure_31 rfl ?_
        refine y_geti (pc := 32) C faX10_212 rfl hx0 dX10_sure_32 ?_
        refine y_iconst (pc := 35) (v := (1 : Int32)) C dX10_sure_35 (by decide) ?_
        refine y_iadd (pc := 36) C dX10_sure_36 ?_
        obtain ⟨σ106, eσ106, h⟩ := nmS h
        refine y_puti (pc := 37) C fpX10_212 rfl hx0 rfl rfl dX10_sure_37 ?_
        rw [← eσ106]
        refine y_iconst (pc := 40) (v := (0 : Int32)) C dX10_sure_40 (by decide) ?_
        refine y_istore_n (pc := 41) (lv' := [(2, .int (0 : Int32)), (0, .ref (ad x0)), (1, .int x1)]) C dX10_sure_41 rfl (by decide) rfl ?_
        refine y_iconst (pc := 42) (v := (1 : Int32)) C dX10_sure_42 (by decide) ?_
        refine y_istore_n (pc := 43) (lv' := [(3, .int (1 : Int32)), (2, .int (0 : Int32)), (0, .ref (ad x0)), (1, .int x1)]) C dX10_sure_43 rfl (by decide) rfl ?_
        refine y_aload_n (pc := 44) (q := 2) C dX10_sure_44 rfl rfl ?_
        obtain ⟨q107, eq107, h⟩ := bdS h
        refine y_callV (pc := 45) (As := []) (rest := []) C (mX10_firstOrder (fu := fu) eq107) vwX10_169 rfl (by decide) hx0 rfl rfl (Nat.le_of_ble_eq_true rfl) ⟨Nat.le_of_ble_eq_true rfl, Nat.le_of_ble_eq_true rfl⟩ ⟨Nat.le_refl _, Nat.le_refl _⟩ dX10_sure_45 ?_
        show Y _ _ _ _ _ _ _ _ _ _ _ _ _ _ _ _ _ _ q107 48 [(3, .int (1 : Int32)), (2, .int (0 : Int32)), (0, .ref (ad x0)), (1, .int x1)] []
        refine y_sub [2, 3, 1, 0] (lv' := [(0, .ref (ad x0)), (1, .int x1), (2, .int (0 : Int32)), (3, .int (1 : Int32))]) rfl ?_
        exact tX10_sure_48 (fu := fu) C hx0 fu _ _ _ h
      · rw [if_pos c105] at h
        exact tX10_sure_27 (fu := fu) C hx0 h
  · rw [if_pos c102] at h
    refine y_bipush (pc := 8) (v := (-101 : Int32)) C dX10_sure_8 (by decide) ?_
    cases h
    exact y_iret (pc := 10) C dX10_sure_10
noncomputable def fX10_sure (fu : Nat) (x0 : Nat) (x1 : Int32) (σ : St) : Option (Int32 × St) := if xk x0 = 8 then fX10_sure_0 fu x0 x1 σ else none
theorem mX10_sure {l : Launch} {D : va_G} {cA : ClassId} {bs fu : Nat} {ad : Nat → Nat} {x0 : Nat} {x1 : Int32} {σ : St} {q : Int32 × St} (h : fX10_sure fu x0 x1 σ = some q) : Ct l D cA bs ad yX10_sure cX10_sure 5 (some .int) 2 46 [.ref (ad x0), .int x1] σ (some (.int q.1)) q.2 := by
  unfold fX10_sure at h
  by_cases hx0 : xk x0 = 8
  case neg => rw [if_neg hx0] at h; cases h
  rw [if_pos hx0] at h
  exact Ct.of (by decide) (Nat.le_of_ble_eq_true rfl) (fun p e s m args below meth c C => tX10_sure_0 (fu := fu) C hx0 h)
noncomputable def fX10_oneSpring_48 (fu : Nat) (x0 : Nat) (σ : St) : Option (St) :=
  (fX10_yearOn fu x0 (rf x0 20) (rf x0 22) σ).bind fun (q101 : St) =>
  some q101
set_option maxHeartbeats 4000000 in
set_option maxRecDepth 100000 in
theorem tX10_oneSpring_48 {l : Launch} {D : va_G} {cA : ClassId} {bs : Nat} {ad : Nat → Nat} {p : Program} {e : Env} {s : State} {m : MethodId} {args : Array Value} {below : List Frame} {meth : Method} {c : Code} {fu : Nat} (C : Cx D cA bs ad RX10 cX10_oneSpring 2 none p s m args meth c) {x0 : Nat} {q : St} (hx0 : xk x0 = 8) {σ : St} (h : fX10_oneSpring_48 fu x0 σ = some q) : Y D cA bs ad p l e (rmY 3 76) s m args below meth c 2 0 0 (QM D cA bs ad below args s none q) σ 48 [(0, .ref (ad x0))] [] := by
  unfold fX10_oneSpring_48 at h
  refine y_aload_n (pc := 48) (q := 0) C dX10_oneSpring_48 rfl rfl ?_
  refine y_aload_n (pc := 49) (q := 0) C dX10_oneSpring_49 rfl rfl ?_
  refine y_getr (pc := 50) C faX10_34 rfl hx0 dX10_oneSpring_50 ?_
  refine y_aload_n (pc := 53) (q := 0) C dX10_oneSpring_53 rfl rfl ?_
  refine y_getr (pc := 54) C faX10_40 rfl hx0 dX10_oneSpring_54 ?_
  obtain ⟨q101, eq101, h⟩ := bdS h
  refine y_callV (pc := 57) (As := [.ref (ad (rf x0 20)), .ref (ad (rf x0 22))]) (rest := []) C (mX10_yearOn (fu := fu) eq101) vwX10_158 rfl (by decide) hx0 rfl rfl (Nat.le_of_ble_eq_true rfl) ⟨Nat.le_of_ble_eq_true rfl, Nat.le_of_ble_eq_true rfl⟩ ⟨Nat.le_refl _, Nat.le_refl _⟩ dX10_oneSpring_57 ?_
  show Y _ _ _ _ _ _ _ _ _ _ _ _ _ _ _ _ _ _ q101 60 [(0, .ref (ad x0))] []
  cases h
  exact y_vret (pc := 60) C dX10_oneSpring_60
noncomputable def fX10_oneSpring_0 (fu : Nat) (x0 : Nat) (σ : St) : Option (St) :=
  (fX10_findBest fu x0 (rf x0 20) (rf x0 21) (rf x0 22) σ).bind fun (q101 : Int32 × St) =>
  if q101.1 ≤ 0 then
    fX10_oneSpring_48 fu x0 q101.2
  else
    (fX10_readOrder fu x0 (q101.2.1 x0 23) q101.2).bind fun (q103 : Int32 × St) =>
    if q103.1 = 0 then
      fX10_oneSpring_48 fu x0 q103.2
    else
      (fX10_layOn fu x0 (rf x0 20) (rf x0 21) (rf x0 22) q103.2).bind fun (q105 : St) =>
      fX10_oneSpring_48 fu x0 q105
set_option maxHeartbeats 4000000 in
set_option maxRecDepth 100000 in
theorem tX10_oneSpring_0 {l : Launch} {D : va_G} {cA : ClassId} {bs : Nat} {ad : Nat → Nat} {p : Program} {e : Env} {s : State} {m : MethodId} {args : Array Value} {below : List Frame} {meth : Method} {c : Code} {fu : Nat} (C : Cx D cA bs ad RX10 cX10_oneSpring 2 none p s m args meth c) {x0 : Nat} {q : St} (hx0 : xk x0 = 8) {σ : St} (h : fX10_oneSpring_0 fu x0 σ = some q) : Y D cA bs ad p l e (rmY 3 76) s m args below meth c 2 0 0 (QM D cA bs ad below args s none q) σ 0 [(0, .ref (ad x0))] [] := by
  unfold fX10_oneSpring_0 at h
  refine y_aload_n (pc := 0) (q := 0) C dX10_oneSpring_0 rfl rfl ?_
  refine y_aload_n (pc := 1) (q := 0) C dX10_oneSpring_1 rfl rfl ?_
  refine y_getr (pc := 2) C faX10_34 rfl hx0 dX10_oneSpring_2 ?_
  refine y_aload_n (pc := 5) (q := 0) C dX10_oneSpring_5 rfl rfl ?_
  refine y_getr (pc := 6) C faX10_37 rfl hx0 dX10_oneSpring_6 ?_
  refine y_aload_n (pc := 9) (q := 0) C dX10_oneSpring_9 rfl rfl ?_
  refine y_getr (pc := 10) C faX10_40 rfl hx0 dX10_oneSpring_10 ?_
  obtain ⟨q101, eq101, h⟩ := bdS h
  refine y_callV (pc := 13) (As := [.ref (ad (rf x0 20)), .ref (ad (rf x0 21)), .ref (ad (rf x0 22))]) (rest := []) C (mX10_findBest (fu := fu) eq101) vwX10_185 rfl (by decide) hx0 rfl rfl (Nat.le_of_ble_eq_true rfl) ⟨Nat.le_of_ble_eq_true rfl, Nat.le_of_ble_eq_true rfl⟩ ⟨Nat.le_refl _, Nat.le_refl _⟩ dX10_oneSpring_13 ?_
  show Y _ _ _ _ _ _ _ _ _ _ _ _ _ _ _ _ _ _ q101.2 16 [(0, .ref (ad x0))] [.int q101.1]
  refine y_istore_n (pc := 16) (lv' := [(1, .int q101.1), (0, .ref (ad x0))]) C dX10_oneSpring_16 rfl (by decide) rfl ?_
  refine y_iload_n (pc := 17) (q := 0) C dX10_oneSpring_17 rfl rfl ?_
  refine y_if_le (pc := 18) (tgt := 48) C dX10_oneSpring_18 (by decide) (fun c102 => ?_) (fun c102 => ?_)
  · rw [if_pos c102] at h
    refine y_sub [1] (lv' := [(0, .ref (ad x0))]) rfl ?_
    exact tX10_oneSpring_48 (fu := fu) C hx0 h
  · rw [if_neg c102] at h
    refine y_aload_n (pc := 21) (q := 1) C dX10_oneSpring_21 rfl rfl ?_
    refine y_aload_n (pc := 22) (q := 1) C dX10_oneSpring_22 rfl rfl ?_
    refine y_geti (pc := 23) C faX10_162 rfl hx0 dX10_oneSpring_23 ?_
    obtain ⟨q103, eq103, h⟩ := bdS h
    refine y_callV (pc := 26) (As := [.int (q101.2.1 x0 23)]) (rest := []) C (mX10_readOrder (fu := fu) eq103) vwX10_141 rfl (by decide) hx0 rfl rfl (Nat.le_of_ble_eq_true rfl) ⟨Nat.le_of_ble_eq_true rfl, Nat.le_of_ble_eq_true rfl⟩ ⟨Nat.le_refl _, Nat.le_refl _⟩ dX10_oneSpring_26 ?_
    show Y _ _ _ _ _ _ _ _ _ _ _ _ _ _ _ _ _ _ q103.2 29 [(1, .int q101.1), (0, .ref (ad x0))] [.int q103.1]
    refine y_if_eq (pc := 29) (tgt := 48) C dX10_oneSpring_29 (by decide) (fun c104 => ?_) (fun c104 => ?_)
    · rw [if_pos c104] at h
      refine y_sub [1] (lv' := [(0, .ref (ad x0))]) rfl ?_
      exact tX10_oneSpring_48 (fu := fu) C hx0 h
    · rw [if_neg c104] at h
      refine y_aload_n (pc := 32) (q := 1) C dX10_oneSpring_32 rfl rfl ?_
      refine y_aload_n (pc := 33) (q := 1) C dX10_oneSpring_33 rfl rfl ?_
      refine y_getr (pc := 34) C faX10_34 rfl hx0 dX10_oneSpring_34 ?_
      refine y_aload_n (pc := 37) (q := 1) C dX10_oneSpring_37 rfl rfl ?_
      refine y_getr (pc := 38) C faX10_37 rfl hx0 dX10_oneSpring_38 ?_
      refine y_aload_n (pc := 41) (q := 1) C dX10_oneSpring_41 rfl rfl ?_
      refine y_getr (pc := 42) C faX10_40 rfl hx0 dX10_oneSpring_42 ?_
      obtain ⟨q105, eq105, h⟩ := bdS h
      refine y_callV (pc := 45) (As := [.ref (ad (rf x0 20)), .ref (ad (rf x0 21)), .ref (ad (rf x0 22))]) (rest := []) C (mX10_layOn (fu := fu) eq105) vwX10_148 rfl (by decide) hx0 rfl rfl (Nat.le_of_ble_eq_true rfl) ⟨Nat.le_of_ble_eq_true rfl, Nat.le_of_ble_eq_true rfl⟩ ⟨Nat.le_refl _, Nat.le_refl _⟩ dX10_oneSpring_45 ?_
      show Y _ _ _ _ _ _ _ _ _ _ _ _ _ _ _ _ _ _ q105 48 [(1, .int q101.1), (0, .ref (ad x0))] []
      refine y_sub [1] (lv' := [(0, .ref (ad x0))]) rfl ?_
      exact tX10_oneSpring_48 (fu := fu) C hx0 h
noncomputable def fX10_oneSpring (fu : Nat) (x0 : Nat) (σ : St) : Option (St) := if xk x0 = 8 then fX10_oneSpring_0 fu x0 σ else none
theorem mX10_oneSpring {l : Launch} {D : va_G} {cA : ClassId} {bs fu : Nat} {ad : Nat → Nat} {x0 : Nat} {σ : St} {q : St} (h : fX10_oneSpring fu x0 σ = some q) : Ct l D cA bs ad yX10_oneSpring cX10_oneSpring 2 none 3 76 [.ref (ad x0)] σ none q := by
  unfold fX10_oneSpring at h
  by_cases hx0 : xk x0 = 8
  case neg => rw [if_neg hx0] at h; cases h
  rw [if_pos hx0] at h
  exact Ct.of (by decide) (Nat.le_of_ble_eq_true rfl) (fun p e s m args below meth c C => tX10_oneSpring_0 (fu := fu) C hx0 h)
noncomputable def fX10_burn_61 (fu : Nat) (k4 : Int32 → Int32 → St → Option (Int32 × St)) (x0 : Nat) (x1 : Int32) (x2 : Int32) (σ : St) : Option (Int32 × St) :=
  nm (x2 + (1 : Int32)) fun (y101 : Int32) =>
  k4 x1 y101 σ
set_option maxHeartbeats 4000000 in
set_option maxRecDepth 100000 in
theorem tX10_burn_61 {l : Launch} {D : va_G} {cA : ClassId} {bs : Nat} {ad : Nat → Nat} {p : Program} {e : Env} {s : State} {m : MethodId} {args : Array Value} {below : List Frame} {meth : Method} {c : Code} {fu : Nat} (C : Cx D cA bs ad RX10 cX10_burn 3 (some .int) p s m args meth c) {k4 : Int32 → Int32 → St → Option (Int32 × St)} {x0 : Nat} {x1 : Int32} {x2 : Int32} {q : Int32 × St} (hx0 : xk x0 = 8) (hk4 : ∀ (x1 : Int32) (x2 : Int32) (σ : St), k4 x1 x2 σ = some q → Y D cA bs ad p l e (rmY 0 0) s m args below meth c 3 0 0 (QM D cA bs ad below args s (some (.int q.1)) q.2) σ 4 [(0, .ref (ad x0)), (1, .int x1), (2, .int x2)] []) {σ : St} (h : fX10_burn_61 fu k4 x0 x1 x2 σ = some q) : Y D cA bs ad p l e (rmY 0 0) s m args below meth c 3 0 0 (QM D cA bs ad below args s (some (.int q.1)) q.2) σ 61 [(0, .ref (ad x0)), (1, .int x1), (2, .int x2)] [] := by
  unfold fX10_burn_61 at h
  obtain ⟨y101, ey101, h⟩ := nmS h
  refine y_iinc (pc := 61) (v := y101) (k := 2) (lv' := [(2, .int y101), (0, .ref (ad x0)), (1, .int x1)]) C dX10_burn_61 rfl (by rw [ey101]; rfl) (by decide) rfl ?_
  refine y_goto (pc := 64) (tgt := 4) C dX10_burn_64 (by decide) ?_
  refine y_sub [1, 2, 0] (lv' := [(0, .ref (ad x0)), (1, .int x1), (2, .int y101)]) rfl ?_
  exact hk4 _ _ _ h
noncomputable def fX10_burn_4b (fu : Nat) (k4 : Int32 → Int32 → St → Option (Int32 × St)) (x0 : Nat) (x1 : Int32) (x2 : Int32) (σ : St) : Option (Int32 × St) :=
  if (σ.1 x0 12) ≤ x2 then
    some (x1, σ)
  else
    (ald σ (rf x0 20) 7 x2).bind fun (v102 : Int32) =>
    if v102 < ((100 : Int32) * (σ.1 x0 5)) then
      fX10_burn_61 fu k4 x0 x1 x2 σ
    else
      (ald σ (rf x0 21) 7 x2).bind fun (v104 : Int32) =>
      if v104 < ((100 : Int32) * (σ.1 x0 5)) then
        fX10_burn_61 fu k4 x0 x1 x2 σ
      else
        (ast σ (rf x0 20) 7 x2 (0 : Int32)).bind fun (σ106 : St) =>
        (ast σ106 (rf x0 21) 7 x2 (0 : Int32)).bind fun (σ107 : St) =>
        nm (x1 + (1 : Int32)) fun (y108 : Int32) =>
        fX10_burn_61 fu k4 x0 y108 x2 σ107
set_option maxHeartbeats 4000000 in
set_option maxRecDepth 100000 in
theorem tX10_burn_4b {l : Launch} {D : va_G} {cA : ClassId} {bs : Nat} {ad : Nat → Nat} {p : Program} {e : Env} {s : State} {m : MethodId} {args : Array Value} {below : List Frame} {meth : Method} {c : Code} {fu : Nat} (C : Cx D cA bs ad RX10 cX10_burn 3 (some .int) p s m args meth c) {k4 : Int32 → Int32 → St → Option (Int32 × St)} {x0 : Nat} {x1 : Int32} {x2 : Int32} {q : Int32 × St} (hx0 : xk x0 = 8) (hk4 : ∀ (x1 : Int32) (x2 : Int32) (σ : St), k4 x1 x2 σ = some q → Y D cA bs ad p l e (rmY 0 0) s m args below meth c 3 0 0 (QM D cA bs ad below args s (some (.int q.1)) q.2) σ 4 [(0, .ref (ad x0)), (1, .int x1), (2, .int x2)] []) {σ : St} (h : fX10_burn_4b fu k4 x0 x1 x2 σ = some q) : Y D cA bs ad p l e (rmY 0 0) s m args below meth c 3 0 0 (QM D cA bs ad below args s (some (.int q.1)) q.2) σ 4 [(0, .ref (ad x0)), (1, .int x1), (2, .int x2)] [] := by
  unfold fX10_burn_4b at h
  refine y_iload_n (pc := 4) (q := 2) C dX10_burn_4 rfl rfl ?_
  refine y_aload_n (pc := 5) (q := 0) C dX10_burn_5 rfl rfl ?_
  refine y_geti (pc := 6) C faX10_105 rfl hx0 dX10_burn_6 ?_
  refine y_icmp_ge (pc := 9) (tgt := 67) C dX10_burn_9 (by decide) (fun c101 => ?_) (fun c101 => ?_)
  · rw [if_pos c101] at h
    refine y_iload_n (pc := 67) (q := 1) C dX10_burn_67 rfl rfl ?_
    cases h
    exact y_iret (pc := 68) C dX10_burn_68
  · rw [if_neg c101] at h
    refine y_aload_n (pc := 12) (q := 0) C dX10_burn_12 rfl rfl ?_
    refine y_getr (pc := 13) C faX10_34 rfl hx0 dX10_burn_13 ?_
    refine y_iload_n (pc := 16) (q := 2) C dX10_burn_16 rfl rfl ?_
    obtain ⟨v102, ev102, h⟩ := bdS h
    refine y_iald (pc := 17) (n := 7) C (rf_8_20 _ hx0) (by decide) ev102 dX10_burn_17 ?_
    refine y_bipush (pc := 18) (v := (100 : Int32)) C dX10_burn_18 (by decide) ?_
    refine y_aload_n (pc := 20) (q := 0) C dX10_burn_20 rfl rfl ?_
    refine y_geti (pc := 21) C faX10_50 rfl hx0 dX10_burn_21 ?_
    refine y_imul (pc := 24) C dX10_burn_24 ?_
    refine y_icmp_lt (pc := 25) (tgt := 61) C dX10_burn_25 (by decide) (fun c103 => ?_) (fun c103 => ?_)
    · rw [if_pos c103] at h
      exact tX10_burn_61 (fu := fu) C hx0 hk4 h
    · rw [if_neg c103] at h
      refine y_aload_n (pc := 28) (q := 0) C dX10_burn_28 rfl rfl ?_
      refine y_getr (pc := 29) C faX10_37 rfl hx0 dX10_burn_29 ?_
      refine y_iload_n (pc := 32) (q := 2) C dX10_burn_32 rfl rfl ?_
      obtain ⟨v104, ev104, h⟩ := bdS h
      refine y_iald (pc := 33) (n := 7) C (rf_8_21 _ hx0) (by decide) ev104 dX10_burn_33 ?_
      refine y_bipush (pc := 34) (v := (100 : Int32)) C dX10_burn_34 (by decide) ?_
      refine y_aload_n (pc := 36) (q := 0) C dX10_burn_36 rfl rfl ?_
      refine y_geti (pc := 37) C faX10_50 rfl hx0 dX10_burn_37 ?_
      refine y_imul (pc := 40) C dX10_burn_40 ?_
      refine y_icmp_lt (pc := 41) (tgt := 61) C dX10_burn_41 (by decide) (fun c105 => ?_) (fun c105 => ?_)
      · rw [if_pos c105] at h
        exact tX10_burn_61 (fu := fu) C hx0 hk4 h
      · rw [if_neg c105] at h
        refine y_aload_n (pc := 44) (q := 0) C dX10_burn_44 rfl rfl ?_
        refine y_getr (pc := 45) C faX10_34 rfl hx0 dX10_burn_45 ?_
        refine y_iload_n (pc := 48) (q := 2) C dX10_burn_48 rfl rfl ?_
        refine y_iconst (pc := 49) (v := (0 : Int32)) C dX10_burn_49 (by decide) ?_
        obtain ⟨σ106, eσ106, h⟩ := bdS h
        refine y_iast (pc := 50) (n := 7) C (rf_8_20 _ hx0) (by decide) eσ106 dX10_burn_50 ?_
        refine y_aload_n (pc := 51) (q := 0) C dX10_burn_51 rfl rfl ?_
        refine y_getr (pc := 52) C faX10_37 rfl hx0 dX10_burn_52 ?_
        refine y_iload_n (pc := 55) (q := 2) C dX10_burn_55 rfl rfl ?_
        refine y_iconst (pc := 56) (v := (0 : Int32)) C dX10_burn_56 (by decide) ?_
        obtain ⟨σ107, eσ107, h⟩ := bdS h
        refine y_iast (pc := 57) (n := 7) C (rf_8_21 _ hx0) (by decide) eσ107 dX10_burn_57 ?_
        obtain ⟨y108, ey108, h⟩ := nmS h
        refine y_iinc (pc := 58) (v := y108) (k := 1) (lv' := [(1, .int y108), (0, .ref (ad x0)), (2, .int x2)]) C dX10_burn_58 rfl (by rw [ey108]; rfl) (by decide) rfl ?_
        refine y_sub [1, 0, 2] (lv' := [(0, .ref (ad x0)), (1, .int y108), (2, .int x2)]) rfl ?_
        exact tX10_burn_61 (fu := fu) C hx0 hk4 h
noncomputable def fX10_burn_4 (fu : Nat) (x0 : Nat) : Nat → Int32 → Int32 → St → Option (Int32 × St) := lp (fun k4 => fX10_burn_4b fu k4 x0) (fun _ _ _ => none)
set_option maxHeartbeats 4000000 in
theorem tX10_burn_4 {l : Launch} {D : va_G} {cA : ClassId} {bs : Nat} {ad : Nat → Nat} {p : Program} {e : Env} {s : State} {m : MethodId} {args : Array Value} {below : List Frame} {meth : Method} {c : Code} {fu : Nat} (C : Cx D cA bs ad RX10 cX10_burn 3 (some .int) p s m args meth c) {x0 : Nat} {q : Int32 × St} (hx0 : xk x0 = 8)  : ∀ (n : Nat) (x1 : Int32) (x2 : Int32) (σ : St), fX10_burn_4 fu  x0 n x1 x2 σ = some q → Y D cA bs ad p l e (rmY 0 0) s m args below meth c 3 0 0 (QM D cA bs ad below args s (some (.int q.1)) q.2) σ 4 [(0, .ref (ad x0)), (1, .int x1), (2, .int x2)] [] := by
  intro n
  induction n with
  | zero => intro x1 x2 σ h; cases h
  | succ n ih => intro x1 x2 σ h; exact tX10_burn_4b (fu := fu) C hx0 ih h
noncomputable def fX10_burn_0 (fu : Nat) (x0 : Nat) (σ : St) : Option (Int32 × St) :=
  fX10_burn_4 fu x0 fu (0 : Int32) (0 : Int32) σ
set_option maxHeartbeats 4000000 in
set_option maxRecDepth 100000 in
theorem tX10_burn_0 {l : Launch} {D : va_G} {cA : ClassId} {bs : Nat} {ad : Nat → Nat} {p : Program} {e : Env} {s : State} {m : MethodId} {args : Array Value} {below : List Frame} {meth : Method} {c : Code} {fu : Nat} (C : Cx D cA bs ad RX10 cX10_burn 3 (some .int) p s m args meth c) {x0 : Nat} {q : Int32 × St} (hx0 : xk x0 = 8) {σ : St} (h : fX10_burn_0 fu x0 σ = some q) : Y D cA bs ad p l e (rmY 0 0) s m args below meth c 3 0 0 (QM D cA bs ad below args s (some (.int q.1)) q.2) σ 0 [(0, .ref (ad x0))] [] := by
  unfold fX10_burn_0 at h
  refine y_iconst (pc := 0) (v := (0 : Int32)) C dX10_burn_0 (by decide) ?_
  refine y_istore_n (pc := 1) (lv' := [(1, .int (0 : Int32)), (0, .ref (ad x0))]) C dX10_burn_1 rfl (by decide) rfl ?_
  refine y_iconst (pc := 2) (v := (0 : Int32)) C dX10_burn_2 (by decide) ?_
  refine y_istore_n (pc := 3) (lv' := [(2, .int (0 : Int32)), (1, .int (0 : Int32)), (0, .ref (ad x0))]) C dX10_burn_3 rfl (by decide) rfl ?_
  refine y_sub [2, 1, 0] (lv' := [(0, .ref (ad x0)), (1, .int (0 : Int32)), (2, .int (0 : Int32))]) rfl ?_
  exact tX10_burn_4 (fu := fu) C hx0 fu _ _ _ h
noncomputable def fX10_burn (fu : Nat) (x0 : Nat) (σ : St) : Option (Int32 × St) := if xk x0 = 8 then fX10_burn_0 fu x0 σ else none
theorem mX10_burn {l : Launch} {D : va_G} {cA : ClassId} {bs fu : Nat} {ad : Nat → Nat} {x0 : Nat} {σ : St} {q : Int32 × St} (h : fX10_burn fu x0 σ = some q) : Ct l D cA bs ad yX10_burn cX10_burn 3 (some .int) 0 0 [.ref (ad x0)] σ (some (.int q.1)) q.2 := by
  unfold fX10_burn at h
  by_cases hx0 : xk x0 = 8
  case neg => rw [if_neg hx0] at h; cases h
  rw [if_pos hx0] at h
  exact Ct.of (by decide) (Nat.le_of_ble_eq_true rfl) (fun p e s m args below meth c C => tX10_burn_0 (fu := fu) C hx0 h)
noncomputable def fX10_springs_34 (fu : Nat) (x0 : Nat) (x1 : Int32) (x2 : Int32) (σ : St) : Option (Int32 × St) :=
  some ((-102 : Int32), σ)
set_option maxHeartbeats 4000000 in
set_option maxRecDepth 100000 in
theorem tX10_springs_34 {l : Launch} {D : va_G} {cA : ClassId} {bs : Nat} {ad : Nat → Nat} {p : Program} {e : Env} {s : State} {m : MethodId} {args : Array Value} {below : List Frame} {meth : Method} {c : Code} {fu : Nat} (C : Cx D cA bs ad RX10 cX10_springs 6 (some .int) p s m args meth c) {x0 : Nat} {x1 : Int32} {x2 : Int32} {q : Int32 × St} (hx0 : xk x0 = 8) {σ : St} (h : fX10_springs_34 fu x0 x1 x2 σ = some q) : Y D cA bs ad p l e (rmY 4 97) s m args below meth c 6 0 0 (QM D cA bs ad below args s (some (.int q.1)) q.2) σ 34 [(0, .ref (ad x0)), (1, .int x1), (2, .int x2)] [] := by
  unfold fX10_springs_34 at h
  refine y_bipush (pc := 34) (v := (-102 : Int32)) C dX10_springs_34 (by decide) ?_
  cases h
  exact y_iret (pc := 36) C dX10_springs_36
noncomputable def fX10_springs_151 (fu : Nat) (k117 : Int32 → Int32 → Int32 → St → Option (Int32 × St)) (x0 : Nat) (x1 : Int32) (x2 : Int32) (x3 : Int32) (x5 : Int32) (s0 : Int32) (σ : St) : Option (Int32 × St) :=
  nm (x5 + (1 : Int32)) fun (y101 : Int32) =>
  k117 x3 s0 y101 σ
set_option maxHeartbeats 4000000 in
set_option maxRecDepth 100000 in
theorem tX10_springs_151 {l : Launch} {D : va_G} {cA : ClassId} {bs : Nat} {ad : Nat → Nat} {p : Program} {e : Env} {s : State} {m : MethodId} {args : Array Value} {below : List Frame} {meth : Method} {c : Code} {fu : Nat} (C : Cx D cA bs ad RX10 cX10_springs 6 (some .int) p s m args meth c) {k117 : Int32 → Int32 → Int32 → St → Option (Int32 × St)} {x0 : Nat} {x1 : Int32} {x2 : Int32} {x3 : Int32} {x5 : Int32} {s0 : Int32} {q : Int32 × St} (hx0 : xk x0 = 8) (hk117 : ∀ (x3 : Int32) (x4 : Int32) (x5 : Int32) (σ : St), k117 x3 x4 x5 σ = some q → Y D cA bs ad p l e (rmY 4 97) s m args below meth c 6 0 0 (QM D cA bs ad below args s (some (.int q.1)) q.2) σ 117 [(0, .ref (ad x0)), (1, .int x1), (2, .int x2), (3, .int x3), (4, .int x4), (5, .int x5)] []) {σ : St} (h : fX10_springs_151 fu k117 x0 x1 x2 x3 x5 s0 σ = some q) : Y D cA bs ad p l e (rmY 4 97) s m args below meth c 6 0 0 (QM D cA bs ad below args s (some (.int q.1)) q.2) σ 151 [(0, .ref (ad x0)), (1, .int x1), (2, .int x2), (3, .int x3), (5, .int x5)] [.int s0] := by
  unfold fX10_springs_151 at h
  refine y_istore (pc := 151) (lv' := [(4, .int s0), (0, .ref (ad x0)), (1, .int x1), (2, .int x2), (3, .int x3), (5, .int x5)]) C dX10_springs_151 (by decide) rfl ?_
  obtain ⟨y101, ey101, h⟩ := nmS h
  refine y_iinc (pc := 153) (v := y101) (k := 5) (lv' := [(5, .int y101), (4, .int s0), (0, .ref (ad x0)), (1, .int x1), (2, .int x2), (3, .int x3)]) C dX10_springs_153 rfl (by rw [ey101]; rfl) (by decide) rfl ?_
  refine y_goto (pc := 156) (tgt := 117) C dX10_springs_156 (by decide) ?_
  refine y_sub [2, 3, 4, 5, 1, 0] (lv' := [(0, .ref (ad x0)), (1, .int x1), (2, .int x2), (3, .int x3), (4, .int s0), (5, .int y101)]) rfl ?_
  exact hk117 _ _ _ _ h
noncomputable def fX10_springs_149 (fu : Nat) (k117 : Int32 → Int32 → Int32 → St → Option (Int32 × St)) (x0 : Nat) (x1 : Int32) (x2 : Int32) (x3 : Int32) (x4 : Int32) (x5 : Int32) (σ : St) : Option (Int32 × St) :=
  fX10_springs_151 fu k117 x0 x1 x2 x3 x5 x4 σ
set_option maxHeartbeats 4000000 in
set_option maxRecDepth 100000 in
theorem tX10_springs_149 {l : Launch} {D : va_G} {cA : ClassId} {bs : Nat} {ad : Nat → Nat} {p : Program} {e : Env} {s : State} {m : MethodId} {args : Array Value} {below : List Frame} {meth : Method} {c : Code} {fu : Nat} (C : Cx D cA bs ad RX10 cX10_springs 6 (some .int) p s m args meth c) {k117 : Int32 → Int32 → Int32 → St → Option (Int32 × St)} {x0 : Nat} {x1 : Int32} {x2 : Int32} {x3 : Int32} {x4 : Int32} {x5 : Int32} {q : Int32 × St} (hx0 : xk x0 = 8) (hk117 : ∀ (x3 : Int32) (x4 : Int32) (x5 : Int32) (σ : St), k117 x3 x4 x5 σ = some q → Y D cA bs ad p l e (rmY 4 97) s m args below meth c 6 0 0 (QM D cA bs ad below args s (some (.int q.1)) q.2) σ 117 [(0, .ref (ad x0)), (1, .int x1), (2, .int x2), (3, .int x3), (4, .int x4), (5, .int x5)] []) {σ : St} (h : fX10_springs_149 fu k117 x0 x1 x2 x3 x4 x5 σ = some q) : Y D cA bs ad p l e (rmY 4 97) s m args below meth c 6 0 0 (QM D cA bs ad below args s (some (.int q.1)) q.2) σ 149 [(0, .ref (ad x0)), (1, .int x1), (2, .int x2), (3, .int x3), (4, .int x4), (5, .int x5)] [] := by
  unfold fX10_springs_149 at h
  refine y_iload (pc := 149) (q := 4) C dX10_springs_149 rfl ?_
  refine y_sub [0, 1, 2, 3, 5] (lv' := [(0, .ref (ad x0)), (1, .int x1), (2, .int x2), (3, .int x3), (5, .int x5)]) rfl ?_
  exact tX10_springs_151 (fu := fu) C hx0 hk117 h
noncomputable def fX10_springs_185 (fu : Nat) (x0 : Nat) (x1 : Int32) (x2 : Int32) (s0 : Int32) (σ : St) : Option (Int32 × St) :=
  some (s0, σ)
set_option maxHeartbeats 4000000 in
set_option maxRecDepth 100000 in
theorem tX10_springs_185 {l : Launch} {D : va_G} {cA : ClassId} {bs : Nat} {ad : Nat → Nat} {p : Program} {e : Env} {s : State} {m : MethodId} {args : Array Value} {below : List Frame} {meth : Method} {c : Code} {fu : Nat} (C : Cx D cA bs ad RX10 cX10_springs 6 (some .int) p s m args meth c) {x0 : Nat} {x1 : Int32} {x2 : Int32} {s0 : Int32} {q : Int32 × St} (hx0 : xk x0 = 8) {σ : St} (h : fX10_springs_185 fu x0 x1 x2 s0 σ = some q) : Y D cA bs ad p l e (rmY 4 97) s m args below meth c 6 0 0 (QM D cA bs ad below args s (some (.int q.1)) q.2) σ 185 [(0, .ref (ad x0)), (1, .int x1), (2, .int x2)] [.int s0] := by
  unfold fX10_springs_185 at h
  cases h
  exact y_iret (pc := 185) C dX10_springs_185
noncomputable def fX10_springs_117b (fu : Nat) (k117 : Int32 → Int32 → Int32 → St → Option (Int32 × St)) (x0 : Nat) (x1 : Int32) (x2 : Int32) (x3 : Int32) (x4 : Int32) (x5 : Int32) (σ : St) : Option (Int32 × St) :=
  if x1 < x5 then
    if x2 = 0 then
      fX10_springs_185 fu x0 x1 x2 x3 σ
    else
      if x2 = (1 : Int32) then
        fX10_springs_185 fu x0 x1 x2 x4 σ
      else
        (fX10_worstOf fu x0 (rf x0 20) σ).bind fun (q104 : Int32 × St) =>
        fX10_springs_185 fu x0 x1 x2 q104.1 q104.2
  else
    (fX10_oneSpring fu x0 σ).bind fun (q105 : St) =>
    (fX10_burn fu x0 q105).bind fun (q106 : Int32 × St) =>
    nm (x3 + q106.1) fun (y107 : Int32) =>
    if x4 = (-1 : Int32) then
      if y107 ≤ 0 then
        fX10_springs_149 fu k117 x0 x1 x2 y107 x4 x5 q106.2
      else
        fX10_springs_151 fu k117 x0 x1 x2 y107 x5 x5 q106.2
    else
      fX10_springs_149 fu k117 x0 x1 x2 y107 x4 x5 q106.2
set_option maxHeartbeats 4000000 in
set_option maxRecDepth 100000 in
theorem tX10_springs_117b {l : Launch} {D : va_G} {cA : ClassId} {bs : Nat} {ad : Nat → Nat} {p : Program} {e : Env} {s : State} {m : MethodId} {args : Array Value} {below : List Frame} {meth : Method} {c : Code} {fu : Nat} (C : Cx D cA bs ad RX10 cX10_springs 6 (some .int) p s m args meth c) {k117 : Int32 → Int32 → Int32 → St → Option (Int32 × St)} {x0 : Nat} {x1 : Int32} {x2 : Int32} {x3 : Int32} {x4 : Int32} {x5 : Int32} {q : Int32 × St} (hx0 : xk x0 = 8) (hk117 : ∀ (x3 : Int32) (x4 : Int32) (x5 : Int32) (σ : St), k117 x3 x4 x5 σ = some q → Y D cA bs ad p l e (rmY 4 97) s m args below meth c 6 0 0 (QM D cA bs ad below args s (some (.int q.1)) q.2) σ 117 [(0, .ref (ad x0)), (1, .int x1), (2, .int x2), (3, .int x3), (4, .int x4), (5, .int x5)] []) {σ : St} (h : fX10_springs_117b fu k117 x0 x1 x2 x3 x4 x5 σ = some q) : Y D cA bs ad p l e (rmY 4 97) s m args below meth c 6 0 0 (QM D cA bs ad below args s (some (.int q.1)) q.2) σ 117 [(0, .ref (ad x0)), (1, .int x1), (2, .int x2), (3, .int x3), (4, .int x4), (5, .int x5)] [] := by
  unfold fX10_springs_117b at h
  refine y_iload (pc := 117) (q := 5) C dX10_springs_117 rfl ?_
  refine y_iload_n (pc := 119) (q := 1) C dX10_springs_119 rfl rfl ?_
  refine y_icmp_gt (pc := 120) (tgt := 159) C dX10_springs_120 (by decide) (fun c101 => ?_) (fun c101 => ?_)
  · rw [if_pos c101] at h
    refine y_iload_n (pc := 159) (q := 2) C dX10_springs_159 rfl rfl ?_
    refine y_if_ne (pc := 160) (tgt := 167) C dX10_springs_160 (by decide) (fun c102 => ?_) (fun c102 => ?_)
    · rw [if_neg c102] at h
      refine y_iload_n (pc := 167) (q := 2) C dX10_springs_167 rfl rfl ?_
      refine y_iconst (pc := 168) (v := (1 : Int32)) C dX10_springs_168 (by decide) ?_
      refine y_icmp_ne (pc := 169) (tgt := 177) C dX10_springs_169 (by decide) (fun c103 => ?_) (fun c103 => ?_)
      · rw [if_neg c103] at h
        refine y_aload_n (pc := 177) (q := 0) C dX10_springs_177 rfl rfl ?_
        refine y_aload_n (pc := 178) (q := 0) C dX10_springs_178 rfl rfl ?_
        refine y_getr (pc := 179) C faX10_34 rfl hx0 dX10_springs_179 ?_
        obtain ⟨q104, eq104, h⟩ := bdS h
        refine y_callV (pc := 182) (As := [.ref (ad (rf x0 20))]) (rest := []) C (mX10_worstOf (fu := fu) eq104) vwX10_152 rfl (by decide) hx0 rfl rfl (Nat.le_of_ble_eq_true rfl) ⟨Nat.le_of_ble_eq_true rfl, Nat.le_of_ble_eq_true rfl⟩ ⟨Nat.le_refl _, Nat.le_refl _⟩ dX10_springs_182 ?_
        show Y _ _ _ _ _ _ _ _ _ _ _ _ _ _ _ _ _ _ q104.2 185 [(0, .ref (ad x0)), (1, .int x1), (2, .int x2), (3, .int x3), (4, .int x4), (5, .int x5)] [.int q104.1]
        refine y_sub [0, 1, 2] (lv' := [(0, .ref (ad x0)), (1, .int x1), (2, .int x2)]) rfl ?_
        exact tX10_springs_185 (fu := fu) C hx0 h
      · rw [if_pos c103] at h
        refine y_iload (pc := 172) (q := 4) C dX10_springs_172 rfl ?_
        refine y_goto (pc := 174) (tgt := 185) C dX10_springs_174 (by decide) ?_
        refine y_sub [0, 1, 2] (lv' := [(0, .ref (ad x0)), (1, .int x1), (2, .int x2)]) rfl ?_
        exact tX10_springs_185 (fu := fu) C hx0 h
    · rw [if_pos c102] at h
      refine y_iload_n (pc := 163) (q := 3) C dX10_springs_163 rfl rfl ?_
      refine y_goto (pc := 164) (tgt := 185) C dX10_springs_164 (by decide) ?_
      refine y_sub [0, 1, 2] (lv' := [(0, .ref (ad x0)), (1, .int x1), (2, .int x2)]) rfl ?_
      exact tX10_springs_185 (fu := fu) C hx0 h
  · rw [if_neg c101] at h
    refine y_aload_n (pc := 123) (q := 0) C dX10_springs_123 rfl rfl ?_
    obtain ⟨q105, eq105, h⟩ := bdS h
    refine y_callV (pc := 124) (As := []) (rest := []) C (mX10_oneSpring (fu := fu) eq105) vwX10_223 rfl (by decide) hx0 rfl rfl (Nat.le_of_ble_eq_true rfl) ⟨Nat.le_of_ble_eq_true rfl, Nat.le_of_ble_eq_true rfl⟩ ⟨Nat.le_refl _, Nat.le_refl _⟩ dX10_springs_124 ?_
    show Y _ _ _ _ _ _ _ _ _ _ _ _ _ _ _ _ _ _ q105 127 [(0, .ref (ad x0)), (1, .int x1), (2, .int x2), (3, .int x3), (4, .int x4), (5, .int x5)] []
    refine y_iload_n (pc := 127) (q := 3) C dX10_springs_127 rfl rfl ?_
    refine y_aload_n (pc := 128) (q := 0) C dX10_springs_128 rfl rfl ?_
    obtain ⟨q106, eq106, h⟩ := bdS h
    refine y_callV (pc := 129) (As := []) (rest := [.int x3]) C (mX10_burn (fu := fu) eq106) vwX10_226 rfl (by decide) hx0 rfl rfl (Nat.le_of_ble_eq_true rfl) ⟨Nat.le_of_ble_eq_true rfl, Nat.le_of_ble_eq_true rfl⟩ ⟨Nat.le_refl _, Nat.le_refl _⟩ dX10_springs_129 ?_
    show Y _ _ _ _ _ _ _ _ _ _ _ _ _ _ _ _ _ _ q106.2 132 [(0, .ref (ad x0)), (1, .int x1), (2, .int x2), (3, .int x3), (4, .int x4), (5, .int x5)] [.int q106.1, .int x3]
    refine y_iadd (pc := 132) C dX10_springs_132 ?_
    obtain ⟨y107, ey107, h⟩ := nmS h
    refine y_nmI y107 ey107 ?_
    refine y_istore_n (pc := 133) (lv' := [(3, .int y107), (0, .ref (ad x0)), (1, .int x1), (2, .int x2), (4, .int x4), (5, .int x5)]) C dX10_springs_133 rfl (by decide) rfl ?_
    refine y_iload (pc := 134) (q := 4) C dX10_springs_134 rfl ?_
    refine y_iconst (pc := 136) (v := (-1 : Int32)) C dX10_springs_136 (by decide) ?_
    refine y_icmp_ne (pc := 137) (tgt := 149) C dX10_springs_137 (by decide) (fun c108 => ?_) (fun c108 => ?_)
    · rw [if_neg c108] at h
      refine y_sub [1, 2, 3, 0, 4, 5] (lv' := [(0, .ref (ad x0)), (1, .int x1), (2, .int x2), (3, .int y107), (4, .int x4), (5, .int x5)]) rfl ?_
      exact tX10_springs_149 (fu := fu) C hx0 hk117 h
    · rw [if_pos c108] at h
      refine y_iload_n (pc := 140) (q := 0) C dX10_springs_140 rfl rfl ?_
      refine y_if_le (pc := 141) (tgt := 149) C dX10_springs_141 (by decide) (fun c109 => ?_) (fun c109 => ?_)
      · rw [if_pos c109] at h
        refine y_sub [1, 2, 3, 0, 4, 5] (lv' := [(0, .ref (ad x0)), (1, .int x1), (2, .int x2), (3, .int y107), (4, .int x4), (5, .int x5)]) rfl ?_
        exact tX10_springs_149 (fu := fu) C hx0 hk117 h
      · rw [if_neg c109] at h
        refine y_iload (pc := 144) (q := 5) C dX10_springs_144 rfl ?_
        refine y_goto (pc := 146) (tgt := 151) C dX10_springs_146 (by decide) ?_
        refine y_sub [1, 2, 3, 0, 5] (lv' := [(0, .ref (ad x0)), (1, .int x1), (2, .int x2), (3, .int y107), (5, .int x5)]) rfl ?_
        exact tX10_springs_151 (fu := fu) C hx0 hk117 h
noncomputable def fX10_springs_117 (fu : Nat) (x0 : Nat) (x1 : Int32) (x2 : Int32) : Nat → Int32 → Int32 → Int32 → St → Option (Int32 × St) := lp (fun k117 => fX10_springs_117b fu k117 x0 x1 x2) (fun _ _ _ _ => none)
set_option maxHeartbeats 4000000 in
theorem tX10_springs_117 {l : Launch} {D : va_G} {cA : ClassId} {bs : Nat} {ad : Nat → Nat} {p : Program} {e : Env} {s : State} {m : MethodId} {args : Array Value} {below : List Frame} {meth : Method} {c : Code} {fu : Nat} (C : Cx D cA bs ad RX10 cX10_springs 6 (some .int) p s m args meth c) {x0 : Nat} {x1 : Int32} {x2 : Int32} {q : Int32 × St} (hx0 : xk x0 = 8)  : ∀ (n : Nat) (x3 : Int32) (x4 : Int32) (x5 : Int32) (σ : St), fX10_springs_117 fu  x0 x1 x2 n x3 x4 x5 σ = some q → Y D cA bs ad p l e (rmY 4 97) s m args below meth c 6 0 0 (QM D cA bs ad below args s (some (.int q.1)) q.2) σ 117 [(0, .ref (ad x0)), (1, .int x1), (2, .int x2), (3, .int x3), (4, .int x4), (5, .int x5)] [] := by
  intro n
  induction n with
  | zero => intro x3 x4 x5 σ h; cases h
  | succ n ih => intro x3 x4 x5 σ h; exact tX10_springs_117b (fu := fu) C hx0 ih h
noncomputable def fX10_springs_61b (fu : Nat) (k61 : Int32 → St → Option (Int32 × St)) (x0 : Nat) (x1 : Int32) (x2 : Int32) (x3 : Int32) (σ : St) : Option (Int32 × St) :=
  if (7 : Int32) ≤ x3 then
    fX10_springs_117 fu x0 x1 x2 fu (0 : Int32) (-1 : Int32) (1 : Int32) σ
  else
    (ald σ (rf x0 14) 7 x3).bind fun (v102 : Int32) =>
    (ast σ (rf x0 20) 7 x3 v102).bind fun (σ103 : St) =>
    (ald σ103 (rf x0 15) 7 x3).bind fun (v104 : Int32) =>
    (ast σ103 (rf x0 21) 7 x3 v104).bind fun (σ105 : St) =>
    (ald σ105 (rf x0 16) 7 x3).bind fun (v106 : Int32) =>
    (ast σ105 (rf x0 22) 7 x3 v106).bind fun (σ107 : St) =>
    nm (x3 + (1 : Int32)) fun (y108 : Int32) =>
    k61 y108 σ107
set_option maxHeartbeats 4000000 in
set_option maxRecDepth 100000 in
theorem tX10_springs_61b {l : Launch} {D : va_G} {cA : ClassId} {bs : Nat} {ad : Nat → Nat} {p : Program} {e : Env} {s : State} {m : MethodId} {args : Array Value} {below : List Frame} {meth : Method} {c : Code} {fu : Nat} (C : Cx D cA bs ad RX10 cX10_springs 6 (some .int) p s m args meth c) {k61 : Int32 → St → Option (Int32 × St)} {x0 : Nat} {x1 : Int32} {x2 : Int32} {x3 : Int32} {q : Int32 × St} (hx0 : xk x0 = 8) (hk61 : ∀ (x3 : Int32) (σ : St), k61 x3 σ = some q → Y D cA bs ad p l e (rmY 4 97) s m args below meth c 6 0 0 (QM D cA bs ad below args s (some (.int q.1)) q.2) σ 61 [(0, .ref (ad x0)), (1, .int x1), (2, .int x2), (3, .int x3)] []) {σ : St} (h : fX10_springs_61b fu k61 x0 x1 x2 x3 σ = some q) : Y D cA bs ad p l e (rmY 4 97) s m args below meth c 6 0 0 (QM D cA bs ad below args s (some (.int q.1)) q.2) σ 61 [(0, .ref (ad x0)), (1, .int x1), (2, .int x2), (3, .int x3)] [] := by
  unfold fX10_springs_61b at h
  refine y_iload_n (pc := 61) (q := 3) C dX10_springs_61 rfl rfl ?_
  refine y_bipush (pc := 62) (v := (7 : Int32)) C dX10_springs_62 (by decide) ?_
  refine y_icmp_ge (pc := 64) (tgt := 109) C dX10_springs_64 (by decide) (fun c101 => ?_) (fun c101 => ?_)
  · rw [if_pos c101] at h
    refine y_iconst (pc := 109) (v := (0 : Int32)) C dX10_springs_109 (by decide) ?_
    refine y_istore_n (pc := 110) (lv' := [(3, .int (0 : Int32)), (0, .ref (ad x0)), (1, .int x1), (2, .int x2)]) C dX10_springs_110 rfl (by decide) rfl ?_
    refine y_iconst (pc := 111) (v := (-1 : Int32)) C dX10_springs_111 (by decide) ?_
    refine y_istore (pc := 112) (lv' := [(4, .int (-1 : Int32)), (3, .int (0 : Int32)), (0, .ref (ad x0)), (1, .int x1), (2, .int x2)]) C dX10_springs_112 (by decide) rfl ?_
    refine y_iconst (pc := 114) (v := (1 : Int32)) C dX10_springs_114 (by decide) ?_
    refine y_istore (pc := 115) (lv' := [(5, .int (1 : Int32)), (4, .int (-1 : Int32)), (3, .int (0 : Int32)), (0, .ref (ad x0)), (1, .int x1), (2, .int x2)]) C dX10_springs_115 (by decide) rfl ?_
    refine y_sub [3, 4, 5, 2, 1, 0] (lv' := [(0, .ref (ad x0)), (1, .int x1), (2, .int x2), (3, .int (0 : Int32)), (4, .int (-1 : Int32)), (5, .int (1 : Int32))]) rfl ?_
    exact tX10_springs_117 (fu := fu) C hx0 fu _ _ _ _ h
  · rw [if_neg c101] at h
    refine y_aload_n (pc := 67) (q := 0) C dX10_springs_67 rfl rfl ?_
    refine y_getr (pc := 68) C faX10_34 rfl hx0 dX10_springs_68 ?_
    refine y_iload_n (pc := 71) (q := 3) C dX10_springs_71 rfl rfl ?_
    refine y_aload_n (pc := 72) (q := 0) C dX10_springs_72 rfl rfl ?_
    refine y_getr (pc := 73) C faX10_16 rfl hx0 dX10_springs_73 ?_
    refine y_iload_n (pc := 76) (q := 3) C dX10_springs_76 rfl rfl ?_
    obtain ⟨v102, ev102, h⟩ := bdS h
    refine y_iald (pc := 77) (n := 7) C (rf_8_14 _ hx0) (by decide) ev102 dX10_springs_77 ?_
    obtain ⟨σ103, eσ103, h⟩ := bdS h
    refine y_iast (pc := 78) (n := 7) C (rf_8_20 _ hx0) (by decide) eσ103 dX10_springs_78 ?_
    refine y_aload_n (pc := 79) (q := 0) C dX10_springs_79 rfl rfl ?_
    refine y_getr (pc := 80) C faX10_37 rfl hx0 dX10_springs_80 ?_
    refine y_iload_n (pc := 83) (q := 3) C dX10_springs_83 rfl rfl ?_
    refine y_aload_n (pc := 84) (q := 0) C dX10_springs_84 rfl rfl ?_
    refine y_getr (pc := 85) C faX10_19 rfl hx0 dX10_springs_85 ?_
    refine y_iload_n (pc := 88) (q := 3) C dX10_springs_88 rfl rfl ?_
    obtain ⟨v104, ev104, h⟩ := bdS h
    refine y_iald (pc := 89) (n := 7) C (rf_8_15 _ hx0) (by decide) ev104 dX10_springs_89 ?_
    obtain ⟨σ105, eσ105, h⟩ := bdS h
    refine y_iast (pc := 90) (n := 7) C (rf_8_21 _ hx0) (by decide) eσ105 dX10_springs_90 ?_
    refine y_aload_n (pc := 91) (q := 0) C dX10_springs_91 rfl rfl ?_
    refine y_getr (pc := 92) C faX10_40 rfl hx0 dX10_springs_92 ?_
    refine y_iload_n (pc := 95) (q := 3) C dX10_springs_95 rfl rfl ?_
    refine y_aload_n (pc := 96) (q := 0) C dX10_springs_96 rfl rfl ?_
    refine y_getr (pc := 97) C faX10_22 rfl hx0 dX10_springs_97 ?_
    refine y_iload_n (pc := 100) (q := 3) C dX10_springs_100 rfl rfl ?_
    obtain ⟨v106, ev106, h⟩ := bdS h
    refine y_iald (pc := 101) (n := 7) C (rf_8_16 _ hx0) (by decide) ev106 dX10_springs_101 ?_
    obtain ⟨σ107, eσ107, h⟩ := bdS h
    refine y_iast (pc := 102) (n := 7) C (rf_8_22 _ hx0) (by decide) eσ107 dX10_springs_102 ?_
    obtain ⟨y108, ey108, h⟩ := nmS h
    refine y_iinc (pc := 103) (v := y108) (k := 3) (lv' := [(3, .int y108), (0, .ref (ad x0)), (1, .int x1), (2, .int x2)]) C dX10_springs_103 rfl (by rw [ey108]; rfl) (by decide) rfl ?_
    refine y_goto (pc := 106) (tgt := 61) C dX10_springs_106 (by decide) ?_
    refine y_sub [1, 2, 3, 0] (lv' := [(0, .ref (ad x0)), (1, .int x1), (2, .int x2), (3, .int y108)]) rfl ?_
    exact hk61 _ _ h
noncomputable def fX10_springs_61 (fu : Nat) (x0 : Nat) (x1 : Int32) (x2 : Int32) : Nat → Int32 → St → Option (Int32 × St) := lp (fun k61 => fX10_springs_61b fu k61 x0 x1 x2) (fun _ _ => none)
set_option maxHeartbeats 4000000 in
theorem tX10_springs_61 {l : Launch} {D : va_G} {cA : ClassId} {bs : Nat} {ad : Nat → Nat} {p : Program} {e : Env} {s : State} {m : MethodId} {args : Array Value} {below : List Frame} {meth : Method} {c : Code} {fu : Nat} (C : Cx D cA bs ad RX10 cX10_springs 6 (some .int) p s m args meth c) {x0 : Nat} {x1 : Int32} {x2 : Int32} {q : Int32 × St} (hx0 : xk x0 = 8)  : ∀ (n : Nat) (x3 : Int32) (σ : St), fX10_springs_61 fu  x0 x1 x2 n x3 σ = some q → Y D cA bs ad p l e (rmY 4 97) s m args below meth c 6 0 0 (QM D cA bs ad below args s (some (.int q.1)) q.2) σ 61 [(0, .ref (ad x0)), (1, .int x1), (2, .int x2), (3, .int x3)] [] := by
  intro n
  induction n with
  | zero => intro x3 σ h; cases h
  | succ n ih => intro x3 σ h; exact tX10_springs_61b (fu := fu) C hx0 ih h
noncomputable def fX10_springs_0 (fu : Nat) (x0 : Nat) (x1 : Int32) (x2 : Int32) (σ : St) : Option (Int32 × St) :=
  (fX10_lacks fu x0 σ).bind fun (q101 : Int32 × St) =>
  if q101.1 = 0 then
    (fX10_in fu x1.toInt64 (1 : Int64) (12 : Int64) q101.2).bind fun (q103 : Int32 × St) =>
    if q103.1 = 0 then
      fX10_springs_34 fu x0 x1 x2 q103.2
    else
      (fX10_in fu x2.toInt64 (0 : Int64) (2 : Int64) q103.2).bind fun (q105 : Int32 × St) =>
      if q105.1 = 0 then
        fX10_springs_34 fu x0 x1 x2 q105.2
      else
        if (q105.2.1 x0 28) = (10 : Int32) then
          some ((-103 : Int32), q105.2)
        else
          nm (si q105.2 x0 28 ((q105.2.1 x0 28) + (1 : Int32))) fun (σ108 : St) =>
          fX10_springs_61 fu x0 x1 x2 fu (0 : Int32) σ108
  else
    some ((-103 : Int32), q101.2)
set_option maxHeartbeats 4000000 in
set_option maxRecDepth 100000 in
theorem tX10_springs_0 {l : Launch} {D : va_G} {cA : ClassId} {bs : Nat} {ad : Nat → Nat} {p : Program} {e : Env} {s : State} {m : MethodId} {args : Array Value} {below : List Frame} {meth : Method} {c : Code} {fu : Nat} (C : Cx D cA bs ad RX10 cX10_springs 6 (some .int) p s m args meth c) {x0 : Nat} {x1 : Int32} {x2 : Int32} {q : Int32 × St} (hx0 : xk x0 = 8) {σ : St} (h : fX10_springs_0 fu x0 x1 x2 σ = some q) : Y D cA bs ad p l e (rmY 4 97) s m args below meth c 6 0 0 (QM D cA bs ad below args s (some (.int q.1)) q.2) σ 0 [(0, .ref (ad x0)), (1, .int x1), (2, .int x2)] [] := by
  unfold fX10_springs_0 at h
  refine y_aload_n (pc := 0) (q := 0) C dX10_springs_0 rfl rfl ?_
  obtain ⟨q101, eq101, h⟩ := bdS h
  refine y_callV (pc := 1) (As := []) (rest := []) C (mX10_lacks (fu := fu) eq101) vwX10_137 rfl (by decide) hx0 rfl rfl (Nat.le_of_ble_eq_true rfl) ⟨Nat.le_of_ble_eq_true rfl, Nat.le_of_ble_eq_true rfl⟩ ⟨Nat.le_refl _, Nat.le_refl _⟩ dX10_springs_1 ?_
  show Y _ _ _ _ _ _ _ _ _ _ _ _ _ _ _ _ _ _ q101.2 4 [(0, .ref (ad x0)), (1, .int x1), (2, .int x2)] [.int q101.1]
  refine y_if_eq (pc := 4) (tgt := 10) C dX10_springs_4 (by decide) (fun c102 => ?_) (fun c102 => ?_)
  · rw [if_pos c102] at h
    refine y_iload_n (pc := 10) (q := 1) C dX10_springs_10 rfl rfl ?_
    refine y_i2l (pc := 11) C dX10_springs_11 ?_
    refine y_lconst (pc := 12) (v := (1 : Int64)) C dX10_springs_12 (by decide) ?_
    refine y_ldc2 (pc := 13) C dX10_springs_13 cwX10_218 ?_
    obtain ⟨q103, eq103, h⟩ := bdS h
    refine y_callS (pc := 16) (As := [.long x1.toInt64, .long (1 : Int64), .long (12 : Int64)]) (rest := []) C (mX10_in (fu := fu) eq103) vwX10_68 rfl rfl (Nat.le_of_ble_eq_true rfl) ⟨Nat.le_of_ble_eq_true rfl, Nat.le_of_ble_eq_true rfl⟩ ⟨Nat.le_refl _, Nat.le_refl _⟩ dX10_springs_16 ?_
    show Y _ _ _ _ _ _ _ _ _ _ _ _ _ _ _ _ _ _ q103.2 19 [(0, .ref (ad x0)), (1, .int x1), (2, .int x2)] [.int q103.1]
    refine y_if_eq (pc := 19) (tgt := 34) C dX10_springs_19 (by decide) (fun c104 => ?_) (fun c104 => ?_)
    · rw [if_pos c104] at h
      exact tX10_springs_34 (fu := fu) C hx0 h
    · rw [if_neg c104] at h
      refine y_iload_n (pc := 22) (q := 2) C dX10_springs_22 rfl rfl ?_
      refine y_i2l (pc := 23) C dX10_springs_23 ?_
      refine y_lconst (pc := 24) (v := (0 : Int64)) C dX10_springs_24 (by decide) ?_
      refine y_ldc2 (pc := 25) C dX10_springs_25 cwX10_189 ?_
      obtain ⟨q105, eq105, h⟩ := bdS h
      refine y_callS (pc := 28) (As := [.long x2.toInt64, .long (0 : Int64), .long (2 : Int64)]) (rest := []) C (mX10_in (fu := fu) eq105) vwX10_68 rfl rfl (Nat.le_of_ble_eq_true rfl) ⟨Nat.le_of_ble_eq_true rfl, Nat.le_of_ble_eq_true rfl⟩ ⟨Nat.le_refl _, Nat.le_refl _⟩ dX10_springs_28 ?_
      show Y _ _ _ _ _ _ _ _ _ _ _ _ _ _ _ _ _ _ q105.2 31 [(0, .ref (ad x0)), (1, .int x1), (2, .int x2)] [.int q105.1]
      refine y_if_ne (pc := 31) (tgt := 37) C dX10_springs_31 (by decide) (fun c106 => ?_) (fun c106 => ?_)
      · rw [if_neg c106] at h
        refine y_aload_n (pc := 37) (q := 0) C dX10_springs_37 rfl rfl ?_
        refine y_geti (pc := 38) C faX10_220 rfl hx0 dX10_springs_38 ?_
        refine y_bipush (pc := 41) (v := (10 : Int32)) C dX10_springs_41 (by decide) ?_
        refine y_icmp_ne (pc := 43) (tgt := 49) C dX10_springs_43 (by decide) (fun c107 => ?_) (fun c107 => ?_)
        · rw [if_neg c107] at h
          refine y_aload_n (pc := 49) (q := 0) C dX10_springs_49 rfl rfl ?_
          refine y_dup (pc := 50) C dX10_springs_50 rfl ?_
          refine y_geti (pc := 51) C faX10_220 rfl hx0 dX10_springs_51 ?_
          refine y_iconst (pc := 54) (v := (1 : Int32)) C dX10_springs_54 (by decide) ?_
          refine y_iadd (pc := 55) C dX10_springs_55 ?_
          obtain ⟨σ108, eσ108, h⟩ := nmS h
          refine y_puti (pc := 56) C fpX10_220 rfl hx0 rfl rfl dX10_springs_56 ?_
          rw [← eσ108]
          refine y_iconst (pc := 59) (v := (0 : Int32)) C dX10_springs_59 (by decide) ?_
          refine y_istore_n (pc := 60) (lv' := [(3, .int (0 : Int32)), (0, .ref (ad x0)), (1, .int x1), (2, .int x2)]) C dX10_springs_60 rfl (by decide) rfl ?_
          refine y_sub [1, 2, 3, 0] (lv' := [(0, .ref (ad x0)), (1, .int x1), (2, .int x2), (3, .int (0 : Int32))]) rfl ?_
          exact tX10_springs_61 (fu := fu) C hx0 fu _ _ h
        · rw [if_pos c107] at h
          refine y_bipush (pc := 46) (v := (-103 : Int32)) C dX10_springs_46 (by decide) ?_
          cases h
          exact y_iret (pc := 48) C dX10_springs_48
      · rw [if_pos c106] at h
        exact tX10_springs_34 (fu := fu) C hx0 h
  · rw [if_neg c102] at h
    refine y_bipush (pc := 7) (v := (-103 : Int32)) C dX10_springs_7 (by decide) ?_
    cases h
    exact y_iret (pc := 9) C dX10_springs_9
noncomputable def fX10_springs (fu : Nat) (x0 : Nat) (x1 : Int32) (x2 : Int32) (σ : St) : Option (Int32 × St) := if xk x0 = 8 then fX10_springs_0 fu x0 x1 x2 σ else none
theorem mX10_springs {l : Launch} {D : va_G} {cA : ClassId} {bs fu : Nat} {ad : Nat → Nat} {x0 : Nat} {x1 : Int32} {x2 : Int32} {σ : St} {q : Int32 × St} (h : fX10_springs fu x0 x1 x2 σ = some q) : Ct l D cA bs ad yX10_springs cX10_springs 6 (some .int) 4 97 [.ref (ad x0), .int x1, .int x2] σ (some (.int q.1)) q.2 := by
  unfold fX10_springs at h
  by_cases hx0 : xk x0 = 8
  case neg => rw [if_neg hx0] at h; cases h
  rw [if_pos hx0] at h
  exact Ct.of (by decide) (Nat.le_of_ble_eq_true rfl) (fun p e s m args below meth c C => tX10_springs_0 (fu := fu) C hx0 h)
