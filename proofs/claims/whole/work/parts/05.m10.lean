noncomputable def fX10_image_2b (fu : Nat) (k2 : Int32 → St → Option (Int32 × St)) (x0 : Nat) (x1 : Int32) (σ : St) : Option (Int32 × St) :=
  if (7 : Int32) ≤ x1 then
    nm (si σ x0 29 (σ.1 x0 12)) fun (σ102 : St) =>
    some ((σ102.1 x0 12), σ102)
  else
    (ald σ (rf x0 13) 7 x1).bind fun (v103 : Int32) =>
    (ast σ (rf x0 30) 42 ((6 : Int32) * x1) v103).bind fun (σ104 : St) =>
    (ald σ104 (rf x0 14) 7 x1).bind fun (v105 : Int32) =>
    (ast σ104 (rf x0 30) 42 (((6 : Int32) * x1) + (1 : Int32)) v105).bind fun (σ106 : St) =>
    (ald σ106 (rf x0 15) 7 x1).bind fun (v107 : Int32) =>
    (ast σ106 (rf x0 30) 42 (((6 : Int32) * x1) + (2 : Int32)) v107).bind fun (σ108 : St) =>
    (ald σ108 (rf x0 16) 7 x1).bind fun (v109 : Int32) =>
    (ast σ108 (rf x0 30) 42 (((6 : Int32) * x1) + (3 : Int32)) v109).bind fun (σ110 : St) =>
    (ald σ110 (rf x0 17) 7 x1).bind fun (v111 : Int32) =>
    (ast σ110 (rf x0 30) 42 (((6 : Int32) * x1) + (4 : Int32)) v111).bind fun (σ112 : St) =>
    (ald σ112 (rf x0 18) 7 x1).bind fun (v113 : Int32) =>
    (ast σ112 (rf x0 30) 42 (((6 : Int32) * x1) + (5 : Int32)) v113).bind fun (σ114 : St) =>
    nm (x1 + (1 : Int32)) fun (y115 : Int32) =>
    k2 y115 σ114
set_option maxHeartbeats 4000000 in
set_option maxRecDepth 100000 in
theorem tX10_image_2b {l : Launch} {D : va_G} {cA : ClassId} {bs : Nat} {ad : Nat → Nat} {p : Program} {e : Env} {s : State} {m : MethodId} {args : Array Value} {below : List Frame} {meth : Method} {c : Code} {fu : Nat} (C : Cx D cA bs ad RX10 cX10_image 2 (some .int) p s m args meth c) {k2 : Int32 → St → Option (Int32 × St)} {x0 : Nat} {x1 : Int32} {q : Int32 × St} (hx0 : xk x0 = 8) (hk2 : ∀ (x1 : Int32) (σ : St), k2 x1 σ = some q → Y D cA bs ad p l e (rmY 0 0) s m args below meth c 2 0 0 (QM D cA bs ad below args s (some (.int q.1)) q.2) σ 2 [(0, .ref (ad x0)), (1, .int x1)] []) {σ : St} (h : fX10_image_2b fu k2 x0 x1 σ = some q) : Y D cA bs ad p l e (rmY 0 0) s m args below meth c 2 0 0 (QM D cA bs ad below args s (some (.int q.1)) q.2) σ 2 [(0, .ref (ad x0)), (1, .int x1)] [] := by
  unfold fX10_image_2b at h
  refine y_iload_n (pc := 2) (q := 1) C dX10_image_2 rfl rfl ?_
  refine y_bipush (pc := 3) (v := (7 : Int32)) C dX10_image_3 (by decide) ?_
  refine y_icmp_ge (pc := 5) (tgt := 114) C dX10_image_5 (by decide) (fun c101 => ?_) (fun c101 => ?_)
  · rw [if_pos c101] at h
    refine y_aload_n (pc := 114) (q := 0) C dX10_image_114 rfl rfl ?_
    refine y_aload_n (pc := 115) (q := 0) C dX10_image_115 rfl rfl ?_
    refine y_geti (pc := 116) C faX10_105 rfl hx0 dX10_image_116 ?_
    obtain ⟨σ102, eσ102, h⟩ := nmS h
    refine y_puti (pc := 119) C fpX10_46 rfl hx0 rfl rfl dX10_image_119 ?_
    rw [← eσ102]
    refine y_aload_n (pc := 122) (q := 0) C dX10_image_122 rfl rfl ?_
    refine y_geti (pc := 123) C faX10_105 rfl hx0 dX10_image_123 ?_
    cases h
    exact y_iret (pc := 126) C dX10_image_126
  · rw [if_neg c101] at h
    refine y_aload_n (pc := 8) (q := 0) C dX10_image_8 rfl rfl ?_
    refine y_getr (pc := 9) C faX10_43 rfl hx0 dX10_image_9 ?_
    refine y_bipush (pc := 12) (v := (6 : Int32)) C dX10_image_12 (by decide) ?_
    refine y_iload_n (pc := 14) (q := 1) C dX10_image_14 rfl rfl ?_
    refine y_imul (pc := 15) C dX10_image_15 ?_
    refine y_aload_n (pc := 16) (q := 0) C dX10_image_16 rfl rfl ?_
    refine y_getr (pc := 17) C faX10_13 rfl hx0 dX10_image_17 ?_
    refine y_iload_n (pc := 20) (q := 1) C dX10_image_20 rfl rfl ?_
    obtain ⟨v103, ev103, h⟩ := bdS h
    refine y_iald (pc := 21) (n := 7) C (rf_8_13 _ hx0) (by decide) ev103 dX10_image_21 ?_
    obtain ⟨σ104, eσ104, h⟩ := bdS h
    refine y_iast (pc := 22) (n := 42) C (rf_8_30 _ hx0) (by decide) eσ104 dX10_image_22 ?_
    refine y_aload_n (pc := 23) (q := 0) C dX10_image_23 rfl rfl ?_
    refine y_getr (pc := 24) C faX10_43 rfl hx0 dX10_image_24 ?_
    refine y_bipush (pc := 27) (v := (6 : Int32)) C dX10_image_27 (by decide) ?_
    refine y_iload_n (pc := 29) (q := 1) C dX10_image_29 rfl rfl ?_
    refine y_imul (pc := 30) C dX10_image_30 ?_
    refine y_iconst (pc := 31) (v := (1 : Int32)) C dX10_image_31 (by decide) ?_
    refine y_iadd (pc := 32) C dX10_image_32 ?_
    refine y_aload_n (pc := 33) (q := 0) C dX10_image_33 rfl rfl ?_
    refine y_getr (pc := 34) C faX10_16 rfl hx0 dX10_image_34 ?_
    refine y_iload_n (pc := 37) (q := 1) C dX10_image_37 rfl rfl ?_
    obtain ⟨v105, ev105, h⟩ := bdS h
    refine y_iald (pc := 38) (n := 7) C (rf_8_14 _ hx0) (by decide) ev105 dX10_image_38 ?_
    obtain ⟨σ106, eσ106, h⟩ := bdS h
    refine y_iast (pc := 39) (n := 42) C (rf_8_30 _ hx0) (by decide) eσ106 dX10_image_39 ?_
    refine y_aload_n (pc := 40) (q := 0) C dX10_image_40 rfl rfl ?_
    refine y_getr (pc := 41) C faX10_43 rfl hx0 dX10_image_41 ?_
    refine y_bipush (pc := 44) (v := (6 : Int32)) C dX10_image_44 (by decide) ?_
    refine y_iload_n (pc := 46) (q := 1) C dX10_image_46 rfl rfl ?_
    refine y_imul (pc := 47) C dX10_image_47 ?_
    refine y_iconst (pc := 48) (v := (2 : Int32)) C dX10_image_48 (by decide) ?_
    refine y_iadd (pc := 49) C dX10_image_49 ?_
    refine y_aload_n (pc := 50) (q := 0) C dX10_image_50 rfl rfl ?_
    refine y_getr (pc := 51) C faX10_19 rfl hx0 dX10_image_51 ?_
    refine y_iload_n (pc := 54) (q := 1) C dX10_image_54 rfl rfl ?_
    obtain ⟨v107, ev107, h⟩ := bdS h
    refine y_iald (pc := 55) (n := 7) C (rf_8_15 _ hx0) (by decide) ev107 dX10_image_55 ?_
    obtain ⟨σ108, eσ108, h⟩ := bdS h
    refine y_iast (pc := 56) (n := 42) C (rf_8_30 _ hx0) (by decide) eσ108 dX10_image_56 ?_
    refine y_aload_n (pc := 57) (q := 0) C dX10_image_57 rfl rfl ?_
    refine y_getr (pc := 58) C faX10_43 rfl hx0 dX10_image_58 ?_
    refine y_bipush (pc := 61) (v := (6 : Int32)) C dX10_image_61 (by decide) ?_
    refine y_iload_n (pc := 63) (q := 1) C dX10_image_63 rfl rfl ?_
    refine y_imul (pc := 64) C dX10_image_64 ?_
    refine y_iconst (pc := 65) (v := (3 : Int32)) C dX10_image_65 (by decide) ?_
    refine y_iadd (pc := 66) C dX10_image_66 ?_
    refine y_aload_n (pc := 67) (q := 0) C dX10_image_67 rfl rfl ?_
    refine y_getr (pc := 68) C faX10_22 rfl hx0 dX10_image_68 ?_
    refine y_iload_n (pc := 71) (q := 1) C dX10_image_71 rfl rfl ?_
    obtain ⟨v109, ev109, h⟩ := bdS h
    refine y_iald (pc := 72) (n := 7) C (rf_8_16 _ hx0) (by decide) ev109 dX10_image_72 ?_
    obtain ⟨σ110, eσ110, h⟩ := bdS h
    refine y_iast (pc := 73) (n := 42) C (rf_8_30 _ hx0) (by decide) eσ110 dX10_image_73 ?_
    refine y_aload_n (pc := 74) (q := 0) C dX10_image_74 rfl rfl ?_
    refine y_getr (pc := 75) C faX10_43 rfl hx0 dX10_image_75 ?_
    refine y_bipush (pc := 78) (v := (6 : Int32)) C dX10_image_78 (by decide) ?_
    refine y_iload_n (pc := 80) (q := 1) C dX10_image_80 rfl rfl ?_
    refine y_imul (pc := 81) C dX10_image_81 ?_
    refine y_iconst (pc := 82) (v := (4 : Int32)) C dX10_image_82 (by decide) ?_
    refine y_iadd (pc := 83) C dX10_image_83 ?_
    refine y_aload_n (pc := 84) (q := 0) C dX10_image_84 rfl rfl ?_
    refine y_getr (pc := 85) C faX10_25 rfl hx0 dX10_image_85 ?_
    refine y_iload_n (pc := 88) (q := 1) C dX10_image_88 rfl rfl ?_
    obtain ⟨v111, ev111, h⟩ := bdS h
    refine y_iald (pc := 89) (n := 7) C (rf_8_17 _ hx0) (by decide) ev111 dX10_image_89 ?_
    obtain ⟨σ112, eσ112, h⟩ := bdS h
    refine y_iast (pc := 90) (n := 42) C (rf_8_30 _ hx0) (by decide) eσ112 dX10_image_90 ?_
    refine y_aload_n (pc := 91) (q := 0) C dX10_image_91 rfl rfl ?_
    refine y_getr (pc := 92) C faX10_43 rfl hx0 dX10_image_92 ?_
    refine y_bipush (pc := 95) (v := (6 : Int32)) C dX10_image_95 (by decide) ?_
    refine y_iload_n (pc := 97) (q := 1) C dX10_image_97 rfl rfl ?_
    refine y_imul (pc := 98) C dX10_image_98 ?_
    refine y_iconst (pc := 99) (v := (5 : Int32)) C dX10_image_99 (by decide) ?_
    refine y_iadd (pc := 100) C dX10_image_100 ?_
    refine y_aload_n (pc := 101) (q := 0) C dX10_image_101 rfl rfl ?_
    refine y_getr (pc := 102) C faX10_28 rfl hx0 dX10_image_102 ?_
    refine y_iload_n (pc := 105) (q := 1) C dX10_image_105 rfl rfl ?_
    obtain ⟨v113, ev113, h⟩ := bdS h
    refine y_iald (pc := 106) (n := 7) C (rf_8_18 _ hx0) (by decide) ev113 dX10_image_106 ?_
    obtain ⟨σ114, eσ114, h⟩ := bdS h
    refine y_iast (pc := 107) (n := 42) C (rf_8_30 _ hx0) (by decide) eσ114 dX10_image_107 ?_
    obtain ⟨y115, ey115, h⟩ := nmS h
    refine y_iinc (pc := 108) (v := y115) (k := 1) (lv' := [(1, .int y115), (0, .ref (ad x0))]) C dX10_image_108 rfl (by rw [ey115]; rfl) (by decide) rfl ?_
    refine y_goto (pc := 111) (tgt := 2) C dX10_image_111 (by decide) ?_
    refine y_sub [1, 0] (lv' := [(0, .ref (ad x0)), (1, .int y115)]) rfl ?_
    exact hk2 _ _ h
noncomputable def fX10_image_2 (fu : Nat) (x0 : Nat) : Nat → Int32 → St → Option (Int32 × St) := lp (fun k2 => fX10_image_2b fu k2 x0) (fun _ _ => none)
set_option maxHeartbeats 4000000 in
theorem tX10_image_2 {l : Launch} {D : va_G} {cA : ClassId} {bs : Nat} {ad : Nat → Nat} {p : Program} {e : Env} {s : State} {m : MethodId} {args : Array Value} {below : List Frame} {meth : Method} {c : Code} {fu : Nat} (C : Cx D cA bs ad RX10 cX10_image 2 (some .int) p s m args meth c) {x0 : Nat} {q : Int32 × St} (hx0 : xk x0 = 8)  : ∀ (n : Nat) (x1 : Int32) (σ : St), fX10_image_2 fu  x0 n x1 σ = some q → Y D cA bs ad p l e (rmY 0 0) s m args below meth c 2 0 0 (QM D cA bs ad below args s (some (.int q.1)) q.2) σ 2 [(0, .ref (ad x0)), (1, .int x1)] [] := by
  intro n
  induction n with
  | zero => intro x1 σ h; cases h
  | succ n ih => intro x1 σ h; exact tX10_image_2b (fu := fu) C hx0 ih h
noncomputable def fX10_image_0 (fu : Nat) (x0 : Nat) (σ : St) : Option (Int32 × St) :=
  fX10_image_2 fu x0 fu (0 : Int32) σ
set_option maxHeartbeats 4000000 in
set_option maxRecDepth 100000 in
theorem tX10_image_0 {l : Launch} {D : va_G} {cA : ClassId} {bs : Nat} {ad : Nat → Nat} {p : Program} {e : Env} {s : State} {m : MethodId} {args : Array Value} {below : List Frame} {meth : Method} {c : Code} {fu : Nat} (C : Cx D cA bs ad RX10 cX10_image 2 (some .int) p s m args meth c) {x0 : Nat} {q : Int32 × St} (hx0 : xk x0 = 8) {σ : St} (h : fX10_image_0 fu x0 σ = some q) : Y D cA bs ad p l e (rmY 0 0) s m args below meth c 2 0 0 (QM D cA bs ad below args s (some (.int q.1)) q.2) σ 0 [(0, .ref (ad x0))] [] := by
  unfold fX10_image_0 at h
  refine y_iconst (pc := 0) (v := (0 : Int32)) C dX10_image_0 (by decide) ?_
  refine y_istore_n (pc := 1) (lv' := [(1, .int (0 : Int32)), (0, .ref (ad x0))]) C dX10_image_1 rfl (by decide) rfl ?_
  refine y_sub [1, 0] (lv' := [(0, .ref (ad x0)), (1, .int (0 : Int32))]) rfl ?_
  exact tX10_image_2 (fu := fu) C hx0 fu _ _ h
noncomputable def fX10_image (fu : Nat) (x0 : Nat) (σ : St) : Option (Int32 × St) := if xk x0 = 8 then fX10_image_0 fu x0 σ else none
theorem mX10_image {l : Launch} {D : va_G} {cA : ClassId} {bs fu : Nat} {ad : Nat → Nat} {x0 : Nat} {σ : St} {q : Int32 × St} (h : fX10_image fu x0 σ = some q) : Ct l D cA bs ad yX10_image cX10_image 2 (some .int) 0 0 [.ref (ad x0)] σ (some (.int q.1)) q.2 := by
  unfold fX10_image at h
  by_cases hx0 : xk x0 = 8
  case neg => rw [if_neg hx0] at h; cases h
  rw [if_pos hx0] at h
  exact Ct.of (by decide) (Nat.le_of_ble_eq_true rfl) (fun p e s m args below meth c C => tX10_image_0 (fu := fu) C hx0 h)
noncomputable def fX10_restore_13b (fu : Nat) (k13 : Int32 → St → Option (Int32 × St)) (x0 : Nat) (x1 : Int32) (σ : St) : Option (Int32 × St) :=
  if (7 : Int32) ≤ x1 then
    nm (si σ x0 12 (σ.1 x0 29)) fun (σ102 : St) =>
    some ((σ102.1 x0 12), σ102)
  else
    (ald σ (rf x0 30) 42 ((6 : Int32) * x1)).bind fun (v103 : Int32) =>
    (ast σ (rf x0 13) 7 x1 v103).bind fun (σ104 : St) =>
    (ald σ104 (rf x0 30) 42 (((6 : Int32) * x1) + (1 : Int32))).bind fun (v105 : Int32) =>
    (ast σ104 (rf x0 14) 7 x1 v105).bind fun (σ106 : St) =>
    (ald σ106 (rf x0 30) 42 (((6 : Int32) * x1) + (2 : Int32))).bind fun (v107 : Int32) =>
    (ast σ106 (rf x0 15) 7 x1 v107).bind fun (σ108 : St) =>
    (ald σ108 (rf x0 30) 42 (((6 : Int32) * x1) + (3 : Int32))).bind fun (v109 : Int32) =>
    (ast σ108 (rf x0 16) 7 x1 v109).bind fun (σ110 : St) =>
    (ald σ110 (rf x0 30) 42 (((6 : Int32) * x1) + (4 : Int32))).bind fun (v111 : Int32) =>
    (ast σ110 (rf x0 17) 7 x1 v111).bind fun (σ112 : St) =>
    (ald σ112 (rf x0 30) 42 (((6 : Int32) * x1) + (5 : Int32))).bind fun (v113 : Int32) =>
    (ast σ112 (rf x0 18) 7 x1 v113).bind fun (σ114 : St) =>
    nm (x1 + (1 : Int32)) fun (y115 : Int32) =>
    k13 y115 σ114
set_option maxHeartbeats 4000000 in
set_option maxRecDepth 100000 in
theorem tX10_restore_13b {l : Launch} {D : va_G} {cA : ClassId} {bs : Nat} {ad : Nat → Nat} {p : Program} {e : Env} {s : State} {m : MethodId} {args : Array Value} {below : List Frame} {meth : Method} {c : Code} {fu : Nat} (C : Cx D cA bs ad RX10 cX10_restore 2 (some .int) p s m args meth c) {k13 : Int32 → St → Option (Int32 × St)} {x0 : Nat} {x1 : Int32} {q : Int32 × St} (hx0 : xk x0 = 8) (hk13 : ∀ (x1 : Int32) (σ : St), k13 x1 σ = some q → Y D cA bs ad p l e (rmY 0 0) s m args below meth c 2 0 0 (QM D cA bs ad below args s (some (.int q.1)) q.2) σ 13 [(0, .ref (ad x0)), (1, .int x1)] []) {σ : St} (h : fX10_restore_13b fu k13 x0 x1 σ = some q) : Y D cA bs ad p l e (rmY 0 0) s m args below meth c 2 0 0 (QM D cA bs ad below args s (some (.int q.1)) q.2) σ 13 [(0, .ref (ad x0)), (1, .int x1)] [] := by
  unfold fX10_restore_13b at h
  refine y_iload_n (pc := 13) (q := 1) C dX10_restore_13 rfl rfl ?_
  refine y_bipush (pc := 14) (v := (7 : Int32)) C dX10_restore_14 (by decide) ?_
  refine y_icmp_ge (pc := 16) (tgt := 125) C dX10_restore_16 (by decide) (fun c101 => ?_) (fun c101 => ?_)
  · rw [if_pos c101] at h
    refine y_aload_n (pc := 125) (q := 0) C dX10_restore_125 rfl rfl ?_
    refine y_aload_n (pc := 126) (q := 0) C dX10_restore_126 rfl rfl ?_
    refine y_geti (pc := 127) C faX10_46 rfl hx0 dX10_restore_127 ?_
    obtain ⟨σ102, eσ102, h⟩ := nmS h
    refine y_puti (pc := 130) C fpX10_105 rfl hx0 rfl rfl dX10_restore_130 ?_
    rw [← eσ102]
    refine y_aload_n (pc := 133) (q := 0) C dX10_restore_133 rfl rfl ?_
    refine y_geti (pc := 134) C faX10_105 rfl hx0 dX10_restore_134 ?_
    cases h
    exact y_iret (pc := 137) C dX10_restore_137
  · rw [if_neg c101] at h
    refine y_aload_n (pc := 19) (q := 0) C dX10_restore_19 rfl rfl ?_
    refine y_getr (pc := 20) C faX10_13 rfl hx0 dX10_restore_20 ?_
    refine y_iload_n (pc := 23) (q := 1) C dX10_restore_23 rfl rfl ?_
    refine y_aload_n (pc := 24) (q := 0) C dX10_restore_24 rfl rfl ?_
    refine y_getr (pc := 25) C faX10_43 rfl hx0 dX10_restore_25 ?_
    refine y_bipush (pc := 28) (v := (6 : Int32)) C dX10_restore_28 (by decide) ?_
    refine y_iload_n (pc := 30) (q := 1) C dX10_restore_30 rfl rfl ?_
    refine y_imul (pc := 31) C dX10_restore_31 ?_
    obtain ⟨v103, ev103, h⟩ := bdS h
    refine y_iald (pc := 32) (n := 42) C (rf_8_30 _ hx0) (by decide) ev103 dX10_restore_32 ?_
    obtain ⟨σ104, eσ104, h⟩ := bdS h
    refine y_iast (pc := 33) (n := 7) C (rf_8_13 _ hx0) (by decide) eσ104 dX10_restore_33 ?_
    refine y_aload_n (pc := 34) (q := 0) C dX10_restore_34 rfl rfl ?_
    refine y_getr (pc := 35) C faX10_16 rfl hx0 dX10_restore_35 ?_
    refine y_iload_n (pc := 38) (q := 1) C dX10_restore_38 rfl rfl ?_
    refine y_aload_n (pc := 39) (q := 0) C dX10_restore_39 rfl rfl ?_
    refine y_getr (pc := 40) C faX10_43 rfl hx0 dX10_restore_40 ?_
    refine y_bipush (pc := 43) (v := (6 : Int32)) C dX10_restore_43 (by decide) ?_
    refine y_iload_n (pc := 45) (q := 1) C dX10_restore_45 rfl rfl ?_
    refine y_imul (pc := 46) C dX10_restore_46 ?_
    refine y_iconst (pc := 47) (v := (1 : Int32)) C dX10_restore_47 (by decide) ?_
    refine y_iadd (pc := 48) C dX10_restore_48 ?_
    obtain ⟨v105, ev105, h⟩ := bdS h
    refine y_iald (pc := 49) (n := 42) C (rf_8_30 _ hx0) (by decide) ev105 dX10_restore_49 ?_
    obtain ⟨σ106, eσ106, h⟩ := bdS h
    refine y_iast (pc := 50) (n := 7) C (rf_8_14 _ hx0) (by decide) eσ106 dX10_restore_50 ?_
    refine y_aload_n (pc := 51) (q := 0) C dX10_restore_51 rfl rfl ?_
    refine y_getr (pc := 52) C faX10_19 rfl hx0 dX10_restore_52 ?_
    refine y_iload_n (pc := 55) (q := 1) C dX10_restore_55 rfl rfl ?_
    refine y_aload_n (pc := 56) (q := 0) C dX10_restore_56 rfl rfl ?_
    refine y_getr (pc := 57) C faX10_43 rfl hx0 dX10_restore_57 ?_
    refine y_bipush (pc := 60) (v := (6 : Int32)) C dX10_restore_60 (by decide) ?_
    refine y_iload_n (pc := 62) (q := 1) C dX10_restore_62 rfl rfl ?_
    refine y_imul (pc := 63) C dX10_restore_63 ?_
    refine y_iconst (pc := 64) (v := (2 : Int32)) C dX10_restore_64 (by decide) ?_
    refine y_iadd (pc := 65) C dX10_restore_65 ?_
    obtain ⟨v107, ev107, h⟩ := bdS h
    refine y_iald (pc := 66) (n := 42) C (rf_8_30 _ hx0) (by decide) ev107 dX10_restore_66 ?_
    obtain ⟨σ108, eσ108, h⟩ := bdS h
    refine y_iast (pc := 67) (n := 7) C (rf_8_15 _ hx0) (by decide) eσ108 dX10_restore_67 ?_
    refine y_aload_n (pc := 68) (q := 0) C dX10_restore_68 rfl rfl ?_
    refine y_getr (pc := 69) C faX10_22 rfl hx0 dX10_restore_69 ?_
    refine y_iload_n (pc := 72) (q := 1) C dX10_restore_72 rfl rfl ?_
    refine y_aload_n (pc := 73) (q := 0) C dX10_restore_73 rfl rfl ?_
    refine y_getr (pc := 74) C faX10_43 rfl hx0 dX10_restore_74 ?_
    refine y_bipush (pc := 77) (v := (6 : Int32)) C dX10_restore_77 (by decide) ?_
    refine y_iload_n (pc := 79) (q := 1) C dX10_restore_79 rfl rfl ?_
    refine y_imul (pc := 80) C dX10_restore_80 ?_
    refine y_iconst (pc := 81) (v := (3 : Int32)) C dX10_restore_81 (by decide) ?_
    refine y_iadd (pc := 82) C dX10_restore_82 ?_
    obtain ⟨v109, ev109, h⟩ := bdS h
    refine y_iald (pc := 83) (n := 42) C (rf_8_30 _ hx0) (by decide) ev109 dX10_restore_83 ?_
    obtain ⟨σ110, eσ110, h⟩ := bdS h
    refine y_iast (pc := 84) (n := 7) C (rf_8_16 _ hx0) (by decide) eσ110 dX10_restore_84 ?_
    refine y_aload_n (pc := 85) (q := 0) C dX10_restore_85 rfl rfl ?_
    refine y_getr (pc := 86) C faX10_25 rfl hx0 dX10_restore_86 ?_
    refine y_iload_n (pc := 89) (q := 1) C dX10_restore_89 rfl rfl ?_
    refine y_aload_n (pc := 90) (q := 0) C dX10_restore_90 rfl rfl ?_
    refine y_getr (pc := 91) C faX10_43 rfl hx0 dX10_restore_91 ?_
    refine y_bipush (pc := 94) (v := (6 : Int32)) C dX10_restore_94 (by decide) ?_
    refine y_iload_n (pc := 96) (q := 1) C dX10_restore_96 rfl rfl ?_
    refine y_imul (pc := 97) C dX10_restore_97 ?_
    refine y_iconst (pc := 98) (v := (4 : Int32)) C dX10_restore_98 (by decide) ?_
    refine y_iadd (pc := 99) C dX10_restore_99 ?_
    obtain ⟨v111, ev111, h⟩ := bdS h
    refine y_iald (pc := 100) (n := 42) C (rf_8_30 _ hx0) (by decide) ev111 dX10_restore_100 ?_
    obtain ⟨σ112, eσ112, h⟩ := bdS h
    refine y_iast (pc := 101) (n := 7) C (rf_8_17 _ hx0) (by decide) eσ112 dX10_restore_101 ?_
    refine y_aload_n (pc := 102) (q := 0) C dX10_restore_102 rfl rfl ?_
    refine y_getr (pc := 103) C faX10_28 rfl hx0 dX10_restore_103 ?_
    refine y_iload_n (pc := 106) (q := 1) C dX10_restore_106 rfl rfl ?_
    refine y_aload_n (pc := 107) (q := 0) C dX10_restore_107 rfl rfl ?_
    refine y_getr (pc := 108) C faX10_43 rfl hx0 dX10_restore_108 ?_
    refine y_bipush (pc := 111) (v := (6 : Int32)) C dX10_restore_111 (by decide) ?_
    refine y_iload_n (pc := 113) (q := 1) C dX10_restore_113 rfl rfl ?_
    refine y_imul (pc := 114) C dX10_restore_114 ?_
    refine y_iconst (pc := 115) (v := (5 : Int32)) C dX10_restore_115 (by decide) ?_
    refine y_iadd (pc := 116) C dX10_restore_116 ?_
    obtain ⟨v113, ev113, h⟩ := bdS h
    refine y_iald (pc := 117) (n := 42) C (rf_8_30 _ hx0) (by decide) ev113 dX10_restore_117 ?_
    obtain ⟨σ114, eσ114, h⟩ := bdS h
    refine y_iast (pc := 118) (n := 7) C (rf_8_18 _ hx0) (by decide) eσ114 dX10_restore_118 ?_
    obtain ⟨y115, ey115, h⟩ := nmS h
    refine y_iinc (pc := 119) (v := y115) (k := 1) (lv' := [(1, .int y115), (0, .ref (ad x0))]) C dX10_restore_119 rfl (by rw [ey115]; rfl) (by decide) rfl ?_
    refine y_goto (pc := 122) (tgt := 13) C dX10_restore_122 (by decide) ?_
    refine y_sub [1, 0] (lv' := [(0, .ref (ad x0)), (1, .int y115)]) rfl ?_
    exact hk13 _ _ h
noncomputable def fX10_restore_13 (fu : Nat) (x0 : Nat) : Nat → Int32 → St → Option (Int32 × St) := lp (fun k13 => fX10_restore_13b fu k13 x0) (fun _ _ => none)
set_option maxHeartbeats 4000000 in
theorem tX10_restore_13 {l : Launch} {D : va_G} {cA : ClassId} {bs : Nat} {ad : Nat → Nat} {p : Program} {e : Env} {s : State} {m : MethodId} {args : Array Value} {below : List Frame} {meth : Method} {c : Code} {fu : Nat} (C : Cx D cA bs ad RX10 cX10_restore 2 (some .int) p s m args meth c) {x0 : Nat} {q : Int32 × St} (hx0 : xk x0 = 8)  : ∀ (n : Nat) (x1 : Int32) (σ : St), fX10_restore_13 fu  x0 n x1 σ = some q → Y D cA bs ad p l e (rmY 0 0) s m args below meth c 2 0 0 (QM D cA bs ad below args s (some (.int q.1)) q.2) σ 13 [(0, .ref (ad x0)), (1, .int x1)] [] := by
  intro n
  induction n with
  | zero => intro x1 σ h; cases h
  | succ n ih => intro x1 σ h; exact tX10_restore_13b (fu := fu) C hx0 ih h
noncomputable def fX10_restore_0 (fu : Nat) (x0 : Nat) (σ : St) : Option (Int32 × St) :=
  if (σ.1 x0 29) = (-1 : Int32) then
    some ((-103 : Int32), σ)
  else
    fX10_restore_13 fu x0 fu (0 : Int32) σ
set_option maxHeartbeats 4000000 in
set_option maxRecDepth 100000 in
theorem tX10_restore_0 {l : Launch} {D : va_G} {cA : ClassId} {bs : Nat} {ad : Nat → Nat} {p : Program} {e : Env} {s : State} {m : MethodId} {args : Array Value} {below : List Frame} {meth : Method} {c : Code} {fu : Nat} (C : Cx D cA bs ad RX10 cX10_restore 2 (some .int) p s m args meth c) {x0 : Nat} {q : Int32 × St} (hx0 : xk x0 = 8) {σ : St} (h : fX10_restore_0 fu x0 σ = some q) : Y D cA bs ad p l e (rmY 0 0) s m args below meth c 2 0 0 (QM D cA bs ad below args s (some (.int q.1)) q.2) σ 0 [(0, .ref (ad x0))] [] := by
  unfold fX10_restore_0 at h
  refine y_aload_n (pc := 0) (q := 0) C dX10_restore_0 rfl rfl ?_
  refine y_geti (pc := 1) C faX10_46 rfl hx0 dX10_restore_1 ?_
  refine y_iconst (pc := 4) (v := (-1 : Int32)) C dX10_restore_4 (by decide) ?_
  refine y_icmp_ne (pc := 5) (tgt := 11) C dX10_restore_5 (by decide) (fun c101 => ?_) (fun c101 => ?_)
  · rw [if_neg c101] at h
    refine y_iconst (pc := 11) (v := (0 : Int32)) C dX10_restore_11 (by decide) ?_
    refine y_istore_n (pc := 12) (lv' := [(1, .int (0 : Int32)), (0, .ref (ad x0))]) C dX10_restore_12 rfl (by decide) rfl ?_
    refine y_sub [1, 0] (lv' := [(0, .ref (ad x0)), (1, .int (0 : Int32))]) rfl ?_
    exact tX10_restore_13 (fu := fu) C hx0 fu _ _ h
  · rw [if_pos c101] at h
    refine y_bipush (pc := 8) (v := (-103 : Int32)) C dX10_restore_8 (by decide) ?_
    cases h
    exact y_iret (pc := 10) C dX10_restore_10
noncomputable def fX10_restore (fu : Nat) (x0 : Nat) (σ : St) : Option (Int32 × St) := if xk x0 = 8 then fX10_restore_0 fu x0 σ else none
theorem mX10_restore {l : Launch} {D : va_G} {cA : ClassId} {bs fu : Nat} {ad : Nat → Nat} {x0 : Nat} {σ : St} {q : Int32 × St} (h : fX10_restore fu x0 σ = some q) : Ct l D cA bs ad yX10_restore cX10_restore 2 (some .int) 0 0 [.ref (ad x0)] σ (some (.int q.1)) q.2 := by
  unfold fX10_restore at h
  by_cases hx0 : xk x0 = 8
  case neg => rw [if_neg hx0] at h; cases h
  rw [if_pos hx0] at h
  exact Ct.of (by decide) (Nat.le_of_ble_eq_true rfl) (fun p e s m args below meth c C => tX10_restore_0 (fu := fu) C hx0 h)
noncomputable def fX10_wheelsOf_4b (fu : Nat) (k4 : Int32 → Int32 → St → Option (Int32 × St)) (x0 : Nat) (x1 : Int32) (x2 : Int32) (σ : St) : Option (Int32 × St) :=
  if (σ.1 x0 12) ≤ x2 then
    some (x1, σ)
  else
    (ald σ (rf x0 18) 7 x2).bind fun (v102 : Int32) =>
    nm (x1 + v102) fun (y103 : Int32) =>
    nm (x2 + (1 : Int32)) fun (y104 : Int32) =>
    k4 y103 y104 σ
set_option maxHeartbeats 4000000 in
set_option maxRecDepth 100000 in
theorem tX10_wheelsOf_4b {l : Launch} {D : va_G} {cA : ClassId} {bs : Nat} {ad : Nat → Nat} {p : Program} {e : Env} {s : State} {m : MethodId} {args : Array Value} {below : List Frame} {meth : Method} {c : Code} {fu : Nat} (C : Cx D cA bs ad RX10 cX10_wheelsOf 3 (some .int) p s m args meth c) {k4 : Int32 → Int32 → St → Option (Int32 × St)} {x0 : Nat} {x1 : Int32} {x2 : Int32} {q : Int32 × St} (hx0 : xk x0 = 8) (hk4 : ∀ (x1 : Int32) (x2 : Int32) (σ : St), k4 x1 x2 σ = some q → Y D cA bs ad p l e (rmY 0 0) s m args below meth c 3 0 0 (QM D cA bs ad below args s (some (.int q.1)) q.2) σ 4 [(0, .ref (ad x0)), (1, .int x1), (2, .int x2)] []) {σ : St} (h : fX10_wheelsOf_4b fu k4 x0 x1 x2 σ = some q) : Y D cA bs ad p l e (rmY 0 0) s m args below meth c 3 0 0 (QM D cA bs ad below args s (some (.int q.1)) q.2) σ 4 [(0, .ref (ad x0)), (1, .int x1), (2, .int x2)] [] := by
  unfold fX10_wheelsOf_4b at h
  refine y_iload_n (pc := 4) (q := 2) C dX10_wheelsOf_4 rfl rfl ?_
  refine y_aload_n (pc := 5) (q := 0) C dX10_wheelsOf_5 rfl rfl ?_
  refine y_geti (pc := 6) C faX10_105 rfl hx0 dX10_wheelsOf_6 ?_
  refine y_icmp_ge (pc := 9) (tgt := 27) C dX10_wheelsOf_9 (by decide) (fun c101 => ?_) (fun c101 => ?_)
  · rw [if_pos c101] at h
    refine y_iload_n (pc := 27) (q := 1) C dX10_wheelsOf_27 rfl rfl ?_
    cases h
    exact y_iret (pc := 28) C dX10_wheelsOf_28
  · rw [if_neg c101] at h
    refine y_iload_n (pc := 12) (q := 1) C dX10_wheelsOf_12 rfl rfl ?_
    refine y_aload_n (pc := 13) (q := 0) C dX10_wheelsOf_13 rfl rfl ?_
    refine y_getr (pc := 14) C faX10_28 rfl hx0 dX10_wheelsOf_14 ?_
    refine y_iload_n (pc := 17) (q := 2) C dX10_wheelsOf_17 rfl rfl ?_
    obtain ⟨v102, ev102, h⟩ := bdS h
    refine y_iald (pc := 18) (n := 7) C (rf_8_18 _ hx0) (by decide) ev102 dX10_wheelsOf_18 ?_
    refine y_iadd (pc := 19) C dX10_wheelsOf_19 ?_
    obtain ⟨y103, ey103, h⟩ := nmS h
    refine y_nmI y103 ey103 ?_
    refine y_istore_n (pc := 20) (lv' := [(1, .int y103), (0, .ref (ad x0)), (2, .int x2)]) C dX10_wheelsOf_20 rfl (by decide) rfl ?_
    obtain ⟨y104, ey104, h⟩ := nmS h
    refine y_iinc (pc := 21) (v := y104) (k := 2) (lv' := [(2, .int y104), (1, .int y103), (0, .ref (ad x0))]) C dX10_wheelsOf_21 rfl (by rw [ey104]; rfl) (by decide) rfl ?_
    refine y_goto (pc := 24) (tgt := 4) C dX10_wheelsOf_24 (by decide) ?_
    refine y_sub [2, 1, 0] (lv' := [(0, .ref (ad x0)), (1, .int y103), (2, .int y104)]) rfl ?_
    exact hk4 _ _ _ h
noncomputable def fX10_wheelsOf_4 (fu : Nat) (x0 : Nat) : Nat → Int32 → Int32 → St → Option (Int32 × St) := lp (fun k4 => fX10_wheelsOf_4b fu k4 x0) (fun _ _ _ => none)
set_option maxHeartbeats 4000000 in
theorem tX10_wheelsOf_4 {l : Launch} {D : va_G} {cA : ClassId} {bs : Nat} {ad : Nat → Nat} {p : Program} {e : Env} {s : State} {m : MethodId} {args : Array Value} {below : List Frame} {meth : Method} {c : Code} {fu : Nat} (C : Cx D cA bs ad RX10 cX10_wheelsOf 3 (some .int) p s m args meth c) {x0 : Nat} {q : Int32 × St} (hx0 : xk x0 = 8)  : ∀ (n : Nat) (x1 : Int32) (x2 : Int32) (σ : St), fX10_wheelsOf_4 fu  x0 n x1 x2 σ = some q → Y D cA bs ad p l e (rmY 0 0) s m args below meth c 3 0 0 (QM D cA bs ad below args s (some (.int q.1)) q.2) σ 4 [(0, .ref (ad x0)), (1, .int x1), (2, .int x2)] [] := by
  intro n
  induction n with
  | zero => intro x1 x2 σ h; cases h
  | succ n ih => intro x1 x2 σ h; exact tX10_wheelsOf_4b (fu := fu) C hx0 ih h
noncomputable def fX10_wheelsOf_0 (fu : Nat) (x0 : Nat) (σ : St) : Option (Int32 × St) :=
  fX10_wheelsOf_4 fu x0 fu (0 : Int32) (0 : Int32) σ
set_option maxHeartbeats 4000000 in
set_option maxRecDepth 100000 in
theorem tX10_wheelsOf_0 {l : Launch} {D : va_G} {cA : ClassId} {bs : Nat} {ad : Nat → Nat} {p : Program} {e : Env} {s : State} {m : MethodId} {args : Array Value} {below : List Frame} {meth : Method} {c : Code} {fu : Nat} (C : Cx D cA bs ad RX10 cX10_wheelsOf 3 (some .int) p s m args meth c) {x0 : Nat} {q : Int32 × St} (hx0 : xk x0 = 8) {σ : St} (h : fX10_wheelsOf_0 fu x0 σ = some q) : Y D cA bs ad p l e (rmY 0 0) s m args below meth c 3 0 0 (QM D cA bs ad below args s (some (.int q.1)) q.2) σ 0 [(0, .ref (ad x0))] [] := by
  unfold fX10_wheelsOf_0 at h
  refine y_iconst (pc := 0) (v := (0 : Int32)) C dX10_wheelsOf_0 (by decide) ?_
  refine y_istore_n (pc := 1) (lv' := [(1, .int (0 : Int32)), (0, .ref (ad x0))]) C dX10_wheelsOf_1 rfl (by decide) rfl ?_
  refine y_iconst (pc := 2) (v := (0 : Int32)) C dX10_wheelsOf_2 (by decide) ?_
  refine y_istore_n (pc := 3) (lv' := [(2, .int (0 : Int32)), (1, .int (0 : Int32)), (0, .ref (ad x0))]) C dX10_wheelsOf_3 rfl (by decide) rfl ?_
  refine y_sub [2, 1, 0] (lv' := [(0, .ref (ad x0)), (1, .int (0 : Int32)), (2, .int (0 : Int32))]) rfl ?_
  exact tX10_wheelsOf_4 (fu := fu) C hx0 fu _ _ _ h
noncomputable def fX10_wheelsOf (fu : Nat) (x0 : Nat) (σ : St) : Option (Int32 × St) := if xk x0 = 8 then fX10_wheelsOf_0 fu x0 σ else none
theorem mX10_wheelsOf {l : Launch} {D : va_G} {cA : ClassId} {bs fu : Nat} {ad : Nat → Nat} {x0 : Nat} {σ : St} {q : Int32 × St} (h : fX10_wheelsOf fu x0 σ = some q) : Ct l D cA bs ad yX10_wheelsOf cX10_wheelsOf 3 (some .int) 0 0 [.ref (ad x0)] σ (some (.int q.1)) q.2 := by
  unfold fX10_wheelsOf at h
  by_cases hx0 : xk x0 = 8
  case neg => rw [if_neg hx0] at h; cases h
  rw [if_pos hx0] at h
  exact Ct.of (by decide) (Nat.le_of_ble_eq_true rfl) (fun p e s m args below meth c C => tX10_wheelsOf_0 (fu := fu) C hx0 h)
noncomputable def fX10_countOf_0 (fu : Nat) (x0 : Nat) (x1 : Int32) (σ : St) : Option (Int32 × St) :=
  if x1 = (0 : Int32) then
    some ((σ.1 x0 12), σ)
  else
  if x1 = (1 : Int32) then
    some ((σ.1 x0 1), σ)
  else
  if x1 = (2 : Int32) then
    some ((σ.1 x0 6), σ)
  else
  if x1 = (3 : Int32) then
    some ((σ.1 x0 25), σ)
  else
  if x1 = (4 : Int32) then
    some ((σ.1 x0 27), σ)
  else
  if x1 = (5 : Int32) then
    some ((σ.1 x0 28), σ)
  else
  if x1 = (6 : Int32) then
    (fX10_wheelsOf fu x0 σ).bind fun (q108 : Int32 × St) =>
    some (q108.1, q108.2)
  else
  some ((-102 : Int32), σ)
set_option maxHeartbeats 4000000 in
set_option maxRecDepth 100000 in
theorem tX10_countOf_0 {l : Launch} {D : va_G} {cA : ClassId} {bs : Nat} {ad : Nat → Nat} {p : Program} {e : Env} {s : State} {m : MethodId} {args : Array Value} {below : List Frame} {meth : Method} {c : Code} {fu : Nat} (C : Cx D cA bs ad RX10 cX10_countOf 2 (some .int) p s m args meth c) {x0 : Nat} {x1 : Int32} {q : Int32 × St} (hx0 : xk x0 = 8) {σ : St} (h : fX10_countOf_0 fu x0 x1 σ = some q) : Y D cA bs ad p l e (rmY 1 22) s m args below meth c 2 0 0 (QM D cA bs ad below args s (some (.int q.1)) q.2) σ 0 [(0, .ref (ad x0)), (1, .int x1)] [] := by
  unfold fX10_countOf_0 at h
  refine y_iload_n (pc := 0) (q := 1) C dX10_countOf_0 rfl rfl ?_
  by_cases c101 : x1 = (0 : Int32)
  · rw [if_pos c101] at h
    refine y_tabI (pc := 1) (tgt := 44) (off := 43) C dX10_countOf_1 (by rw [c101]; decide) (by rw [c101]; decide) (by rw [c101]; decide +kernel) (by decide) ?_
    refine y_aload_n (pc := 44) (q := 0) C dX10_countOf_44 rfl rfl ?_
    refine y_geti (pc := 45) C faX10_105 rfl hx0 dX10_countOf_45 ?_
    cases h
    exact y_iret (pc := 48) C dX10_countOf_48
  rw [if_neg c101] at h
  by_cases c102 : x1 = (1 : Int32)
  · rw [if_pos c102] at h
    refine y_tabI (pc := 1) (tgt := 49) (off := 48) C dX10_countOf_1 (by rw [c102]; decide) (by rw [c102]; decide) (by rw [c102]; decide +kernel) (by decide) ?_
    refine y_aload_n (pc := 49) (q := 0) C dX10_countOf_49 rfl rfl ?_
    refine y_geti (pc := 50) C faX10_55 rfl hx0 dX10_countOf_50 ?_
    cases h
    exact y_iret (pc := 53) C dX10_countOf_53
  rw [if_neg c102] at h
  by_cases c103 : x1 = (2 : Int32)
  · rw [if_pos c103] at h
    refine y_tabI (pc := 1) (tgt := 54) (off := 53) C dX10_countOf_1 (by rw [c103]; decide) (by rw [c103]; decide) (by rw [c103]; decide +kernel) (by decide) ?_
    refine y_aload_n (pc := 54) (q := 0) C dX10_countOf_54 rfl rfl ?_
    refine y_geti (pc := 55) C faX10_98 rfl hx0 dX10_countOf_55 ?_
    cases h
    exact y_iret (pc := 58) C dX10_countOf_58
  rw [if_neg c103] at h
  by_cases c104 : x1 = (3 : Int32)
  · rw [if_pos c104] at h
    refine y_tabI (pc := 1) (tgt := 59) (off := 58) C dX10_countOf_1 (by rw [c104]; decide) (by rw [c104]; decide) (by rw [c104]; decide +kernel) (by decide) ?_
    refine y_aload_n (pc := 59) (q := 0) C dX10_countOf_59 rfl rfl ?_
    refine y_geti (pc := 60) C faX10_182 rfl hx0 dX10_countOf_60 ?_
    cases h
    exact y_iret (pc := 63) C dX10_countOf_63
  rw [if_neg c104] at h
  by_cases c105 : x1 = (4 : Int32)
  · rw [if_pos c105] at h
    refine y_tabI (pc := 1) (tgt := 64) (off := 63) C dX10_countOf_1 (by rw [c105]; decide) (by rw [c105]; decide) (by rw [c105]; decide +kernel) (by decide) ?_
    refine y_aload_n (pc := 64) (q := 0) C dX10_countOf_64 rfl rfl ?_
    refine y_geti (pc := 65) C faX10_212 rfl hx0 dX10_countOf_65 ?_
    cases h
    exact y_iret (pc := 68) C dX10_countOf_68
  rw [if_neg c105] at h
  by_cases c106 : x1 = (5 : Int32)
  · rw [if_pos c106] at h
    refine y_tabI (pc := 1) (tgt := 69) (off := 68) C dX10_countOf_1 (by rw [c106]; decide) (by rw [c106]; decide) (by rw [c106]; decide +kernel) (by decide) ?_
    refine y_aload_n (pc := 69) (q := 0) C dX10_countOf_69 rfl rfl ?_
    refine y_geti (pc := 70) C faX10_220 rfl hx0 dX10_countOf_70 ?_
    cases h
    exact y_iret (pc := 73) C dX10_countOf_73
  rw [if_neg c106] at h
  by_cases c107 : x1 = (6 : Int32)
  · rw [if_pos c107] at h
    refine y_tabI (pc := 1) (tgt := 74) (off := 73) C dX10_countOf_1 (by rw [c107]; decide) (by rw [c107]; decide) (by rw [c107]; decide +kernel) (by decide) ?_
    refine y_aload_n (pc := 74) (q := 0) C dX10_countOf_74 rfl rfl ?_
    obtain ⟨q108, eq108, h⟩ := bdS h
    refine y_callV (pc := 75) (As := []) (rest := []) C (mX10_wheelsOf (fu := fu) eq108) vwX10_229 rfl (by decide) hx0 rfl rfl (Nat.le_of_ble_eq_true rfl) ⟨Nat.le_of_ble_eq_true rfl, Nat.le_of_ble_eq_true rfl⟩ ⟨Nat.le_refl _, Nat.le_refl _⟩ dX10_countOf_75 ?_
    show Y _ _ _ _ _ _ _ _ _ _ _ _ _ _ _ _ _ _ q108.2 78 [(0, .ref (ad x0)), (1, .int x1)] [.int q108.1]
    cases h
    exact y_iret (pc := 78) C dX10_countOf_78
  rw [if_neg c107] at h
  refine y_tabO (pc := 1) (tgt := 79) C dX10_countOf_1 (by have := lv_neT (a := 0) c101 (by decide); have := lv_neT (a := 1) c102 (by decide); have := lv_neT (a := 2) c103 (by decide); have := lv_neT (a := 3) c104 (by decide); have := lv_neT (a := 4) c105 (by decide); have := lv_neT (a := 5) c106 (by decide); have := lv_neT (a := 6) c107 (by decide); omega) (by decide) ?_
  refine y_bipush (pc := 79) (v := (-102 : Int32)) C dX10_countOf_79 (by decide) ?_
  cases h
  exact y_iret (pc := 81) C dX10_countOf_81
noncomputable def fX10_countOf (fu : Nat) (x0 : Nat) (x1 : Int32) (σ : St) : Option (Int32 × St) := if xk x0 = 8 then fX10_countOf_0 fu x0 x1 σ else none
theorem mX10_countOf {l : Launch} {D : va_G} {cA : ClassId} {bs fu : Nat} {ad : Nat → Nat} {x0 : Nat} {x1 : Int32} {σ : St} {q : Int32 × St} (h : fX10_countOf fu x0 x1 σ = some q) : Ct l D cA bs ad yX10_countOf cX10_countOf 2 (some .int) 1 22 [.ref (ad x0), .int x1] σ (some (.int q.1)) q.2 := by
  unfold fX10_countOf at h
  by_cases hx0 : xk x0 = 8
  case neg => rw [if_neg hx0] at h; cases h
  rw [if_pos hx0] at h
  exact Ct.of (by decide) (Nat.le_of_ble_eq_true rfl) (fun p e s m args below meth c C => tX10_countOf_0 (fu := fu) C hx0 h)
noncomputable def fX10_count_0 (fu : Nat) (x0 : Nat) (x1 : Int32) (σ : St) : Option (Int32 × St) :=
  (fX10_countOf fu x0 x1 σ).bind fun (q101 : Int32 × St) =>
  some (q101.1, q101.2)
set_option maxHeartbeats 4000000 in
set_option maxRecDepth 100000 in
theorem tX10_count_0 {l : Launch} {D : va_G} {cA : ClassId} {bs : Nat} {ad : Nat → Nat} {p : Program} {e : Env} {s : State} {m : MethodId} {args : Array Value} {below : List Frame} {meth : Method} {c : Code} {fu : Nat} (C : Cx D cA bs ad RX10 cX10_count 2 (some .int) p s m args meth c) {x0 : Nat} {x1 : Int32} {q : Int32 × St} (hx0 : xk x0 = 8) {σ : St} (h : fX10_count_0 fu x0 x1 σ = some q) : Y D cA bs ad p l e (rmY 2 43) s m args below meth c 2 0 0 (QM D cA bs ad below args s (some (.int q.1)) q.2) σ 0 [(0, .ref (ad x0)), (1, .int x1)] [] := by
  unfold fX10_count_0 at h
  refine y_aload_n (pc := 0) (q := 0) C dX10_count_0 rfl rfl ?_
  refine y_iload_n (pc := 1) (q := 1) C dX10_count_1 rfl rfl ?_
  obtain ⟨q101, eq101, h⟩ := bdS h
  refine y_callV (pc := 2) (As := [.int x1]) (rest := []) C (mX10_countOf (fu := fu) eq101) vwX10_232 rfl (by decide) hx0 rfl rfl (Nat.le_of_ble_eq_true rfl) ⟨Nat.le_of_ble_eq_true rfl, Nat.le_of_ble_eq_true rfl⟩ ⟨Nat.le_refl _, Nat.le_refl _⟩ dX10_count_2 ?_
  show Y _ _ _ _ _ _ _ _ _ _ _ _ _ _ _ _ _ _ q101.2 5 [(0, .ref (ad x0)), (1, .int x1)] [.int q101.1]
  cases h
  exact y_iret (pc := 5) C dX10_count_5
noncomputable def fX10_count (fu : Nat) (x0 : Nat) (x1 : Int32) (σ : St) : Option (Int32 × St) := if xk x0 = 8 then fX10_count_0 fu x0 x1 σ else none
theorem mX10_count {l : Launch} {D : va_G} {cA : ClassId} {bs fu : Nat} {ad : Nat → Nat} {x0 : Nat} {x1 : Int32} {σ : St} {q : Int32 × St} (h : fX10_count fu x0 x1 σ = some q) : Ct l D cA bs ad yX10_count cX10_count 2 (some .int) 2 43 [.ref (ad x0), .int x1] σ (some (.int q.1)) q.2 := by
  unfold fX10_count at h
  by_cases hx0 : xk x0 = 8
  case neg => rw [if_neg hx0] at h; cases h
  rw [if_pos hx0] at h
  exact Ct.of (by decide) (Nat.le_of_ble_eq_true rfl) (fun p e s m args below meth c C => tX10_count_0 (fu := fu) C hx0 h)
noncomputable def fX10_say_0 (fu : Nat) (x0 : Nat) (x1 : Int64) (σ : St) : Option (St) :=
  nm (sl σ (((31 : Int64) * σ.2) + x1)) fun (σ101 : St) =>
  some σ101
set_option maxHeartbeats 4000000 in
set_option maxRecDepth 100000 in
theorem tX10_say_0 {l : Launch} {D : va_G} {cA : ClassId} {bs : Nat} {ad : Nat → Nat} {p : Program} {e : Env} {s : State} {m : MethodId} {args : Array Value} {below : List Frame} {meth : Method} {c : Code} {fu : Nat} (C : Cx D cA bs ad RX10 cX10_say 3 none p s m args meth c) {x0 : Nat} {x1 : Int64} {q : St} (hx0 : xk x0 = 8) {σ : St} (h : fX10_say_0 fu x0 x1 σ = some q) : Y D cA bs ad p l e (rmY 0 0) s m args below meth c 3 0 0 (QM D cA bs ad below args s none q) σ 0 [(0, .ref (ad x0)), (1, .long x1)] [] := by
  unfold fX10_say_0 at h
  refine y_aload_n (pc := 0) (q := 0) C dX10_say_0 rfl rfl ?_
  refine y_ldc2 (pc := 1) C dX10_say_1 cwX10_235 ?_
  refine y_aload_n (pc := 4) (q := 0) C dX10_say_4 rfl rfl ?_
  refine y_getl (pc := 5) C faX10_237 rfl hx0 dX10_say_5 ?_
  refine y_lmul (pc := 8) C dX10_say_8 ?_
  refine y_lload_n (pc := 9) (q := 1) C dX10_say_9 rfl rfl ?_
  refine y_ladd (pc := 10) C dX10_say_10 ?_
  obtain ⟨σ101, eσ101, h⟩ := nmS h
  refine y_putl (pc := 11) C fpX10_237 rfl kd_long hx0 dX10_say_11 ?_
  rw [← eσ101]
  cases h
  exact y_vret (pc := 14) C dX10_say_14
noncomputable def fX10_say (fu : Nat) (x0 : Nat) (x1 : Int64) (σ : St) : Option (St) := if xk x0 = 8 then fX10_say_0 fu x0 x1 σ else none
theorem mX10_say {l : Launch} {D : va_G} {cA : ClassId} {bs fu : Nat} {ad : Nat → Nat} {x0 : Nat} {x1 : Int64} {σ : St} {q : St} (h : fX10_say fu x0 x1 σ = some q) : Ct l D cA bs ad yX10_say cX10_say 3 none 0 0 [.ref (ad x0), .long x1] σ none q := by
  unfold fX10_say at h
  by_cases hx0 : xk x0 = 8
  case neg => rw [if_neg hx0] at h; cases h
  rw [if_pos hx0] at h
  exact Ct.of (by decide) (Nat.le_of_ble_eq_true rfl) (fun p e s m args below meth c C => tX10_say_0 (fu := fu) C hx0 h)
noncomputable def fX10_sayStreet_78b (fu : Nat) (k78 : Int32 → St → Option (St)) (x0 : Nat) (x1 : Int32) (σ : St) : Option (St) :=
  if (3 : Int32) ≤ x1 then
    some σ
  else
    (fX10_tellCarried fu x0 x1 σ).bind fun (q102 : Int32 × St) =>
    (fX10_say fu x0 q102.1.toInt64 q102.2).bind fun (q103 : St) =>
    nm (x1 + (1 : Int32)) fun (y104 : Int32) =>
    k78 y104 q103
set_option maxHeartbeats 4000000 in
set_option maxRecDepth 100000 in
theorem tX10_sayStreet_78b {l : Launch} {D : va_G} {cA : ClassId} {bs : Nat} {ad : Nat → Nat} {p : Program} {e : Env} {s : State} {m : MethodId} {args : Array Value} {below : List Frame} {meth : Method} {c : Code} {fu : Nat} (C : Cx D cA bs ad RX10 cX10_sayStreet 2 none p s m args meth c) {k78 : Int32 → St → Option (St)} {x0 : Nat} {x1 : Int32} {q : St} (hx0 : xk x0 = 8) (hk78 : ∀ (x1 : Int32) (σ : St), k78 x1 σ = some q → Y D cA bs ad p l e (rmY 2 48) s m args below meth c 2 0 0 (QM D cA bs ad below args s none q) σ 78 [(0, .ref (ad x0)), (1, .int x1)] []) {σ : St} (h : fX10_sayStreet_78b fu k78 x0 x1 σ = some q) : Y D cA bs ad p l e (rmY 2 48) s m args below meth c 2 0 0 (QM D cA bs ad below args s none q) σ 78 [(0, .ref (ad x0)), (1, .int x1)] [] := by
  unfold fX10_sayStreet_78b at h
  refine y_iload_n (pc := 78) (q := 1) C dX10_sayStreet_78 rfl rfl ?_
  refine y_iconst (pc := 79) (v := (3 : Int32)) C dX10_sayStreet_79 (by decide) ?_
  refine y_icmp_ge (pc := 80) (tgt := 99) C dX10_sayStreet_80 (by decide) (fun c101 => ?_) (fun c101 => ?_)
  · rw [if_pos c101] at h
    cases h
    exact y_vret (pc := 99) C dX10_sayStreet_99
  · rw [if_neg c101] at h
    refine y_aload_n (pc := 83) (q := 0) C dX10_sayStreet_83 rfl rfl ?_
    refine y_aload_n (pc := 84) (q := 0) C dX10_sayStreet_84 rfl rfl ?_
    refine y_iload_n (pc := 85) (q := 1) C dX10_sayStreet_85 rfl rfl ?_
    obtain ⟨q102, eq102, h⟩ := bdS h
    refine y_callV (pc := 86) (As := [.int x1]) (rest := [.ref (ad x0)]) C (mX10_tellCarried (fu := fu) eq102) vwX10_191 rfl (by decide) hx0 rfl rfl (Nat.le_of_ble_eq_true rfl) ⟨Nat.le_of_ble_eq_true rfl, Nat.le_of_ble_eq_true rfl⟩ ⟨Nat.le_refl _, Nat.le_refl _⟩ dX10_sayStreet_86 ?_
    show Y _ _ _ _ _ _ _ _ _ _ _ _ _ _ _ _ _ _ q102.2 89 [(0, .ref (ad x0)), (1, .int x1)] [.int q102.1, .ref (ad x0)]
    refine y_i2l (pc := 89) C dX10_sayStreet_89 ?_
    obtain ⟨q103, eq103, h⟩ := bdS h
    refine y_callV (pc := 90) (As := [.long q102.1.toInt64]) (rest := []) C (mX10_say (fu := fu) eq103) vwX10_241 rfl (by decide) hx0 rfl rfl (Nat.le_of_ble_eq_true rfl) ⟨Nat.le_of_ble_eq_true rfl, Nat.le_of_ble_eq_true rfl⟩ ⟨Nat.le_refl _, Nat.le_refl _⟩ dX10_sayStreet_90 ?_
    show Y _ _ _ _ _ _ _ _ _ _ _ _ _ _ _ _ _ _ q103 93 [(0, .ref (ad x0)), (1, .int x1)] []
    obtain ⟨y104, ey104, h⟩ := nmS h
    refine y_iinc (pc := 93) (v := y104) (k := 1) (lv' := [(1, .int y104), (0, .ref (ad x0))]) C dX10_sayStreet_93 rfl (by rw [ey104]; rfl) (by decide) rfl ?_
    refine y_goto (pc := 96) (tgt := 78) C dX10_sayStreet_96 (by decide) ?_
    refine y_sub [1, 0] (lv' := [(0, .ref (ad x0)), (1, .int y104)]) rfl ?_
    exact hk78 _ _ h
noncomputable def fX10_sayStreet_78 (fu : Nat) (x0 : Nat) : Nat → Int32 → St → Option (St) := lp (fun k78 => fX10_sayStreet_78b fu k78 x0) (fun _ _ => none)
set_option maxHeartbeats 4000000 in
theorem tX10_sayStreet_78 {l : Launch} {D : va_G} {cA : ClassId} {bs : Nat} {ad : Nat → Nat} {p : Program} {e : Env} {s : State} {m : MethodId} {args : Array Value} {below : List Frame} {meth : Method} {c : Code} {fu : Nat} (C : Cx D cA bs ad RX10 cX10_sayStreet 2 none p s m args meth c) {x0 : Nat} {q : St} (hx0 : xk x0 = 8)  : ∀ (n : Nat) (x1 : Int32) (σ : St), fX10_sayStreet_78 fu  x0 n x1 σ = some q → Y D cA bs ad p l e (rmY 2 48) s m args below meth c 2 0 0 (QM D cA bs ad below args s none q) σ 78 [(0, .ref (ad x0)), (1, .int x1)] [] := by
  intro n
  induction n with
  | zero => intro x1 σ h; cases h
  | succ n ih => intro x1 σ h; exact tX10_sayStreet_78b (fu := fu) C hx0 ih h
noncomputable def fX10_sayStreet_73 (fu : Nat) (x0 : Nat) (s0 : Nat) (s1 : Int64) (σ : St) : Option (St) :=
  (fX10_say fu s0 s1 σ).bind fun (q101 : St) =>
  fX10_sayStreet_78 fu x0 fu (0 : Int32) q101
set_option maxHeartbeats 4000000 in
set_option maxRecDepth 100000 in
theorem tX10_sayStreet_73 {l : Launch} {D : va_G} {cA : ClassId} {bs : Nat} {ad : Nat → Nat} {p : Program} {e : Env} {s : State} {m : MethodId} {args : Array Value} {below : List Frame} {meth : Method} {c : Code} {fu : Nat} (C : Cx D cA bs ad RX10 cX10_sayStreet 2 none p s m args meth c) {x0 : Nat} {s0 : Nat} {s1 : Int64} {q : St} (hx0 : xk x0 = 8) (hs0 : xk s0 = 8) {σ : St} (h : fX10_sayStreet_73 fu x0 s0 s1 σ = some q) : Y D cA bs ad p l e (rmY 2 48) s m args below meth c 2 0 0 (QM D cA bs ad below args s none q) σ 73 [(0, .ref (ad x0))] [.long s1, .ref (ad s0)] := by
  unfold fX10_sayStreet_73 at h
  obtain ⟨q101, eq101, h⟩ := bdS h
  refine y_callV (pc := 73) (As := [.long s1]) (rest := []) C (mX10_say (fu := fu) eq101) vwX10_241 rfl (by decide) hs0 rfl rfl (Nat.le_of_ble_eq_true rfl) ⟨Nat.le_of_ble_eq_true rfl, Nat.le_of_ble_eq_true rfl⟩ ⟨Nat.le_refl _, Nat.le_refl _⟩ dX10_sayStreet_73 ?_
  show Y _ _ _ _ _ _ _ _ _ _ _ _ _ _ _ _ _ _ q101 76 [(0, .ref (ad x0))] []
  refine y_iconst (pc := 76) (v := (0 : Int32)) C dX10_sayStreet_76 (by decide) ?_
  refine y_istore_n (pc := 77) (lv' := [(1, .int (0 : Int32)), (0, .ref (ad x0))]) C dX10_sayStreet_77 rfl (by decide) rfl ?_
  refine y_sub [1, 0] (lv' := [(0, .ref (ad x0)), (1, .int (0 : Int32))]) rfl ?_
  exact tX10_sayStreet_78 (fu := fu) C hx0 fu _ _ h
noncomputable def fX10_sayStreet_24b (fu : Nat) (k24 : Int32 → St → Option (St)) (x0 : Nat) (x1 : Int32) (σ : St) : Option (St) :=
  if (σ.1 x0 12) ≤ x1 then
    (fX10_isLawful fu x0 (rf x0 16) σ).bind fun (q102 : Int32 × St) =>
    if q102.1 = 0 then
      fX10_sayStreet_73 fu x0 x0 (0 : Int64) q102.2
    else
      fX10_sayStreet_73 fu x0 x0 (1 : Int64) q102.2
  else
    (fX10_blockAt fu x0 (((σ.1 x0 12) - (1 : Int32)) - x1) σ).bind fun (q104 : Int32 × St) =>
    (ast q104.2 (rf x0 19) 7 x1 q104.1).bind fun (σ105 : St) =>
    nm (x1 + (1 : Int32)) fun (y106 : Int32) =>
    k24 y106 σ105
set_option maxHeartbeats 4000000 in
set_option maxRecDepth 100000 in
theorem tX10_sayStreet_24b {l : Launch} {D : va_G} {cA : ClassId} {bs : Nat} {ad : Nat → Nat} {p : Program} {e : Env} {s : State} {m : MethodId} {args : Array Value} {below : List Frame} {meth : Method} {c : Code} {fu : Nat} (C : Cx D cA bs ad RX10 cX10_sayStreet 2 none p s m args meth c) {k24 : Int32 → St → Option (St)} {x0 : Nat} {x1 : Int32} {q : St} (hx0 : xk x0 = 8) (hk24 : ∀ (x1 : Int32) (σ : St), k24 x1 σ = some q → Y D cA bs ad p l e (rmY 2 48) s m args below meth c 2 0 0 (QM D cA bs ad below args s none q) σ 24 [(0, .ref (ad x0)), (1, .int x1)] []) {σ : St} (h : fX10_sayStreet_24b fu k24 x0 x1 σ = some q) : Y D cA bs ad p l e (rmY 2 48) s m args below meth c 2 0 0 (QM D cA bs ad below args s none q) σ 24 [(0, .ref (ad x0)), (1, .int x1)] [] := by
  unfold fX10_sayStreet_24b at h
  refine y_iload_n (pc := 24) (q := 1) C dX10_sayStreet_24 rfl rfl ?_
  refine y_aload_n (pc := 25) (q := 0) C dX10_sayStreet_25 rfl rfl ?_
  refine y_geti (pc := 26) C faX10_105 rfl hx0 dX10_sayStreet_26 ?_
  refine y_icmp_ge (pc := 29) (tgt := 56) C dX10_sayStreet_29 (by decide) (fun c101 => ?_) (fun c101 => ?_)
  · rw [if_pos c101] at h
    refine y_aload_n (pc := 56) (q := 0) C dX10_sayStreet_56 rfl rfl ?_
    refine y_aload_n (pc := 57) (q := 0) C dX10_sayStreet_57 rfl rfl ?_
    refine y_aload_n (pc := 58) (q := 0) C dX10_sayStreet_58 rfl rfl ?_
    refine y_getr (pc := 59) C faX10_22 rfl hx0 dX10_sayStreet_59 ?_
    obtain ⟨q102, eq102, h⟩ := bdS h
    refine y_callV (pc := 62) (As := [.ref (ad (rf x0 16))]) (rest := [.ref (ad x0)]) C (mX10_isLawful (fu := fu) eq102) vwX10_144 rfl (by decide) hx0 rfl rfl (Nat.le_of_ble_eq_true rfl) ⟨Nat.le_of_ble_eq_true rfl, Nat.le_of_ble_eq_true rfl⟩ ⟨Nat.le_refl _, Nat.le_refl _⟩ dX10_sayStreet_62 ?_
    show Y _ _ _ _ _ _ _ _ _ _ _ _ _ _ _ _ _ _ q102.2 65 [(0, .ref (ad x0)), (1, .int x1)] [.int q102.1, .ref (ad x0)]
    refine y_if_eq (pc := 65) (tgt := 72) C dX10_sayStreet_65 (by decide) (fun c103 => ?_) (fun c103 => ?_)
    · rw [if_pos c103] at h
      refine y_lconst (pc := 72) (v := (0 : Int64)) C dX10_sayStreet_72 (by decide) ?_
      refine y_sub [0] (lv' := [(0, .ref (ad x0))]) rfl ?_
      exact tX10_sayStreet_73 (fu := fu) C hx0 hx0 h
    · rw [if_neg c103] at h
      refine y_lconst (pc := 68) (v := (1 : Int64)) C dX10_sayStreet_68 (by decide) ?_
      refine y_goto (pc := 69) (tgt := 73) C dX10_sayStreet_69 (by decide) ?_
      refine y_sub [0] (lv' := [(0, .ref (ad x0))]) rfl ?_
      exact tX10_sayStreet_73 (fu := fu) C hx0 hx0 h
  · rw [if_neg c101] at h
    refine y_aload_n (pc := 32) (q := 0) C dX10_sayStreet_32 rfl rfl ?_
    refine y_getr (pc := 33) C faX10_31 rfl hx0 dX10_sayStreet_33 ?_
    refine y_iload_n (pc := 36) (q := 1) C dX10_sayStreet_36 rfl rfl ?_
    refine y_aload_n (pc := 37) (q := 0) C dX10_sayStreet_37 rfl rfl ?_
    refine y_aload_n (pc := 38) (q := 0) C dX10_sayStreet_38 rfl rfl ?_
    refine y_geti (pc := 39) C faX10_105 rfl hx0 dX10_sayStreet_39 ?_
    refine y_iconst (pc := 42) (v := (1 : Int32)) C dX10_sayStreet_42 (by decide) ?_
    refine y_isub (pc := 43) C dX10_sayStreet_43 ?_
    refine y_iload_n (pc := 44) (q := 1) C dX10_sayStreet_44 rfl rfl ?_
    refine y_isub (pc := 45) C dX10_sayStreet_45 ?_
    obtain ⟨q104, eq104, h⟩ := bdS h
    refine y_callV (pc := 46) (As := [.int (((σ.1 x0 12) - (1 : Int32)) - x1)]) (rest := [.int x1, .ref (ad (rf x0 19))]) C (mX10_blockAt (fu := fu) eq104) vwX10_123 rfl (by decide) hx0 rfl rfl (Nat.le_of_ble_eq_true rfl) ⟨Nat.le_of_ble_eq_true rfl, Nat.le_of_ble_eq_true rfl⟩ ⟨Nat.le_refl _, Nat.le_refl _⟩ dX10_sayStreet_46 ?_
    show Y _ _ _ _ _ _ _ _ _ _ _ _ _ _ _ _ _ _ q104.2 49 [(0, .ref (ad x0)), (1, .int x1)] [.int q104.1, .int x1, .ref (ad (rf x0 19))]
    obtain ⟨σ105, eσ105, h⟩ := bdS h
    refine y_iast (pc := 49) (n := 7) C (rf_8_19 _ hx0) (by decide) eσ105 dX10_sayStreet_49 ?_
    obtain ⟨y106, ey106, h⟩ := nmS h
    refine y_iinc (pc := 50) (v := y106) (k := 1) (lv' := [(1, .int y106), (0, .ref (ad x0))]) C dX10_sayStreet_50 rfl (by rw [ey106]; rfl) (by decide) rfl ?_
    refine y_goto (pc := 53) (tgt := 24) C dX10_sayStreet_53 (by decide) ?_
    refine y_sub [1, 0] (lv' := [(0, .ref (ad x0)), (1, .int y106)]) rfl ?_
    exact hk24 _ _ h
noncomputable def fX10_sayStreet_24 (fu : Nat) (x0 : Nat) : Nat → Int32 → St → Option (St) := lp (fun k24 => fX10_sayStreet_24b fu k24 x0) (fun _ _ => none)
set_option maxHeartbeats 4000000 in
theorem tX10_sayStreet_24 {l : Launch} {D : va_G} {cA : ClassId} {bs : Nat} {ad : Nat → Nat} {p : Program} {e : Env} {s : State} {m : MethodId} {args : Array Value} {below : List Frame} {meth : Method} {c : Code} {fu : Nat} (C : Cx D cA bs ad RX10 cX10_sayStreet 2 none p s m args meth c) {x0 : Nat} {q : St} (hx0 : xk x0 = 8)  : ∀ (n : Nat) (x1 : Int32) (σ : St), fX10_sayStreet_24 fu  x0 n x1 σ = some q → Y D cA bs ad p l e (rmY 2 48) s m args below meth c 2 0 0 (QM D cA bs ad below args s none q) σ 24 [(0, .ref (ad x0)), (1, .int x1)] [] := by
  intro n
  induction n with
  | zero => intro x1 σ h; cases h
  | succ n ih => intro x1 σ h; exact tX10_sayStreet_24b (fu := fu) C hx0 ih h
noncomputable def fX10_sayStreet_0 (fu : Nat) (x0 : Nat) (σ : St) : Option (St) :=
  (fX10_worstOf fu x0 (rf x0 14) σ).bind fun (q101 : Int32 × St) =>
  (fX10_say fu x0 q101.1.toInt64 q101.2).bind fun (q102 : St) =>
  (fX10_looksOf fu x0 q102).bind fun (q103 : Int32 × St) =>
  (fX10_say fu x0 q103.1.toInt64 q103.2).bind fun (q104 : St) =>
  fX10_sayStreet_24 fu x0 fu (0 : Int32) q104
set_option maxHeartbeats 4000000 in
set_option maxRecDepth 100000 in
theorem tX10_sayStreet_0 {l : Launch} {D : va_G} {cA : ClassId} {bs : Nat} {ad : Nat → Nat} {p : Program} {e : Env} {s : State} {m : MethodId} {args : Array Value} {below : List Frame} {meth : Method} {c : Code} {fu : Nat} (C : Cx D cA bs ad RX10 cX10_sayStreet 2 none p s m args meth c) {x0 : Nat} {q : St} (hx0 : xk x0 = 8) {σ : St} (h : fX10_sayStreet_0 fu x0 σ = some q) : Y D cA bs ad p l e (rmY 2 48) s m args below meth c 2 0 0 (QM D cA bs ad below args s none q) σ 0 [(0, .ref (ad x0))] [] := by
  unfold fX10_sayStreet_0 at h
  refine y_aload_n (pc := 0) (q := 0) C dX10_sayStreet_0 rfl rfl ?_
  refine y_aload_n (pc := 1) (q := 0) C dX10_sayStreet_1 rfl rfl ?_
  refine y_aload_n (pc := 2) (q := 0) C dX10_sayStreet_2 rfl rfl ?_
  refine y_getr (pc := 3) C faX10_16 rfl hx0 dX10_sayStreet_3 ?_
  obtain ⟨q101, eq101, h⟩ := bdS h
  refine y_callV (pc := 6) (As := [.ref (ad (rf x0 14))]) (rest := [.ref (ad x0)]) C (mX10_worstOf (fu := fu) eq101) vwX10_152 rfl (by decide) hx0 rfl rfl (Nat.le_of_ble_eq_true rfl) ⟨Nat.le_of_ble_eq_true rfl, Nat.le_of_ble_eq_true rfl⟩ ⟨Nat.le_refl _, Nat.le_refl _⟩ dX10_sayStreet_6 ?_
  show Y _ _ _ _ _ _ _ _ _ _ _ _ _ _ _ _ _ _ q101.2 9 [(0, .ref (ad x0))] [.int q101.1, .ref (ad x0)]
  refine y_i2l (pc := 9) C dX10_sayStreet_9 ?_
  obtain ⟨q102, eq102, h⟩ := bdS h
  refine y_callV (pc := 10) (As := [.long q101.1.toInt64]) (rest := []) C (mX10_say (fu := fu) eq102) vwX10_241 rfl (by decide) hx0 rfl rfl (Nat.le_of_ble_eq_true rfl) ⟨Nat.le_of_ble_eq_true rfl, Nat.le_of_ble_eq_true rfl⟩ ⟨Nat.le_refl _, Nat.le_refl _⟩ dX10_sayStreet_10 ?_
  show Y _ _ _ _ _ _ _ _ _ _ _ _ _ _ _ _ _ _ q102 13 [(0, .ref (ad x0))] []
  refine y_aload_n (pc := 13) (q := 0) C dX10_sayStreet_13 rfl rfl ?_
  refine y_aload_n (pc := 14) (q := 0) C dX10_sayStreet_14 rfl rfl ?_
  obtain ⟨q103, eq103, h⟩ := bdS h
  refine y_callV (pc := 15) (As := []) (rest := [.ref (ad x0)]) C (mX10_looksOf (fu := fu) eq103) vwX10_207 rfl (by decide) hx0 rfl rfl (Nat.le_of_ble_eq_true rfl) ⟨Nat.le_of_ble_eq_true rfl, Nat.le_of_ble_eq_true rfl⟩ ⟨Nat.le_refl _, Nat.le_refl _⟩ dX10_sayStreet_15 ?_
  show Y _ _ _ _ _ _ _ _ _ _ _ _ _ _ _ _ _ _ q103.2 18 [(0, .ref (ad x0))] [.int q103.1, .ref (ad x0)]
  refine y_i2l (pc := 18) C dX10_sayStreet_18 ?_
  obtain ⟨q104, eq104, h⟩ := bdS h
  refine y_callV (pc := 19) (As := [.long q103.1.toInt64]) (rest := []) C (mX10_say (fu := fu) eq104) vwX10_241 rfl (by decide) hx0 rfl rfl (Nat.le_of_ble_eq_true rfl) ⟨Nat.le_of_ble_eq_true rfl, Nat.le_of_ble_eq_true rfl⟩ ⟨Nat.le_refl _, Nat.le_refl _⟩ dX10_sayStreet_19 ?_
  show Y _ _ _ _ _ _ _ _ _ _ _ _ _ _ _ _ _ _ q104 22 [(0, .ref (ad x0))] []
  refine y_iconst (pc := 22) (v := (0 : Int32)) C dX10_sayStreet_22 (by decide) ?_
  refine y_istore_n (pc := 23) (lv' := [(1, .int (0 : Int32)), (0, .ref (ad x0))]) C dX10_sayStreet_23 rfl (by decide) rfl ?_
  refine y_sub [1, 0] (lv' := [(0, .ref (ad x0)), (1, .int (0 : Int32))]) rfl ?_
  exact tX10_sayStreet_24 (fu := fu) C hx0 fu _ _ h
noncomputable def fX10_sayStreet (fu : Nat) (x0 : Nat) (σ : St) : Option (St) := if xk x0 = 8 then fX10_sayStreet_0 fu x0 σ else none
theorem mX10_sayStreet {l : Launch} {D : va_G} {cA : ClassId} {bs fu : Nat} {ad : Nat → Nat} {x0 : Nat} {σ : St} {q : St} (h : fX10_sayStreet fu x0 σ = some q) : Ct l D cA bs ad yX10_sayStreet cX10_sayStreet 2 none 2 48 [.ref (ad x0)] σ none q := by
  unfold fX10_sayStreet at h
  by_cases hx0 : xk x0 = 8
  case neg => rw [if_neg hx0] at h; cases h
  rw [if_pos hx0] at h
  exact Ct.of (by decide) (Nat.le_of_ble_eq_true rfl) (fun p e s m args below meth c C => tX10_sayStreet_0 (fu := fu) C hx0 h)
noncomputable def fX10_digest_42b (fu : Nat) (k32 : Int32 → St → Option (Int64 × St)) (k42 : Int32 → Int32 → St → Option (Int64 × St)) (x0 : Nat) (x1 : Int32) (x2 : Int32) (σ : St) : Option (Int64 × St) :=
  if (5 : Int32) ≤ x2 then
    nm (x1 + (1 : Int32)) fun (y102 : Int32) =>
    k32 y102 σ
  else
    (fX10_tell fu x0 x1 x2 σ).bind fun (q103 : Int32 × St) =>
    (fX10_say fu x0 q103.1.toInt64 q103.2).bind fun (q104 : St) =>
    nm (x2 + (1 : Int32)) fun (y105 : Int32) =>
    k42 x1 y105 q104
set_option maxHeartbeats 4000000 in
set_option maxRecDepth 100000 in
theorem tX10_digest_42b {l : Launch} {D : va_G} {cA : ClassId} {bs : Nat} {ad : Nat → Nat} {p : Program} {e : Env} {s : State} {m : MethodId} {args : Array Value} {below : List Frame} {meth : Method} {c : Code} {fu : Nat} (C : Cx D cA bs ad RX10 cX10_digest 3 (some .long) p s m args meth c) {k32 : Int32 → St → Option (Int64 × St)} {k42 : Int32 → Int32 → St → Option (Int64 × St)} {x0 : Nat} {x1 : Int32} {x2 : Int32} {q : Int64 × St} (hx0 : xk x0 = 8) (hk32 : ∀ (x1 : Int32) (σ : St), k32 x1 σ = some q → Y D cA bs ad p l e (rmY 3 69) s m args below meth c 3 0 0 (QM D cA bs ad below args s (some (.long q.1)) q.2) σ 32 [(0, .ref (ad x0)), (1, .int x1)] []) (hk42 : ∀ (x1 : Int32) (x2 : Int32) (σ : St), k42 x1 x2 σ = some q → Y D cA bs ad p l e (rmY 3 69) s m args below meth c 3 0 0 (QM D cA bs ad below args s (some (.long q.1)) q.2) σ 42 [(0, .ref (ad x0)), (1, .int x1), (2, .int x2)] []) {σ : St} (h : fX10_digest_42b fu k32 k42 x0 x1 x2 σ = some q) : Y D cA bs ad p l e (rmY 3 69) s m args below meth c 3 0 0 (QM D cA bs ad below args s (some (.long q.1)) q.2) σ 42 [(0, .ref (ad x0)), (1, .int x1), (2, .int x2)] [] := by
  unfold fX10_digest_42b at h
  refine y_iload_n (pc := 42) (q := 2) C dX10_digest_42 rfl rfl ?_
  refine y_iconst (pc := 43) (v := (5 : Int32)) C dX10_digest_43 (by decide) ?_
  refine y_icmp_ge (pc := 44) (tgt := 64) C dX10_digest_44 (by decide) (fun c101 => ?_) (fun c101 => ?_)
  · rw [if_pos c101] at h
    obtain ⟨y102, ey102, h⟩ := nmS h
    refine y_iinc (pc := 64) (v := y102) (k := 1) (lv' := [(1, .int y102), (0, .ref (ad x0)), (2, .int x2)]) C dX10_digest_64 rfl (by rw [ey102]; rfl) (by decide) rfl ?_
    refine y_goto (pc := 67) (tgt := 32) C dX10_digest_67 (by decide) ?_
    refine y_sub [1, 0] (lv' := [(0, .ref (ad x0)), (1, .int y102)]) rfl ?_
    exact hk32 _ _ h
  · rw [if_neg c101] at h
    refine y_aload_n (pc := 47) (q := 0) C dX10_digest_47 rfl rfl ?_
    refine y_aload_n (pc := 48) (q := 0) C dX10_digest_48 rfl rfl ?_
    refine y_iload_n (pc := 49) (q := 1) C dX10_digest_49 rfl rfl ?_
    refine y_iload_n (pc := 50) (q := 2) C dX10_digest_50 rfl rfl ?_
    obtain ⟨q103, eq103, h⟩ := bdS h
    refine y_callV (pc := 51) (As := [.int x1, .int x2]) (rest := [.ref (ad x0)]) C (mX10_tell (fu := fu) eq103) vwX10_115 rfl (by decide) hx0 rfl rfl (Nat.le_of_ble_eq_true rfl) ⟨Nat.le_of_ble_eq_true rfl, Nat.le_of_ble_eq_true rfl⟩ ⟨Nat.le_refl _, Nat.le_refl _⟩ dX10_digest_51 ?_
    show Y _ _ _ _ _ _ _ _ _ _ _ _ _ _ _ _ _ _ q103.2 54 [(0, .ref (ad x0)), (1, .int x1), (2, .int x2)] [.int q103.1, .ref (ad x0)]
    refine y_i2l (pc := 54) C dX10_digest_54 ?_
    obtain ⟨q104, eq104, h⟩ := bdS h
    refine y_callV (pc := 55) (As := [.long q103.1.toInt64]) (rest := []) C (mX10_say (fu := fu) eq104) vwX10_241 rfl (by decide) hx0 rfl rfl (Nat.le_of_ble_eq_true rfl) ⟨Nat.le_of_ble_eq_true rfl, Nat.le_of_ble_eq_true rfl⟩ ⟨Nat.le_refl _, Nat.le_refl _⟩ dX10_digest_55 ?_
    show Y _ _ _ _ _ _ _ _ _ _ _ _ _ _ _ _ _ _ q104 58 [(0, .ref (ad x0)), (1, .int x1), (2, .int x2)] []
    obtain ⟨y105, ey105, h⟩ := nmS h
    refine y_iinc (pc := 58) (v := y105) (k := 2) (lv' := [(2, .int y105), (0, .ref (ad x0)), (1, .int x1)]) C dX10_digest_58 rfl (by rw [ey105]; rfl) (by decide) rfl ?_
    refine y_goto (pc := 61) (tgt := 42) C dX10_digest_61 (by decide) ?_
    refine y_sub [1, 2, 0] (lv' := [(0, .ref (ad x0)), (1, .int x1), (2, .int y105)]) rfl ?_
    exact hk42 _ _ _ h
noncomputable def fX10_digest_42 (fu : Nat) (k32 : Int32 → St → Option (Int64 × St)) (x0 : Nat) : Nat → Int32 → Int32 → St → Option (Int64 × St) := lp (fun k42 => fX10_digest_42b fu k32 k42 x0) (fun _ _ _ => none)
set_option maxHeartbeats 4000000 in
theorem tX10_digest_42 {l : Launch} {D : va_G} {cA : ClassId} {bs : Nat} {ad : Nat → Nat} {p : Program} {e : Env} {s : State} {m : MethodId} {args : Array Value} {below : List Frame} {meth : Method} {c : Code} {fu : Nat} (C : Cx D cA bs ad RX10 cX10_digest 3 (some .long) p s m args meth c) {k32 : Int32 → St → Option (Int64 × St)} {x0 : Nat} {q : Int64 × St} (hx0 : xk x0 = 8) (hk32 : ∀ (x1 : Int32) (σ : St), k32 x1 σ = some q → Y D cA bs ad p l e (rmY 3 69) s m args below meth c 3 0 0 (QM D cA bs ad below args s (some (.long q.1)) q.2) σ 32 [(0, .ref (ad x0)), (1, .int x1)] []) : ∀ (n : Nat) (x1 : Int32) (x2 : Int32) (σ : St), fX10_digest_42 fu k32 x0 n x1 x2 σ = some q → Y D cA bs ad p l e (rmY 3 69) s m args below meth c 3 0 0 (QM D cA bs ad below args s (some (.long q.1)) q.2) σ 42 [(0, .ref (ad x0)), (1, .int x1), (2, .int x2)] [] := by
  intro n
  induction n with
  | zero => intro x1 x2 σ h; cases h
  | succ n ih => intro x1 x2 σ h; exact tX10_digest_42b (fu := fu) C hx0 hk32 ih h
noncomputable def fX10_digest_135b (fu : Nat) (k135 : Int32 → St → Option (Int64 × St)) (x0 : Nat) (x1 : Int32) (σ : St) : Option (Int64 × St) :=
  if (7 : Int32) ≤ x1 then
    some (σ.2, σ)
  else
    (fX10_countOf fu x0 x1 σ).bind fun (q102 : Int32 × St) =>
    (fX10_say fu x0 q102.1.toInt64 q102.2).bind fun (q103 : St) =>
    nm (x1 + (1 : Int32)) fun (y104 : Int32) =>
    k135 y104 q103
set_option maxHeartbeats 4000000 in
set_option maxRecDepth 100000 in
theorem tX10_digest_135b {l : Launch} {D : va_G} {cA : ClassId} {bs : Nat} {ad : Nat → Nat} {p : Program} {e : Env} {s : State} {m : MethodId} {args : Array Value} {below : List Frame} {meth : Method} {c : Code} {fu : Nat} (C : Cx D cA bs ad RX10 cX10_digest 3 (some .long) p s m args meth c) {k135 : Int32 → St → Option (Int64 × St)} {x0 : Nat} {x1 : Int32} {q : Int64 × St} (hx0 : xk x0 = 8) (hk135 : ∀ (x1 : Int32) (σ : St), k135 x1 σ = some q → Y D cA bs ad p l e (rmY 3 69) s m args below meth c 3 0 0 (QM D cA bs ad below args s (some (.long q.1)) q.2) σ 135 [(0, .ref (ad x0)), (1, .int x1)] []) {σ : St} (h : fX10_digest_135b fu k135 x0 x1 σ = some q) : Y D cA bs ad p l e (rmY 3 69) s m args below meth c 3 0 0 (QM D cA bs ad below args s (some (.long q.1)) q.2) σ 135 [(0, .ref (ad x0)), (1, .int x1)] [] := by
  unfold fX10_digest_135b at h
  refine y_iload_n (pc := 135) (q := 1) C dX10_digest_135 rfl rfl ?_
  refine y_bipush (pc := 136) (v := (7 : Int32)) C dX10_digest_136 (by decide) ?_
  refine y_icmp_ge (pc := 138) (tgt := 157) C dX10_digest_138 (by decide) (fun c101 => ?_) (fun c101 => ?_)
  · rw [if_pos c101] at h
    refine y_aload_n (pc := 157) (q := 0) C dX10_digest_157 rfl rfl ?_
    refine y_getl (pc := 158) C faX10_237 rfl hx0 dX10_digest_158 ?_
    cases h
    exact y_lret (pc := 161) C dX10_digest_161
  · rw [if_neg c101] at h
    refine y_aload_n (pc := 141) (q := 0) C dX10_digest_141 rfl rfl ?_
    refine y_aload_n (pc := 142) (q := 0) C dX10_digest_142 rfl rfl ?_
    refine y_iload_n (pc := 143) (q := 1) C dX10_digest_143 rfl rfl ?_
    obtain ⟨q102, eq102, h⟩ := bdS h
    refine y_callV (pc := 144) (As := [.int x1]) (rest := [.ref (ad x0)]) C (mX10_countOf (fu := fu) eq102) vwX10_232 rfl (by decide) hx0 rfl rfl (Nat.le_of_ble_eq_true rfl) ⟨Nat.le_of_ble_eq_true rfl, Nat.le_of_ble_eq_true rfl⟩ ⟨Nat.le_refl _, Nat.le_refl _⟩ dX10_digest_144 ?_
    show Y _ _ _ _ _ _ _ _ _ _ _ _ _ _ _ _ _ _ q102.2 147 [(0, .ref (ad x0)), (1, .int x1)] [.int q102.1, .ref (ad x0)]
    refine y_i2l (pc := 147) C dX10_digest_147 ?_
    obtain ⟨q103, eq103, h⟩ := bdS h
    refine y_callV (pc := 148) (As := [.long q102.1.toInt64]) (rest := []) C (mX10_say (fu := fu) eq103) vwX10_241 rfl (by decide) hx0 rfl rfl (Nat.le_of_ble_eq_true rfl) ⟨Nat.le_of_ble_eq_true rfl, Nat.le_of_ble_eq_true rfl⟩ ⟨Nat.le_refl _, Nat.le_refl _⟩ dX10_digest_148 ?_
    show Y _ _ _ _ _ _ _ _ _ _ _ _ _ _ _ _ _ _ q103 151 [(0, .ref (ad x0)), (1, .int x1)] []
    obtain ⟨y104, ey104, h⟩ := nmS h
    refine y_iinc (pc := 151) (v := y104) (k := 1) (lv' := [(1, .int y104), (0, .ref (ad x0))]) C dX10_digest_151 rfl (by rw [ey104]; rfl) (by decide) rfl ?_
    refine y_goto (pc := 154) (tgt := 135) C dX10_digest_154 (by decide) ?_
    refine y_sub [1, 0] (lv' := [(0, .ref (ad x0)), (1, .int y104)]) rfl ?_
    exact hk135 _ _ h
noncomputable def fX10_digest_135 (fu : Nat) (x0 : Nat) : Nat → Int32 → St → Option (Int64 × St) := lp (fun k135 => fX10_digest_135b fu k135 x0) (fun _ _ => none)
set_option maxHeartbeats 4000000 in
theorem tX10_digest_135 {l : Launch} {D : va_G} {cA : ClassId} {bs : Nat} {ad : Nat → Nat} {p : Program} {e : Env} {s : State} {m : MethodId} {args : Array Value} {below : List Frame} {meth : Method} {c : Code} {fu : Nat} (C : Cx D cA bs ad RX10 cX10_digest 3 (some .long) p s m args meth c) {x0 : Nat} {q : Int64 × St} (hx0 : xk x0 = 8)  : ∀ (n : Nat) (x1 : Int32) (σ : St), fX10_digest_135 fu  x0 n x1 σ = some q → Y D cA bs ad p l e (rmY 3 69) s m args below meth c 3 0 0 (QM D cA bs ad below args s (some (.long q.1)) q.2) σ 135 [(0, .ref (ad x0)), (1, .int x1)] [] := by
  intro n
  induction n with
  | zero => intro x1 σ h; cases h
  | succ n ih => intro x1 σ h; exact tX10_digest_135b (fu := fu) C hx0 ih h
noncomputable def fX10_digest_108b (fu : Nat) (k108 : Int32 → St → Option (Int64 × St)) (x0 : Nat) (x1 : Int32) (σ : St) : Option (Int64 × St) :=
  if (σ.1 x0 1) ≤ x1 then
    fX10_digest_135 fu x0 fu (0 : Int32) σ
  else
    (ald σ (rf x0 0) 16 x1).bind fun (v102 : Int32) =>
    (fX10_say fu x0 v102.toInt64 σ).bind fun (q103 : St) =>
    nm (x1 + (1 : Int32)) fun (y104 : Int32) =>
    k108 y104 q103
set_option maxHeartbeats 4000000 in
set_option maxRecDepth 100000 in
theorem tX10_digest_108b {l : Launch} {D : va_G} {cA : ClassId} {bs : Nat} {ad : Nat → Nat} {p : Program} {e : Env} {s : State} {m : MethodId} {args : Array Value} {below : List Frame} {meth : Method} {c : Code} {fu : Nat} (C : Cx D cA bs ad RX10 cX10_digest 3 (some .long) p s m args meth c) {k108 : Int32 → St → Option (Int64 × St)} {x0 : Nat} {x1 : Int32} {q : Int64 × St} (hx0 : xk x0 = 8) (hk108 : ∀ (x1 : Int32) (σ : St), k108 x1 σ = some q → Y D cA bs ad p l e (rmY 3 69) s m args below meth c 3 0 0 (QM D cA bs ad below args s (some (.long q.1)) q.2) σ 108 [(0, .ref (ad x0)), (1, .int x1)] []) {σ : St} (h : fX10_digest_108b fu k108 x0 x1 σ = some q) : Y D cA bs ad p l e (rmY 3 69) s m args below meth c 3 0 0 (QM D cA bs ad below args s (some (.long q.1)) q.2) σ 108 [(0, .ref (ad x0)), (1, .int x1)] [] := by
  unfold fX10_digest_108b at h
  refine y_iload_n (pc := 108) (q := 1) C dX10_digest_108 rfl rfl ?_
  refine y_aload_n (pc := 109) (q := 0) C dX10_digest_109 rfl rfl ?_
  refine y_geti (pc := 110) C faX10_55 rfl hx0 dX10_digest_110 ?_
  refine y_icmp_ge (pc := 113) (tgt := 133) C dX10_digest_113 (by decide) (fun c101 => ?_) (fun c101 => ?_)
  · rw [if_pos c101] at h
    refine y_iconst (pc := 133) (v := (0 : Int32)) C dX10_digest_133 (by decide) ?_
    refine y_istore_n (pc := 134) (lv' := [(1, .int (0 : Int32)), (0, .ref (ad x0))]) C dX10_digest_134 rfl (by decide) rfl ?_
    refine y_sub [1, 0] (lv' := [(0, .ref (ad x0)), (1, .int (0 : Int32))]) rfl ?_
    exact tX10_digest_135 (fu := fu) C hx0 fu _ _ h
  · rw [if_neg c101] at h
    refine y_aload_n (pc := 116) (q := 0) C dX10_digest_116 rfl rfl ?_
    refine y_aload_n (pc := 117) (q := 0) C dX10_digest_117 rfl rfl ?_
    refine y_getr (pc := 118) C faX10_7 rfl hx0 dX10_digest_118 ?_
    refine y_iload_n (pc := 121) (q := 1) C dX10_digest_121 rfl rfl ?_
    obtain ⟨v102, ev102, h⟩ := bdS h
    refine y_iald (pc := 122) (n := 16) C (rf_8_0 _ hx0) (by decide) ev102 dX10_digest_122 ?_
    refine y_i2l (pc := 123) C dX10_digest_123 ?_
    obtain ⟨q103, eq103, h⟩ := bdS h
    refine y_callV (pc := 124) (As := [.long v102.toInt64]) (rest := []) C (mX10_say (fu := fu) eq103) vwX10_241 rfl (by decide) hx0 rfl rfl (Nat.le_of_ble_eq_true rfl) ⟨Nat.le_of_ble_eq_true rfl, Nat.le_of_ble_eq_true rfl⟩ ⟨Nat.le_refl _, Nat.le_refl _⟩ dX10_digest_124 ?_
    show Y _ _ _ _ _ _ _ _ _ _ _ _ _ _ _ _ _ _ q103 127 [(0, .ref (ad x0)), (1, .int x1)] []
    obtain ⟨y104, ey104, h⟩ := nmS h
    refine y_iinc (pc := 127) (v := y104) (k := 1) (lv' := [(1, .int y104), (0, .ref (ad x0))]) C dX10_digest_127 rfl (by rw [ey104]; rfl) (by decide) rfl ?_
    refine y_goto (pc := 130) (tgt := 108) C dX10_digest_130 (by decide) ?_
    refine y_sub [1, 0] (lv' := [(0, .ref (ad x0)), (1, .int y104)]) rfl ?_
    exact hk108 _ _ h
noncomputable def fX10_digest_108 (fu : Nat) (x0 : Nat) : Nat → Int32 → St → Option (Int64 × St) := lp (fun k108 => fX10_digest_108b fu k108 x0) (fun _ _ => none)
set_option maxHeartbeats 4000000 in
theorem tX10_digest_108 {l : Launch} {D : va_G} {cA : ClassId} {bs : Nat} {ad : Nat → Nat} {p : Program} {e : Env} {s : State} {m : MethodId} {args : Array Value} {below : List Frame} {meth : Method} {c : Code} {fu : Nat} (C : Cx D cA bs ad RX10 cX10_digest 3 (some .long) p s m args meth c) {x0 : Nat} {q : Int64 × St} (hx0 : xk x0 = 8)  : ∀ (n : Nat) (x1 : Int32) (σ : St), fX10_digest_108 fu  x0 n x1 σ = some q → Y D cA bs ad p l e (rmY 3 69) s m args below meth c 3 0 0 (QM D cA bs ad below args s (some (.long q.1)) q.2) σ 108 [(0, .ref (ad x0)), (1, .int x1)] [] := by
  intro n
  induction n with
  | zero => intro x1 σ h; cases h
  | succ n ih => intro x1 σ h; exact tX10_digest_108b (fu := fu) C hx0 ih h
noncomputable def fX10_digest_106 (fu : Nat) (x0 : Nat) (σ : St) : Option (Int64 × St) :=
  fX10_digest_108 fu x0 fu (0 : Int32) σ
set_option maxHeartbeats 4000000 in
set_option maxRecDepth 100000 in
theorem tX10_digest_106 {l : Launch} {D : va_G} {cA : ClassId} {bs : Nat} {ad : Nat → Nat} {p : Program} {e : Env} {s : State} {m : MethodId} {args : Array Value} {below : List Frame} {meth : Method} {c : Code} {fu : Nat} (C : Cx D cA bs ad RX10 cX10_digest 3 (some .long) p s m args meth c) {x0 : Nat} {q : Int64 × St} (hx0 : xk x0 = 8) {σ : St} (h : fX10_digest_106 fu x0 σ = some q) : Y D cA bs ad p l e (rmY 3 69) s m args below meth c 3 0 0 (QM D cA bs ad below args s (some (.long q.1)) q.2) σ 106 [(0, .ref (ad x0))] [] := by
  unfold fX10_digest_106 at h
  refine y_iconst (pc := 106) (v := (0 : Int32)) C dX10_digest_106 (by decide) ?_
  refine y_istore_n (pc := 107) (lv' := [(1, .int (0 : Int32)), (0, .ref (ad x0))]) C dX10_digest_107 rfl (by decide) rfl ?_
  refine y_sub [1, 0] (lv' := [(0, .ref (ad x0)), (1, .int (0 : Int32))]) rfl ?_
  exact tX10_digest_108 (fu := fu) C hx0 fu _ _ h
noncomputable def fX10_digest_72b (fu : Nat) (k72 : Int32 → St → Option (Int64 × St)) (x0 : Nat) (x1 : Int32) (σ : St) : Option (Int64 × St) :=
  if (7 : Int32) ≤ x1 then
    (fX10_lacks fu x0 σ).bind fun (q102 : Int32 × St) =>
    if q102.1 = 0 then
      (fX10_sayStreet fu x0 q102.2).bind fun (q104 : St) =>
      fX10_digest_106 fu x0 q104
    else
      fX10_digest_106 fu x0 q102.2
  else
    (ald σ (rf x0 18) 7 x1).bind fun (v105 : Int32) =>
    (fX10_say fu x0 v105.toInt64 σ).bind fun (q106 : St) =>
    nm (x1 + (1 : Int32)) fun (y107 : Int32) =>
    k72 y107 q106
set_option maxHeartbeats 4000000 in
set_option maxRecDepth 100000 in
theorem tX10_digest_72b {l : Launch} {D : va_G} {cA : ClassId} {bs : Nat} {ad : Nat → Nat} {p : Program} {e : Env} {s : State} {m : MethodId} {args : Array Value} {below : List Frame} {meth : Method} {c : Code} {fu : Nat} (C : Cx D cA bs ad RX10 cX10_digest 3 (some .long) p s m args meth c) {k72 : Int32 → St → Option (Int64 × St)} {x0 : Nat} {x1 : Int32} {q : Int64 × St} (hx0 : xk x0 = 8) (hk72 : ∀ (x1 : Int32) (σ : St), k72 x1 σ = some q → Y D cA bs ad p l e (rmY 3 69) s m args below meth c 3 0 0 (QM D cA bs ad below args s (some (.long q.1)) q.2) σ 72 [(0, .ref (ad x0)), (1, .int x1)] []) {σ : St} (h : fX10_digest_72b fu k72 x0 x1 σ = some q) : Y D cA bs ad p l e (rmY 3 69) s m args below meth c 3 0 0 (QM D cA bs ad below args s (some (.long q.1)) q.2) σ 72 [(0, .ref (ad x0)), (1, .int x1)] [] := by
  unfold fX10_digest_72b at h
  refine y_iload_n (pc := 72) (q := 1) C dX10_digest_72 rfl rfl ?_
  refine y_bipush (pc := 73) (v := (7 : Int32)) C dX10_digest_73 (by decide) ?_
  refine y_icmp_ge (pc := 75) (tgt := 95) C dX10_digest_75 (by decide) (fun c101 => ?_) (fun c101 => ?_)
  · rw [if_pos c101] at h
    refine y_aload_n (pc := 95) (q := 0) C dX10_digest_95 rfl rfl ?_
    obtain ⟨q102, eq102, h⟩ := bdS h
    refine y_callV (pc := 96) (As := []) (rest := []) C (mX10_lacks (fu := fu) eq102) vwX10_137 rfl (by decide) hx0 rfl rfl (Nat.le_of_ble_eq_true rfl) ⟨Nat.le_of_ble_eq_true rfl, Nat.le_of_ble_eq_true rfl⟩ ⟨Nat.le_refl _, Nat.le_refl _⟩ dX10_digest_96 ?_
    show Y _ _ _ _ _ _ _ _ _ _ _ _ _ _ _ _ _ _ q102.2 99 [(0, .ref (ad x0)), (1, .int x1)] [.int q102.1]
    refine y_if_ne (pc := 99) (tgt := 106) C dX10_digest_99 (by decide) (fun c103 => ?_) (fun c103 => ?_)
    · rw [if_neg c103] at h
      refine y_sub [0] (lv' := [(0, .ref (ad x0))]) rfl ?_
      exact tX10_digest_106 (fu := fu) C hx0 h
    · rw [if_pos c103] at h
      refine y_aload_n (pc := 102) (q := 0) C dX10_digest_102 rfl rfl ?_
      obtain ⟨q104, eq104, h⟩ := bdS h
      refine y_callV (pc := 103) (As := []) (rest := []) C (mX10_sayStreet (fu := fu) eq104) vwX10_247 rfl (by decide) hx0 rfl rfl (Nat.le_of_ble_eq_true rfl) ⟨Nat.le_of_ble_eq_true rfl, Nat.le_of_ble_eq_true rfl⟩ ⟨Nat.le_refl _, Nat.le_refl _⟩ dX10_digest_103 ?_
      show Y _ _ _ _ _ _ _ _ _ _ _ _ _ _ _ _ _ _ q104 106 [(0, .ref (ad x0)), (1, .int x1)] []
      refine y_sub [0] (lv' := [(0, .ref (ad x0))]) rfl ?_
      exact tX10_digest_106 (fu := fu) C hx0 h
  · rw [if_neg c101] at h
    refine y_aload_n (pc := 78) (q := 0) C dX10_digest_78 rfl rfl ?_
    refine y_aload_n (pc := 79) (q := 0) C dX10_digest_79 rfl rfl ?_
    refine y_getr (pc := 80) C faX10_28 rfl hx0 dX10_digest_80 ?_
    refine y_iload_n (pc := 83) (q := 1) C dX10_digest_83 rfl rfl ?_
    obtain ⟨v105, ev105, h⟩ := bdS h
    refine y_iald (pc := 84) (n := 7) C (rf_8_18 _ hx0) (by decide) ev105 dX10_digest_84 ?_
    refine y_i2l (pc := 85) C dX10_digest_85 ?_
    obtain ⟨q106, eq106, h⟩ := bdS h
    refine y_callV (pc := 86) (As := [.long v105.toInt64]) (rest := []) C (mX10_say (fu := fu) eq106) vwX10_241 rfl (by decide) hx0 rfl rfl (Nat.le_of_ble_eq_true rfl) ⟨Nat.le_of_ble_eq_true rfl, Nat.le_of_ble_eq_true rfl⟩ ⟨Nat.le_refl _, Nat.le_refl _⟩ dX10_digest_86 ?_
    show Y _ _ _ _ _ _ _ _ _ _ _ _ _ _ _ _ _ _ q106 89 [(0, .ref (ad x0)), (1, .int x1)] []
    obtain ⟨y107, ey107, h⟩ := nmS h
    refine y_iinc (pc := 89) (v := y107) (k := 1) (lv' := [(1, .int y107), (0, .ref (ad x0))]) C dX10_digest_89 rfl (by rw [ey107]; rfl) (by decide) rfl ?_
    refine y_goto (pc := 92) (tgt := 72) C dX10_digest_92 (by decide) ?_
    refine y_sub [1, 0] (lv' := [(0, .ref (ad x0)), (1, .int y107)]) rfl ?_
    exact hk72 _ _ h
noncomputable def fX10_digest_72 (fu : Nat) (x0 : Nat) : Nat → Int32 → St → Option (Int64 × St) := lp (fun k72 => fX10_digest_72b fu k72 x0) (fun _ _ => none)
set_option maxHeartbeats 4000000 in
theorem tX10_digest_72 {l : Launch} {D : va_G} {cA : ClassId} {bs : Nat} {ad : Nat → Nat} {p : Program} {e : Env} {s : State} {m : MethodId} {args : Array Value} {below : List Frame} {meth : Method} {c : Code} {fu : Nat} (C : Cx D cA bs ad RX10 cX10_digest 3 (some .long) p s m args meth c) {x0 : Nat} {q : Int64 × St} (hx0 : xk x0 = 8)  : ∀ (n : Nat) (x1 : Int32) (σ : St), fX10_digest_72 fu  x0 n x1 σ = some q → Y D cA bs ad p l e (rmY 3 69) s m args below meth c 3 0 0 (QM D cA bs ad below args s (some (.long q.1)) q.2) σ 72 [(0, .ref (ad x0)), (1, .int x1)] [] := by
  intro n
  induction n with
  | zero => intro x1 σ h; cases h
  | succ n ih => intro x1 σ h; exact tX10_digest_72b (fu := fu) C hx0 ih h
noncomputable def fX10_digest_32b (fu : Nat) (k32 : Int32 → St → Option (Int64 × St)) (x0 : Nat) (x1 : Int32) (σ : St) : Option (Int64 × St) :=
  if (σ.1 x0 12) ≤ x1 then
    fX10_digest_72 fu x0 fu (0 : Int32) σ
  else
    fX10_digest_42 fu k32 x0 fu x1 (0 : Int32) σ
set_option maxHeartbeats 4000000 in
set_option maxRecDepth 100000 in
theorem tX10_digest_32b {l : Launch} {D : va_G} {cA : ClassId} {bs : Nat} {ad : Nat → Nat} {p : Program} {e : Env} {s : State} {m : MethodId} {args : Array Value} {below : List Frame} {meth : Method} {c : Code} {fu : Nat} (C : Cx D cA bs ad RX10 cX10_digest 3 (some .long) p s m args meth c) {k32 : Int32 → St → Option (Int64 × St)} {x0 : Nat} {x1 : Int32} {q : Int64 × St} (hx0 : xk x0 = 8) (hk32 : ∀ (x1 : Int32) (σ : St), k32 x1 σ = some q → Y D cA bs ad p l e (rmY 3 69) s m args below meth c 3 0 0 (QM D cA bs ad below args s (some (.long q.1)) q.2) σ 32 [(0, .ref (ad x0)), (1, .int x1)] []) {σ : St} (h : fX10_digest_32b fu k32 x0 x1 σ = some q) : Y D cA bs ad p l e (rmY 3 69) s m args below meth c 3 0 0 (QM D cA bs ad below args s (some (.long q.1)) q.2) σ 32 [(0, .ref (ad x0)), (1, .int x1)] [] := by
  unfold fX10_digest_32b at h
  refine y_iload_n (pc := 32) (q := 1) C dX10_digest_32 rfl rfl ?_
  refine y_aload_n (pc := 33) (q := 0) C dX10_digest_33 rfl rfl ?_
  refine y_geti (pc := 34) C faX10_105 rfl hx0 dX10_digest_34 ?_
  refine y_icmp_ge (pc := 37) (tgt := 70) C dX10_digest_37 (by decide) (fun c101 => ?_) (fun c101 => ?_)
  · rw [if_pos c101] at h
    refine y_iconst (pc := 70) (v := (0 : Int32)) C dX10_digest_70 (by decide) ?_
    refine y_istore_n (pc := 71) (lv' := [(1, .int (0 : Int32)), (0, .ref (ad x0))]) C dX10_digest_71 rfl (by decide) rfl ?_
    refine y_sub [1, 0] (lv' := [(0, .ref (ad x0)), (1, .int (0 : Int32))]) rfl ?_
    exact tX10_digest_72 (fu := fu) C hx0 fu _ _ h
  · rw [if_neg c101] at h
    refine y_iconst (pc := 40) (v := (0 : Int32)) C dX10_digest_40 (by decide) ?_
    refine y_istore_n (pc := 41) (lv' := [(2, .int (0 : Int32)), (0, .ref (ad x0)), (1, .int x1)]) C dX10_digest_41 rfl (by decide) rfl ?_
    refine y_sub [1, 2, 0] (lv' := [(0, .ref (ad x0)), (1, .int x1), (2, .int (0 : Int32))]) rfl ?_
    exact tX10_digest_42 (fu := fu) C hx0 hk32 fu _ _ _ h
noncomputable def fX10_digest_32 (fu : Nat) (x0 : Nat) : Nat → Int32 → St → Option (Int64 × St) := lp (fun k32 => fX10_digest_32b fu k32 x0) (fun _ _ => none)
set_option maxHeartbeats 4000000 in
theorem tX10_digest_32 {l : Launch} {D : va_G} {cA : ClassId} {bs : Nat} {ad : Nat → Nat} {p : Program} {e : Env} {s : State} {m : MethodId} {args : Array Value} {below : List Frame} {meth : Method} {c : Code} {fu : Nat} (C : Cx D cA bs ad RX10 cX10_digest 3 (some .long) p s m args meth c) {x0 : Nat} {q : Int64 × St} (hx0 : xk x0 = 8)  : ∀ (n : Nat) (x1 : Int32) (σ : St), fX10_digest_32 fu  x0 n x1 σ = some q → Y D cA bs ad p l e (rmY 3 69) s m args below meth c 3 0 0 (QM D cA bs ad below args s (some (.long q.1)) q.2) σ 32 [(0, .ref (ad x0)), (1, .int x1)] [] := by
  intro n
  induction n with
  | zero => intro x1 σ h; cases h
  | succ n ih => intro x1 σ h; exact tX10_digest_32b (fu := fu) C hx0 ih h
noncomputable def fX10_digest_9b (fu : Nat) (k9 : Int32 → St → Option (Int64 × St)) (x0 : Nat) (x1 : Int32) (σ : St) : Option (Int64 × St) :=
  if (4 : Int32) ≤ x1 then
    fX10_digest_32 fu x0 fu (0 : Int32) σ
  else
    (fX10_tellLaw fu x0 x1 σ).bind fun (q102 : Int32 × St) =>
    (fX10_say fu x0 q102.1.toInt64 q102.2).bind fun (q103 : St) =>
    nm (x1 + (1 : Int32)) fun (y104 : Int32) =>
    k9 y104 q103
set_option maxHeartbeats 4000000 in
set_option maxRecDepth 100000 in
theorem tX10_digest_9b {l : Launch} {D : va_G} {cA : ClassId} {bs : Nat} {ad : Nat → Nat} {p : Program} {e : Env} {s : State} {m : MethodId} {args : Array Value} {below : List Frame} {meth : Method} {c : Code} {fu : Nat} (C : Cx D cA bs ad RX10 cX10_digest 3 (some .long) p s m args meth c) {k9 : Int32 → St → Option (Int64 × St)} {x0 : Nat} {x1 : Int32} {q : Int64 × St} (hx0 : xk x0 = 8) (hk9 : ∀ (x1 : Int32) (σ : St), k9 x1 σ = some q → Y D cA bs ad p l e (rmY 3 69) s m args below meth c 3 0 0 (QM D cA bs ad below args s (some (.long q.1)) q.2) σ 9 [(0, .ref (ad x0)), (1, .int x1)] []) {σ : St} (h : fX10_digest_9b fu k9 x0 x1 σ = some q) : Y D cA bs ad p l e (rmY 3 69) s m args below meth c 3 0 0 (QM D cA bs ad below args s (some (.long q.1)) q.2) σ 9 [(0, .ref (ad x0)), (1, .int x1)] [] := by
  unfold fX10_digest_9b at h
  refine y_iload_n (pc := 9) (q := 1) C dX10_digest_9 rfl rfl ?_
  refine y_iconst (pc := 10) (v := (4 : Int32)) C dX10_digest_10 (by decide) ?_
  refine y_icmp_ge (pc := 11) (tgt := 30) C dX10_digest_11 (by decide) (fun c101 => ?_) (fun c101 => ?_)
  · rw [if_pos c101] at h
    refine y_iconst (pc := 30) (v := (0 : Int32)) C dX10_digest_30 (by decide) ?_
    refine y_istore_n (pc := 31) (lv' := [(1, .int (0 : Int32)), (0, .ref (ad x0))]) C dX10_digest_31 rfl (by decide) rfl ?_
    refine y_sub [1, 0] (lv' := [(0, .ref (ad x0)), (1, .int (0 : Int32))]) rfl ?_
    exact tX10_digest_32 (fu := fu) C hx0 fu _ _ h
  · rw [if_neg c101] at h
    refine y_aload_n (pc := 14) (q := 0) C dX10_digest_14 rfl rfl ?_
    refine y_aload_n (pc := 15) (q := 0) C dX10_digest_15 rfl rfl ?_
    refine y_iload_n (pc := 16) (q := 1) C dX10_digest_16 rfl rfl ?_
    obtain ⟨q102, eq102, h⟩ := bdS h
    refine y_callV (pc := 17) (As := [.int x1]) (rest := [.ref (ad x0)]) C (mX10_tellLaw (fu := fu) eq102) vwX10_101 rfl (by decide) hx0 rfl rfl (Nat.le_of_ble_eq_true rfl) ⟨Nat.le_of_ble_eq_true rfl, Nat.le_of_ble_eq_true rfl⟩ ⟨Nat.le_refl _, Nat.le_refl _⟩ dX10_digest_17 ?_
    show Y _ _ _ _ _ _ _ _ _ _ _ _ _ _ _ _ _ _ q102.2 20 [(0, .ref (ad x0)), (1, .int x1)] [.int q102.1, .ref (ad x0)]
    refine y_i2l (pc := 20) C dX10_digest_20 ?_
    obtain ⟨q103, eq103, h⟩ := bdS h
    refine y_callV (pc := 21) (As := [.long q102.1.toInt64]) (rest := []) C (mX10_say (fu := fu) eq103) vwX10_241 rfl (by decide) hx0 rfl rfl (Nat.le_of_ble_eq_true rfl) ⟨Nat.le_of_ble_eq_true rfl, Nat.le_of_ble_eq_true rfl⟩ ⟨Nat.le_refl _, Nat.le_refl _⟩ dX10_digest_21 ?_
    show Y _ _ _ _ _ _ _ _ _ _ _ _ _ _ _ _ _ _ q103 24 [(0, .ref (ad x0)), (1, .int x1)] []
    obtain ⟨y104, ey104, h⟩ := nmS h
    refine y_iinc (pc := 24) (v := y104) (k := 1) (lv' := [(1, .int y104), (0, .ref (ad x0))]) C dX10_digest_24 rfl (by rw [ey104]; rfl) (by decide) rfl ?_
    refine y_goto (pc := 27) (tgt := 9) C dX10_digest_27 (by decide) ?_
    refine y_sub [1, 0] (lv' := [(0, .ref (ad x0)), (1, .int y104)]) rfl ?_
    exact hk9 _ _ h
noncomputable def fX10_digest_9 (fu : Nat) (x0 : Nat) : Nat → Int32 → St → Option (Int64 × St) := lp (fun k9 => fX10_digest_9b fu k9 x0) (fun _ _ => none)
set_option maxHeartbeats 4000000 in
theorem tX10_digest_9 {l : Launch} {D : va_G} {cA : ClassId} {bs : Nat} {ad : Nat → Nat} {p : Program} {e : Env} {s : State} {m : MethodId} {args : Array Value} {below : List Frame} {meth : Method} {c : Code} {fu : Nat} (C : Cx D cA bs ad RX10 cX10_digest 3 (some .long) p s m args meth c) {x0 : Nat} {q : Int64 × St} (hx0 : xk x0 = 8)  : ∀ (n : Nat) (x1 : Int32) (σ : St), fX10_digest_9 fu  x0 n x1 σ = some q → Y D cA bs ad p l e (rmY 3 69) s m args below meth c 3 0 0 (QM D cA bs ad below args s (some (.long q.1)) q.2) σ 9 [(0, .ref (ad x0)), (1, .int x1)] [] := by
  intro n
  induction n with
  | zero => intro x1 σ h; cases h
  | succ n ih => intro x1 σ h; exact tX10_digest_9b (fu := fu) C hx0 ih h
noncomputable def fX10_digest_0 (fu : Nat) (x0 : Nat) (σ : St) : Option (Int64 × St) :=
  nm (sl σ (599 : Int64)) fun (σ101 : St) =>
  fX10_digest_9 fu x0 fu (0 : Int32) σ101
set_option maxHeartbeats 4000000 in
set_option maxRecDepth 100000 in
theorem tX10_digest_0 {l : Launch} {D : va_G} {cA : ClassId} {bs : Nat} {ad : Nat → Nat} {p : Program} {e : Env} {s : State} {m : MethodId} {args : Array Value} {below : List Frame} {meth : Method} {c : Code} {fu : Nat} (C : Cx D cA bs ad RX10 cX10_digest 3 (some .long) p s m args meth c) {x0 : Nat} {q : Int64 × St} (hx0 : xk x0 = 8) {σ : St} (h : fX10_digest_0 fu x0 σ = some q) : Y D cA bs ad p l e (rmY 3 69) s m args below meth c 3 0 0 (QM D cA bs ad below args s (some (.long q.1)) q.2) σ 0 [(0, .ref (ad x0))] [] := by
  unfold fX10_digest_0 at h
  refine y_aload_n (pc := 0) (q := 0) C dX10_digest_0 rfl rfl ?_
  refine y_ldc2 (pc := 1) C dX10_digest_1 cwX10_245 ?_
  obtain ⟨σ101, eσ101, h⟩ := nmS h
  refine y_putl (pc := 4) C fpX10_237 rfl kd_long hx0 dX10_digest_4 ?_
  rw [← eσ101]
  refine y_iconst (pc := 7) (v := (0 : Int32)) C dX10_digest_7 (by decide) ?_
  refine y_istore_n (pc := 8) (lv' := [(1, .int (0 : Int32)), (0, .ref (ad x0))]) C dX10_digest_8 rfl (by decide) rfl ?_
  refine y_sub [1, 0] (lv' := [(0, .ref (ad x0)), (1, .int (0 : Int32))]) rfl ?_
  exact tX10_digest_9 (fu := fu) C hx0 fu _ _ h
noncomputable def fX10_digest (fu : Nat) (x0 : Nat) (σ : St) : Option (Int64 × St) := if xk x0 = 8 then fX10_digest_0 fu x0 σ else none
theorem mX10_digest {l : Launch} {D : va_G} {cA : ClassId} {bs fu : Nat} {ad : Nat → Nat} {x0 : Nat} {σ : St} {q : Int64 × St} (h : fX10_digest fu x0 σ = some q) : Ct l D cA bs ad yX10_digest cX10_digest 3 (some .long) 3 69 [.ref (ad x0)] σ (some (.long q.1)) q.2 := by
  unfold fX10_digest at h
  by_cases hx0 : xk x0 = 8
  case neg => rw [if_neg hx0] at h; cases h
  rw [if_pos hx0] at h
  exact Ct.of (by decide) (Nat.le_of_ble_eq_true rfl) (fun p e s m args below meth c C => tX10_digest_0 (fu := fu) C hx0 h)
