noncomputable def fX10_blank_0 (fu : Nat) (x0 : Nat) (σ : St) : Option (Int32 × St) :=
  nm (σ.1 x0 1) fun (y101 : Int32) =>
  nm (si σ x0 1 (0 : Int32)) fun (σ102 : St) =>
  some (y101, σ102)
set_option maxHeartbeats 4000000 in
set_option maxRecDepth 100000 in
theorem tX10_blank_0 {l : Launch} {D : va_G} {cA : ClassId} {bs : Nat} {ad : Nat → Nat} {p : Program} {e : Env} {s : State} {m : MethodId} {args : Array Value} {below : List Frame} {meth : Method} {c : Code} {fu : Nat} (C : Cx D cA bs ad RX10 cX10_blank 2 (some .int) p s m args meth c) {x0 : Nat} {q : Int32 × St} (hx0 : xk x0 = 8) {σ : St} (h : fX10_blank_0 fu x0 σ = some q) : Y D cA bs ad p l e (rmY 0 0) s m args below meth c 2 0 0 (QM D cA bs ad below args s (some (.int q.1)) q.2) σ 0 [(0, .ref (ad x0))] [] := by
  unfold fX10_blank_0 at h
  refine y_aload_n (pc := 0) (q := 0) C dX10_blank_0 rfl rfl ?_
  refine y_geti (pc := 1) C faX10_55 rfl hx0 dX10_blank_1 ?_
  obtain ⟨y101, ey101, h⟩ := nmS h
  refine y_nmI y101 ey101 ?_
  refine y_istore_n (pc := 4) (lv' := [(1, .int y101), (0, .ref (ad x0))]) C dX10_blank_4 rfl (by decide) rfl ?_
  refine y_aload_n (pc := 5) (q := 1) C dX10_blank_5 rfl rfl ?_
  refine y_iconst (pc := 6) (v := (0 : Int32)) C dX10_blank_6 (by decide) ?_
  obtain ⟨σ102, eσ102, h⟩ := nmS h
  refine y_puti (pc := 7) C fpX10_55 rfl hx0 rfl rfl dX10_blank_7 ?_
  rw [← eσ102]
  refine y_iload_n (pc := 10) (q := 0) C dX10_blank_10 rfl rfl ?_
  cases h
  exact y_iret (pc := 11) C dX10_blank_11
noncomputable def fX10_blank (fu : Nat) (x0 : Nat) (σ : St) : Option (Int32 × St) := if xk x0 = 8 then fX10_blank_0 fu x0 σ else none
theorem mX10_blank {l : Launch} {D : va_G} {cA : ClassId} {bs fu : Nat} {ad : Nat → Nat} {x0 : Nat} {σ : St} {q : Int32 × St} (h : fX10_blank fu x0 σ = some q) : Ct l D cA bs ad yX10_blank cX10_blank 2 (some .int) 0 0 [.ref (ad x0)] σ (some (.int q.1)) q.2 := by
  unfold fX10_blank at h
  by_cases hx0 : xk x0 = 8
  case neg => rw [if_neg hx0] at h; cases h
  rw [if_pos hx0] at h
  exact Ct.of (by decide) (Nat.le_of_ble_eq_true rfl) (fun p e s m args below meth c C => tX10_blank_0 (fu := fu) C hx0 h)
noncomputable def fX10_go_88 (fu : Nat) (x0 : Nat) (x1 : Int32) (σ : St) : Option (Int32 × St) :=
  some ((0 : Int32), σ)
set_option maxHeartbeats 4000000 in
set_option maxRecDepth 100000 in
theorem tX10_go_88 {l : Launch} {D : va_G} {cA : ClassId} {bs : Nat} {ad : Nat → Nat} {p : Program} {e : Env} {s : State} {m : MethodId} {args : Array Value} {below : List Frame} {meth : Method} {c : Code} {fu : Nat} (C : Cx D cA bs ad RX10 cX10_go 3 (some .boolean) p s m args meth c) {x0 : Nat} {x1 : Int32} {q : Int32 × St} (hx0 : xk x0 = 8) {σ : St} (h : fX10_go_88 fu x0 x1 σ = some q) : Y D cA bs ad p l e (rmY 1 25) s m args below meth c 3 0 0 (QM D cA bs ad below args s (some (.int q.1)) q.2) σ 88 [(0, .ref (ad x0)), (1, .int x1)] [] := by
  unfold fX10_go_88 at h
  refine y_iconst (pc := 88) (v := (0 : Int32)) C dX10_go_88 (by decide) ?_
  cases h
  exact y_zret (pc := 89) C (Or.inl rfl) dX10_go_89
noncomputable def fX10_go_141 (fu : Nat) (x0 : Nat) (x1 : Int32) (x2 : Int32) (s0 : Nat) (s1 : Int32) (σ : St) : Option (Int32 × St) :=
  nm (si σ s0 10 s1) fun (σ101 : St) =>
  nm (si σ101 x0 7 x2) fun (σ102 : St) =>
  some ((1 : Int32), σ102)
set_option maxHeartbeats 4000000 in
set_option maxRecDepth 100000 in
theorem tX10_go_141 {l : Launch} {D : va_G} {cA : ClassId} {bs : Nat} {ad : Nat → Nat} {p : Program} {e : Env} {s : State} {m : MethodId} {args : Array Value} {below : List Frame} {meth : Method} {c : Code} {fu : Nat} (C : Cx D cA bs ad RX10 cX10_go 3 (some .boolean) p s m args meth c) {x0 : Nat} {x1 : Int32} {x2 : Int32} {s0 : Nat} {s1 : Int32} {q : Int32 × St} (hx0 : xk x0 = 8) (hs0 : xk s0 = 8) {σ : St} (h : fX10_go_141 fu x0 x1 x2 s0 s1 σ = some q) : Y D cA bs ad p l e (rmY 1 25) s m args below meth c 3 0 0 (QM D cA bs ad below args s (some (.int q.1)) q.2) σ 141 [(0, .ref (ad x0)), (1, .int x1), (2, .int x2)] [.int s1, .ref (ad s0)] := by
  unfold fX10_go_141 at h
  obtain ⟨σ101, eσ101, h⟩ := nmS h
  refine y_puti (pc := 141) C fpX10_78 rfl hs0 rfl rfl dX10_go_141 ?_
  rw [← eσ101]
  refine y_aload_n (pc := 144) (q := 0) C dX10_go_144 rfl rfl ?_
  refine y_iload_n (pc := 145) (q := 2) C dX10_go_145 rfl rfl ?_
  obtain ⟨σ102, eσ102, h⟩ := nmS h
  refine y_puti (pc := 146) C fpX10_58 rfl hx0 rfl rfl dX10_go_146 ?_
  rw [← eσ102]
  refine y_iconst (pc := 149) (v := (1 : Int32)) C dX10_go_149 (by decide) ?_
  cases h
  exact y_zret (pc := 150) C (Or.inr rfl) dX10_go_150
noncomputable def fX10_go_123 (fu : Nat) (x0 : Nat) (x1 : Int32) (x2 : Int32) (s0 : Nat) (s1 : Int32) (σ : St) : Option (Int32 × St) :=
  nm (si σ s0 9 s1) fun (σ101 : St) =>
  if x1 = (119 : Int32) then
    fX10_go_141 fu x0 x1 x2 x0 (1 : Int32) σ101
  else
    fX10_go_141 fu x0 x1 x2 x0 (σ101.1 x0 10) σ101
set_option maxHeartbeats 4000000 in
set_option maxRecDepth 100000 in
theorem tX10_go_123 {l : Launch} {D : va_G} {cA : ClassId} {bs : Nat} {ad : Nat → Nat} {p : Program} {e : Env} {s : State} {m : MethodId} {args : Array Value} {below : List Frame} {meth : Method} {c : Code} {fu : Nat} (C : Cx D cA bs ad RX10 cX10_go 3 (some .boolean) p s m args meth c) {x0 : Nat} {x1 : Int32} {x2 : Int32} {s0 : Nat} {s1 : Int32} {q : Int32 × St} (hx0 : xk x0 = 8) (hs0 : xk s0 = 8) {σ : St} (h : fX10_go_123 fu x0 x1 x2 s0 s1 σ = some q) : Y D cA bs ad p l e (rmY 1 25) s m args below meth c 3 0 0 (QM D cA bs ad below args s (some (.int q.1)) q.2) σ 123 [(0, .ref (ad x0)), (1, .int x1), (2, .int x2)] [.int s1, .ref (ad s0)] := by
  unfold fX10_go_123 at h
  obtain ⟨σ101, eσ101, h⟩ := nmS h
  refine y_puti (pc := 123) C fpX10_75 rfl hs0 rfl rfl dX10_go_123 ?_
  rw [← eσ101]
  refine y_aload_n (pc := 126) (q := 0) C dX10_go_126 rfl rfl ?_
  refine y_iload_n (pc := 127) (q := 1) C dX10_go_127 rfl rfl ?_
  refine y_bipush (pc := 128) (v := (119 : Int32)) C dX10_go_128 (by decide) ?_
  refine y_icmp_ne (pc := 130) (tgt := 137) C dX10_go_130 (by decide) (fun c102 => ?_) (fun c102 => ?_)
  · rw [if_neg c102] at h
    refine y_aload_n (pc := 137) (q := 0) C dX10_go_137 rfl rfl ?_
    refine y_geti (pc := 138) C faX10_78 rfl hx0 dX10_go_138 ?_
    exact tX10_go_141 (fu := fu) C hx0 hx0 h
  · rw [if_pos c102] at h
    refine y_iconst (pc := 133) (v := (1 : Int32)) C dX10_go_133 (by decide) ?_
    refine y_goto (pc := 134) (tgt := 141) C dX10_go_134 (by decide) ?_
    exact tX10_go_141 (fu := fu) C hx0 hx0 h
noncomputable def fX10_go_105 (fu : Nat) (x0 : Nat) (x1 : Int32) (x2 : Int32) (s0 : Nat) (s1 : Int32) (σ : St) : Option (Int32 × St) :=
  nm (si σ s0 8 s1) fun (σ101 : St) =>
  if x1 = (116 : Int32) then
    fX10_go_123 fu x0 x1 x2 x0 (1 : Int32) σ101
  else
    fX10_go_123 fu x0 x1 x2 x0 (σ101.1 x0 9) σ101
set_option maxHeartbeats 4000000 in
set_option maxRecDepth 100000 in
theorem tX10_go_105 {l : Launch} {D : va_G} {cA : ClassId} {bs : Nat} {ad : Nat → Nat} {p : Program} {e : Env} {s : State} {m : MethodId} {args : Array Value} {below : List Frame} {meth : Method} {c : Code} {fu : Nat} (C : Cx D cA bs ad RX10 cX10_go 3 (some .boolean) p s m args meth c) {x0 : Nat} {x1 : Int32} {x2 : Int32} {s0 : Nat} {s1 : Int32} {q : Int32 × St} (hx0 : xk x0 = 8) (hs0 : xk s0 = 8) {σ : St} (h : fX10_go_105 fu x0 x1 x2 s0 s1 σ = some q) : Y D cA bs ad p l e (rmY 1 25) s m args below meth c 3 0 0 (QM D cA bs ad below args s (some (.int q.1)) q.2) σ 105 [(0, .ref (ad x0)), (1, .int x1), (2, .int x2)] [.int s1, .ref (ad s0)] := by
  unfold fX10_go_105 at h
  obtain ⟨σ101, eσ101, h⟩ := nmS h
  refine y_puti (pc := 105) C fpX10_72 rfl hs0 rfl rfl dX10_go_105 ?_
  rw [← eσ101]
  refine y_aload_n (pc := 108) (q := 0) C dX10_go_108 rfl rfl ?_
  refine y_iload_n (pc := 109) (q := 1) C dX10_go_109 rfl rfl ?_
  refine y_bipush (pc := 110) (v := (116 : Int32)) C dX10_go_110 (by decide) ?_
  refine y_icmp_ne (pc := 112) (tgt := 119) C dX10_go_112 (by decide) (fun c102 => ?_) (fun c102 => ?_)
  · rw [if_neg c102] at h
    refine y_aload_n (pc := 119) (q := 0) C dX10_go_119 rfl rfl ?_
    refine y_geti (pc := 120) C faX10_75 rfl hx0 dX10_go_120 ?_
    exact tX10_go_123 (fu := fu) C hx0 hx0 h
  · rw [if_pos c102] at h
    refine y_iconst (pc := 115) (v := (1 : Int32)) C dX10_go_115 (by decide) ?_
    refine y_goto (pc := 116) (tgt := 123) C dX10_go_116 (by decide) ?_
    exact tX10_go_123 (fu := fu) C hx0 hx0 h
noncomputable def fX10_go_74 (fu : Nat) (x0 : Nat) (x1 : Int32) (s0 : Int32) (σ : St) : Option (Int32 × St) :=
  if s0 = (-1 : Int32) then
    fX10_go_88 fu x0 x1 σ
  else
    if (σ.1 x0 7) < s0 then
      if x1 = (110 : Int32) then
        fX10_go_105 fu x0 x1 s0 x0 (1 : Int32) σ
      else
        fX10_go_105 fu x0 x1 s0 x0 (σ.1 x0 8) σ
    else
      fX10_go_88 fu x0 x1 σ
set_option maxHeartbeats 4000000 in
set_option maxRecDepth 100000 in
theorem tX10_go_74 {l : Launch} {D : va_G} {cA : ClassId} {bs : Nat} {ad : Nat → Nat} {p : Program} {e : Env} {s : State} {m : MethodId} {args : Array Value} {below : List Frame} {meth : Method} {c : Code} {fu : Nat} (C : Cx D cA bs ad RX10 cX10_go 3 (some .boolean) p s m args meth c) {x0 : Nat} {x1 : Int32} {s0 : Int32} {q : Int32 × St} (hx0 : xk x0 = 8) {σ : St} (h : fX10_go_74 fu x0 x1 s0 σ = some q) : Y D cA bs ad p l e (rmY 1 25) s m args below meth c 3 0 0 (QM D cA bs ad below args s (some (.int q.1)) q.2) σ 74 [(0, .ref (ad x0)), (1, .int x1)] [.int s0] := by
  unfold fX10_go_74 at h
  refine y_istore_n (pc := 74) (lv' := [(2, .int s0), (0, .ref (ad x0)), (1, .int x1)]) C dX10_go_74 rfl (by decide) rfl ?_
  refine y_iload_n (pc := 75) (q := 0) C dX10_go_75 rfl rfl ?_
  refine y_iconst (pc := 76) (v := (-1 : Int32)) C dX10_go_76 (by decide) ?_
  refine y_icmp_eq (pc := 77) (tgt := 88) C dX10_go_77 (by decide) (fun c101 => ?_) (fun c101 => ?_)
  · rw [if_pos c101] at h
    refine y_sub [1, 2] (lv' := [(0, .ref (ad x0)), (1, .int x1)]) rfl ?_
    exact tX10_go_88 (fu := fu) C hx0 h
  · rw [if_neg c101] at h
    refine y_iload_n (pc := 80) (q := 0) C dX10_go_80 rfl rfl ?_
    refine y_aload_n (pc := 81) (q := 1) C dX10_go_81 rfl rfl ?_
    refine y_geti (pc := 82) C faX10_58 rfl hx0 dX10_go_82 ?_
    refine y_icmp_gt (pc := 85) (tgt := 90) C dX10_go_85 (by decide) (fun c102 => ?_) (fun c102 => ?_)
    · rw [if_pos c102] at h
      refine y_aload_n (pc := 90) (q := 1) C dX10_go_90 rfl rfl ?_
      refine y_iload_n (pc := 91) (q := 2) C dX10_go_91 rfl rfl ?_
      refine y_bipush (pc := 92) (v := (110 : Int32)) C dX10_go_92 (by decide) ?_
      refine y_icmp_ne (pc := 94) (tgt := 101) C dX10_go_94 (by decide) (fun c103 => ?_) (fun c103 => ?_)
      · rw [if_neg c103] at h
        refine y_aload_n (pc := 101) (q := 1) C dX10_go_101 rfl rfl ?_
        refine y_geti (pc := 102) C faX10_72 rfl hx0 dX10_go_102 ?_
        refine y_sub [1, 2, 0] (lv' := [(0, .ref (ad x0)), (1, .int x1), (2, .int s0)]) rfl ?_
        exact tX10_go_105 (fu := fu) C hx0 hx0 h
      · rw [if_pos c103] at h
        refine y_iconst (pc := 97) (v := (1 : Int32)) C dX10_go_97 (by decide) ?_
        refine y_goto (pc := 98) (tgt := 105) C dX10_go_98 (by decide) ?_
        refine y_sub [1, 2, 0] (lv' := [(0, .ref (ad x0)), (1, .int x1), (2, .int s0)]) rfl ?_
        exact tX10_go_105 (fu := fu) C hx0 hx0 h
    · rw [if_neg c102] at h
      refine y_sub [1, 2] (lv' := [(0, .ref (ad x0)), (1, .int x1)]) rfl ?_
      exact tX10_go_88 (fu := fu) C hx0 h
noncomputable def fX10_go_0 (fu : Nat) (x0 : Nat) (x1 : Int32) (σ : St) : Option (Int32 × St) :=
  if (σ.1 x0 7) = (4 : Int32) then
    nm (si σ x0 11 (x1 - (48 : Int32))) fun (σ106 : St) =>
    nm (si σ106 x0 7 (5 : Int32)) fun (σ107 : St) =>
    (fX10_in fu x1.toInt64 (49 : Int64) (57 : Int64) σ107).bind fun (q108 : Int32 × St) =>
    if q108.1 = 0 ∨ q108.1 = 1 then some (q108.1, q108.2) else none
  else
    if x1 = (110 : Int32) then
      fX10_go_74 fu x0 x1 (1 : Int32) σ
    else
      if x1 = (116 : Int32) then
        fX10_go_74 fu x0 x1 (2 : Int32) σ
      else
        if x1 = (119 : Int32) then
          fX10_go_74 fu x0 x1 (3 : Int32) σ
        else
          if x1 = (109 : Int32) then
            fX10_go_74 fu x0 x1 (4 : Int32) σ
          else
            fX10_go_74 fu x0 x1 (-1 : Int32) σ
set_option maxHeartbeats 4000000 in
set_option maxRecDepth 100000 in
theorem tX10_go_0 {l : Launch} {D : va_G} {cA : ClassId} {bs : Nat} {ad : Nat → Nat} {p : Program} {e : Env} {s : State} {m : MethodId} {args : Array Value} {below : List Frame} {meth : Method} {c : Code} {fu : Nat} (C : Cx D cA bs ad RX10 cX10_go 3 (some .boolean) p s m args meth c) {x0 : Nat} {x1 : Int32} {q : Int32 × St} (hx0 : xk x0 = 8) {σ : St} (h : fX10_go_0 fu x0 x1 σ = some q) : Y D cA bs ad p l e (rmY 1 25) s m args below meth c 3 0 0 (QM D cA bs ad below args s (some (.int q.1)) q.2) σ 0 [(0, .ref (ad x0)), (1, .int x1)] [] := by
  unfold fX10_go_0 at h
  refine y_aload_n (pc := 0) (q := 0) C dX10_go_0 rfl rfl ?_
  refine y_geti (pc := 1) C faX10_58 rfl hx0 dX10_go_1 ?_
  refine y_iconst (pc := 4) (v := (4 : Int32)) C dX10_go_4 (by decide) ?_
  refine y_icmp_ne (pc := 5) (tgt := 33) C dX10_go_5 (by decide) (fun c101 => ?_) (fun c101 => ?_)
  · rw [if_neg c101] at h
    refine y_iload_n (pc := 33) (q := 1) C dX10_go_33 rfl rfl ?_
    refine y_bipush (pc := 34) (v := (110 : Int32)) C dX10_go_34 (by decide) ?_
    refine y_icmp_ne (pc := 36) (tgt := 43) C dX10_go_36 (by decide) (fun c102 => ?_) (fun c102 => ?_)
    · rw [if_neg c102] at h
      refine y_iload_n (pc := 43) (q := 1) C dX10_go_43 rfl rfl ?_
      refine y_bipush (pc := 44) (v := (116 : Int32)) C dX10_go_44 (by decide) ?_
      refine y_icmp_ne (pc := 46) (tgt := 53) C dX10_go_46 (by decide) (fun c103 => ?_) (fun c103 => ?_)
      · rw [if_neg c103] at h
        refine y_iload_n (pc := 53) (q := 1) C dX10_go_53 rfl rfl ?_
        refine y_bipush (pc := 54) (v := (119 : Int32)) C dX10_go_54 (by decide) ?_
        refine y_icmp_ne (pc := 56) (tgt := 63) C dX10_go_56 (by decide) (fun c104 => ?_) (fun c104 => ?_)
        · rw [if_neg c104] at h
          refine y_iload_n (pc := 63) (q := 1) C dX10_go_63 rfl rfl ?_
          refine y_bipush (pc := 64) (v := (109 : Int32)) C dX10_go_64 (by decide) ?_
          refine y_icmp_ne (pc := 66) (tgt := 73) C dX10_go_66 (by decide) (fun c105 => ?_) (fun c105 => ?_)
          · rw [if_neg c105] at h
            refine y_iconst (pc := 73) (v := (-1 : Int32)) C dX10_go_73 (by decide) ?_
            exact tX10_go_74 (fu := fu) C hx0 h
          · rw [if_pos c105] at h
            refine y_iconst (pc := 69) (v := (4 : Int32)) C dX10_go_69 (by decide) ?_
            refine y_goto (pc := 70) (tgt := 74) C dX10_go_70 (by decide) ?_
            exact tX10_go_74 (fu := fu) C hx0 h
        · rw [if_pos c104] at h
          refine y_iconst (pc := 59) (v := (3 : Int32)) C dX10_go_59 (by decide) ?_
          refine y_goto (pc := 60) (tgt := 74) C dX10_go_60 (by decide) ?_
          exact tX10_go_74 (fu := fu) C hx0 h
      · rw [if_pos c103] at h
        refine y_iconst (pc := 49) (v := (2 : Int32)) C dX10_go_49 (by decide) ?_
        refine y_goto (pc := 50) (tgt := 74) C dX10_go_50 (by decide) ?_
        exact tX10_go_74 (fu := fu) C hx0 h
    · rw [if_pos c102] at h
      refine y_iconst (pc := 39) (v := (1 : Int32)) C dX10_go_39 (by decide) ?_
      refine y_goto (pc := 40) (tgt := 74) C dX10_go_40 (by decide) ?_
      exact tX10_go_74 (fu := fu) C hx0 h
  · rw [if_pos c101] at h
    refine y_aload_n (pc := 8) (q := 0) C dX10_go_8 rfl rfl ?_
    refine y_iload_n (pc := 9) (q := 1) C dX10_go_9 rfl rfl ?_
    refine y_bipush (pc := 10) (v := (48 : Int32)) C dX10_go_10 (by decide) ?_
    refine y_isub (pc := 12) C dX10_go_12 ?_
    obtain ⟨σ106, eσ106, h⟩ := nmS h
    refine y_puti (pc := 13) C fpX10_61 rfl hx0 rfl rfl dX10_go_13 ?_
    rw [← eσ106]
    refine y_aload_n (pc := 16) (q := 0) C dX10_go_16 rfl rfl ?_
    refine y_iconst (pc := 17) (v := (5 : Int32)) C dX10_go_17 (by decide) ?_
    obtain ⟨σ107, eσ107, h⟩ := nmS h
    refine y_puti (pc := 18) C fpX10_58 rfl hx0 rfl rfl dX10_go_18 ?_
    rw [← eσ107]
    refine y_iload_n (pc := 21) (q := 1) C dX10_go_21 rfl rfl ?_
    refine y_i2l (pc := 22) C dX10_go_22 ?_
    refine y_ldc2 (pc := 23) C dX10_go_23 cwX10_64 ?_
    refine y_ldc2 (pc := 26) C dX10_go_26 cwX10_66 ?_
    obtain ⟨q108, eq108, h⟩ := bdS h
    refine y_callS (pc := 29) (As := [.long x1.toInt64, .long (49 : Int64), .long (57 : Int64)]) (rest := []) C (mX10_in (fu := fu) eq108) vwX10_68 rfl rfl (Nat.le_of_ble_eq_true rfl) ⟨Nat.le_of_ble_eq_true rfl, Nat.le_of_ble_eq_true rfl⟩ ⟨Nat.le_refl _, Nat.le_refl _⟩ dX10_go_29 ?_
    show Y _ _ _ _ _ _ _ _ _ _ _ _ _ _ _ _ _ _ q108.2 32 [(0, .ref (ad x0)), (1, .int x1)] [.int q108.1]
    by_cases c109 : q108.1 = 0 ∨ q108.1 = 1
    case neg => rw [if_neg c109] at h; cases h
    rw [if_pos c109] at h
    cases h
    exact y_zret (pc := 32) C c109 dX10_go_32
noncomputable def fX10_go (fu : Nat) (x0 : Nat) (x1 : Int32) (σ : St) : Option (Int32 × St) := if xk x0 = 8 then fX10_go_0 fu x0 x1 σ else none
theorem mX10_go {l : Launch} {D : va_G} {cA : ClassId} {bs fu : Nat} {ad : Nat → Nat} {x0 : Nat} {x1 : Int32} {σ : St} {q : Int32 × St} (h : fX10_go fu x0 x1 σ = some q) : Ct l D cA bs ad yX10_go cX10_go 3 (some .boolean) 1 25 [.ref (ad x0), .int x1] σ (some (.int q.1)) q.2 := by
  unfold fX10_go at h
  by_cases hx0 : xk x0 = 8
  case neg => rw [if_neg hx0] at h; cases h
  rw [if_pos hx0] at h
  exact Ct.of (by decide) (Nat.le_of_ble_eq_true rfl) (fun p e s m args below meth c C => tX10_go_0 (fu := fu) C hx0 h)
noncomputable def fX10_faultOf_55 (fu : Nat) (x0 : Nat) (x1 : Int32) (σ : St) : Option (Int32 × St) :=
  some (x1, σ)
set_option maxHeartbeats 4000000 in
set_option maxRecDepth 100000 in
theorem tX10_faultOf_55 {l : Launch} {D : va_G} {cA : ClassId} {bs : Nat} {ad : Nat → Nat} {p : Program} {e : Env} {s : State} {m : MethodId} {args : Array Value} {below : List Frame} {meth : Method} {c : Code} {fu : Nat} (C : Cx D cA bs ad RX10 cX10_faultOf 2 (some .int) p s m args meth c) {x0 : Nat} {x1 : Int32} {q : Int32 × St} (hx0 : xk x0 = 8) {σ : St} (h : fX10_faultOf_55 fu x0 x1 σ = some q) : Y D cA bs ad p l e (rmY 2 47) s m args below meth c 2 0 0 (QM D cA bs ad below args s (some (.int q.1)) q.2) σ 55 [(0, .ref (ad x0)), (1, .int x1)] [] := by
  unfold fX10_faultOf_55 at h
  refine y_iload_n (pc := 55) (q := 1) C dX10_faultOf_55 rfl rfl ?_
  cases h
  exact y_iret (pc := 56) C dX10_faultOf_56
noncomputable def fX10_faultOf_28b (fu : Nat) (k28 : Int32 → St → Option (Int32 × St)) (x0 : Nat) (x1 : Int32) (σ : St) : Option (Int32 × St) :=
  if (σ.1 x0 1) ≤ x1 then
    fX10_faultOf_55 fu x0 x1 σ
  else
    (ald σ (rf x0 0) 16 x1).bind fun (v102 : Int32) =>
    (fX10_go fu x0 v102 σ).bind fun (q103 : Int32 × St) =>
    if q103.1 = 0 then
      fX10_faultOf_55 fu x0 x1 q103.2
    else
      nm (x1 + (1 : Int32)) fun (y105 : Int32) =>
      k28 y105 q103.2
set_option maxHeartbeats 4000000 in
set_option maxRecDepth 100000 in
theorem tX10_faultOf_28b {l : Launch} {D : va_G} {cA : ClassId} {bs : Nat} {ad : Nat → Nat} {p : Program} {e : Env} {s : State} {m : MethodId} {args : Array Value} {below : List Frame} {meth : Method} {c : Code} {fu : Nat} (C : Cx D cA bs ad RX10 cX10_faultOf 2 (some .int) p s m args meth c) {k28 : Int32 → St → Option (Int32 × St)} {x0 : Nat} {x1 : Int32} {q : Int32 × St} (hx0 : xk x0 = 8) (hk28 : ∀ (x1 : Int32) (σ : St), k28 x1 σ = some q → Y D cA bs ad p l e (rmY 2 47) s m args below meth c 2 0 0 (QM D cA bs ad below args s (some (.int q.1)) q.2) σ 28 [(0, .ref (ad x0)), (1, .int x1)] []) {σ : St} (h : fX10_faultOf_28b fu k28 x0 x1 σ = some q) : Y D cA bs ad p l e (rmY 2 47) s m args below meth c 2 0 0 (QM D cA bs ad below args s (some (.int q.1)) q.2) σ 28 [(0, .ref (ad x0)), (1, .int x1)] [] := by
  unfold fX10_faultOf_28b at h
  refine y_iload_n (pc := 28) (q := 1) C dX10_faultOf_28 rfl rfl ?_
  refine y_aload_n (pc := 29) (q := 0) C dX10_faultOf_29 rfl rfl ?_
  refine y_geti (pc := 30) C faX10_55 rfl hx0 dX10_faultOf_30 ?_
  refine y_icmp_ge (pc := 33) (tgt := 55) C dX10_faultOf_33 (by decide) (fun c101 => ?_) (fun c101 => ?_)
  · rw [if_pos c101] at h
    exact tX10_faultOf_55 (fu := fu) C hx0 h
  · rw [if_neg c101] at h
    refine y_aload_n (pc := 36) (q := 0) C dX10_faultOf_36 rfl rfl ?_
    refine y_aload_n (pc := 37) (q := 0) C dX10_faultOf_37 rfl rfl ?_
    refine y_getr (pc := 38) C faX10_7 rfl hx0 dX10_faultOf_38 ?_
    refine y_iload_n (pc := 41) (q := 1) C dX10_faultOf_41 rfl rfl ?_
    obtain ⟨v102, ev102, h⟩ := bdS h
    refine y_iald (pc := 42) (n := 16) C (rf_8_0 _ hx0) (by decide) ev102 dX10_faultOf_42 ?_
    obtain ⟨q103, eq103, h⟩ := bdS h
    refine y_callV (pc := 43) (As := [.int v102]) (rest := []) C (mX10_go (fu := fu) eq103) vwX10_81 rfl (by decide) hx0 rfl rfl (Nat.le_of_ble_eq_true rfl) ⟨Nat.le_of_ble_eq_true rfl, Nat.le_of_ble_eq_true rfl⟩ ⟨Nat.le_refl _, Nat.le_refl _⟩ dX10_faultOf_43 ?_
    show Y _ _ _ _ _ _ _ _ _ _ _ _ _ _ _ _ _ _ q103.2 46 [(0, .ref (ad x0)), (1, .int x1)] [.int q103.1]
    refine y_if_eq (pc := 46) (tgt := 55) C dX10_faultOf_46 (by decide) (fun c104 => ?_) (fun c104 => ?_)
    · rw [if_pos c104] at h
      exact tX10_faultOf_55 (fu := fu) C hx0 h
    · rw [if_neg c104] at h
      obtain ⟨y105, ey105, h⟩ := nmS h
      refine y_iinc (pc := 49) (v := y105) (k := 1) (lv' := [(1, .int y105), (0, .ref (ad x0))]) C dX10_faultOf_49 rfl (by rw [ey105]; rfl) (by decide) rfl ?_
      refine y_goto (pc := 52) (tgt := 28) C dX10_faultOf_52 (by decide) ?_
      refine y_sub [1, 0] (lv' := [(0, .ref (ad x0)), (1, .int y105)]) rfl ?_
      exact hk28 _ _ h
noncomputable def fX10_faultOf_28 (fu : Nat) (x0 : Nat) : Nat → Int32 → St → Option (Int32 × St) := lp (fun k28 => fX10_faultOf_28b fu k28 x0) (fun _ _ => none)
set_option maxHeartbeats 4000000 in
theorem tX10_faultOf_28 {l : Launch} {D : va_G} {cA : ClassId} {bs : Nat} {ad : Nat → Nat} {p : Program} {e : Env} {s : State} {m : MethodId} {args : Array Value} {below : List Frame} {meth : Method} {c : Code} {fu : Nat} (C : Cx D cA bs ad RX10 cX10_faultOf 2 (some .int) p s m args meth c) {x0 : Nat} {q : Int32 × St} (hx0 : xk x0 = 8)  : ∀ (n : Nat) (x1 : Int32) (σ : St), fX10_faultOf_28 fu  x0 n x1 σ = some q → Y D cA bs ad p l e (rmY 2 47) s m args below meth c 2 0 0 (QM D cA bs ad below args s (some (.int q.1)) q.2) σ 28 [(0, .ref (ad x0)), (1, .int x1)] [] := by
  intro n
  induction n with
  | zero => intro x1 σ h; cases h
  | succ n ih => intro x1 σ h; exact tX10_faultOf_28b (fu := fu) C hx0 ih h
noncomputable def fX10_faultOf_0 (fu : Nat) (x0 : Nat) (σ : St) : Option (Int32 × St) :=
  nm (si σ x0 7 (0 : Int32)) fun (σ101 : St) =>
  nm (si σ101 x0 8 (0 : Int32)) fun (σ102 : St) =>
  nm (si σ102 x0 9 (0 : Int32)) fun (σ103 : St) =>
  nm (si σ103 x0 10 (0 : Int32)) fun (σ104 : St) =>
  nm (si σ104 x0 11 (10 : Int32)) fun (σ105 : St) =>
  fX10_faultOf_28 fu x0 fu (0 : Int32) σ105
set_option maxHeartbeats 4000000 in
set_option maxRecDepth 100000 in
theorem tX10_faultOf_0 {l : Launch} {D : va_G} {cA : ClassId} {bs : Nat} {ad : Nat → Nat} {p : Program} {e : Env} {s : State} {m : MethodId} {args : Array Value} {below : List Frame} {meth : Method} {c : Code} {fu : Nat} (C : Cx D cA bs ad RX10 cX10_faultOf 2 (some .int) p s m args meth c) {x0 : Nat} {q : Int32 × St} (hx0 : xk x0 = 8) {σ : St} (h : fX10_faultOf_0 fu x0 σ = some q) : Y D cA bs ad p l e (rmY 2 47) s m args below meth c 2 0 0 (QM D cA bs ad below args s (some (.int q.1)) q.2) σ 0 [(0, .ref (ad x0))] [] := by
  unfold fX10_faultOf_0 at h
  refine y_aload_n (pc := 0) (q := 0) C dX10_faultOf_0 rfl rfl ?_
  refine y_iconst (pc := 1) (v := (0 : Int32)) C dX10_faultOf_1 (by decide) ?_
  obtain ⟨σ101, eσ101, h⟩ := nmS h
  refine y_puti (pc := 2) C fpX10_58 rfl hx0 rfl rfl dX10_faultOf_2 ?_
  rw [← eσ101]
  refine y_aload_n (pc := 5) (q := 0) C dX10_faultOf_5 rfl rfl ?_
  refine y_iconst (pc := 6) (v := (0 : Int32)) C dX10_faultOf_6 (by decide) ?_
  obtain ⟨σ102, eσ102, h⟩ := nmS h
  refine y_puti (pc := 7) C fpX10_72 rfl hx0 rfl rfl dX10_faultOf_7 ?_
  rw [← eσ102]
  refine y_aload_n (pc := 10) (q := 0) C dX10_faultOf_10 rfl rfl ?_
  refine y_iconst (pc := 11) (v := (0 : Int32)) C dX10_faultOf_11 (by decide) ?_
  obtain ⟨σ103, eσ103, h⟩ := nmS h
  refine y_puti (pc := 12) C fpX10_75 rfl hx0 rfl rfl dX10_faultOf_12 ?_
  rw [← eσ103]
  refine y_aload_n (pc := 15) (q := 0) C dX10_faultOf_15 rfl rfl ?_
  refine y_iconst (pc := 16) (v := (0 : Int32)) C dX10_faultOf_16 (by decide) ?_
  obtain ⟨σ104, eσ104, h⟩ := nmS h
  refine y_puti (pc := 17) C fpX10_78 rfl hx0 rfl rfl dX10_faultOf_17 ?_
  rw [← eσ104]
  refine y_aload_n (pc := 20) (q := 0) C dX10_faultOf_20 rfl rfl ?_
  refine y_bipush (pc := 21) (v := (10 : Int32)) C dX10_faultOf_21 (by decide) ?_
  obtain ⟨σ105, eσ105, h⟩ := nmS h
  refine y_puti (pc := 23) C fpX10_61 rfl hx0 rfl rfl dX10_faultOf_23 ?_
  rw [← eσ105]
  refine y_iconst (pc := 26) (v := (0 : Int32)) C dX10_faultOf_26 (by decide) ?_
  refine y_istore_n (pc := 27) (lv' := [(1, .int (0 : Int32)), (0, .ref (ad x0))]) C dX10_faultOf_27 rfl (by decide) rfl ?_
  refine y_sub [1, 0] (lv' := [(0, .ref (ad x0)), (1, .int (0 : Int32))]) rfl ?_
  exact tX10_faultOf_28 (fu := fu) C hx0 fu _ _ h
noncomputable def fX10_faultOf (fu : Nat) (x0 : Nat) (σ : St) : Option (Int32 × St) := if xk x0 = 8 then fX10_faultOf_0 fu x0 σ else none
theorem mX10_faultOf {l : Launch} {D : va_G} {cA : ClassId} {bs fu : Nat} {ad : Nat → Nat} {x0 : Nat} {σ : St} {q : Int32 × St} (h : fX10_faultOf fu x0 σ = some q) : Ct l D cA bs ad yX10_faultOf cX10_faultOf 2 (some .int) 2 47 [.ref (ad x0)] σ (some (.int q.1)) q.2 := by
  unfold fX10_faultOf at h
  by_cases hx0 : xk x0 = 8
  case neg => rw [if_neg hx0] at h; cases h
  rw [if_pos hx0] at h
  exact Ct.of (by decide) (Nat.le_of_ble_eq_true rfl) (fun p e s m args below meth c C => tX10_faultOf_0 (fu := fu) C hx0 h)
noncomputable def fX10_fault_0 (fu : Nat) (x0 : Nat) (σ : St) : Option (Int32 × St) :=
  (fX10_faultOf fu x0 σ).bind fun (q101 : Int32 × St) =>
  some (q101.1, q101.2)
set_option maxHeartbeats 4000000 in
set_option maxRecDepth 100000 in
theorem tX10_fault_0 {l : Launch} {D : va_G} {cA : ClassId} {bs : Nat} {ad : Nat → Nat} {p : Program} {e : Env} {s : State} {m : MethodId} {args : Array Value} {below : List Frame} {meth : Method} {c : Code} {fu : Nat} (C : Cx D cA bs ad RX10 cX10_fault 1 (some .int) p s m args meth c) {x0 : Nat} {q : Int32 × St} (hx0 : xk x0 = 8) {σ : St} (h : fX10_fault_0 fu x0 σ = some q) : Y D cA bs ad p l e (rmY 3 68) s m args below meth c 1 0 0 (QM D cA bs ad below args s (some (.int q.1)) q.2) σ 0 [(0, .ref (ad x0))] [] := by
  unfold fX10_fault_0 at h
  refine y_aload_n (pc := 0) (q := 0) C dX10_fault_0 rfl rfl ?_
  obtain ⟨q101, eq101, h⟩ := bdS h
  refine y_callV (pc := 1) (As := []) (rest := []) C (mX10_faultOf (fu := fu) eq101) vwX10_85 rfl (by decide) hx0 rfl rfl (Nat.le_of_ble_eq_true rfl) ⟨Nat.le_of_ble_eq_true rfl, Nat.le_of_ble_eq_true rfl⟩ ⟨Nat.le_refl _, Nat.le_refl _⟩ dX10_fault_1 ?_
  show Y _ _ _ _ _ _ _ _ _ _ _ _ _ _ _ _ _ _ q101.2 4 [(0, .ref (ad x0))] [.int q101.1]
  cases h
  exact y_iret (pc := 4) C dX10_fault_4
noncomputable def fX10_fault (fu : Nat) (x0 : Nat) (σ : St) : Option (Int32 × St) := if xk x0 = 8 then fX10_fault_0 fu x0 σ else none
theorem mX10_fault {l : Launch} {D : va_G} {cA : ClassId} {bs fu : Nat} {ad : Nat → Nat} {x0 : Nat} {σ : St} {q : Int32 × St} (h : fX10_fault fu x0 σ = some q) : Ct l D cA bs ad yX10_fault cX10_fault 1 (some .int) 3 68 [.ref (ad x0)] σ (some (.int q.1)) q.2 := by
  unfold fX10_fault at h
  by_cases hx0 : xk x0 = 8
  case neg => rw [if_neg hx0] at h; cases h
  rw [if_pos hx0] at h
  exact Ct.of (by decide) (Nat.le_of_ble_eq_true rfl) (fun p e s m args below meth c C => tX10_fault_0 (fu := fu) C hx0 h)
noncomputable def fX10_law_19 (fu : Nat) (x0 : Nat) (σ : St) : Option (Int32 × St) :=
  some ((-103 : Int32), σ)
set_option maxHeartbeats 4000000 in
set_option maxRecDepth 100000 in
theorem tX10_law_19 {l : Launch} {D : va_G} {cA : ClassId} {bs : Nat} {ad : Nat → Nat} {p : Program} {e : Env} {s : State} {m : MethodId} {args : Array Value} {below : List Frame} {meth : Method} {c : Code} {fu : Nat} (C : Cx D cA bs ad RX10 cX10_law 1 (some .int) p s m args meth c) {x0 : Nat} {q : Int32 × St} (hx0 : xk x0 = 8) {σ : St} (h : fX10_law_19 fu x0 σ = some q) : Y D cA bs ad p l e (rmY 3 68) s m args below meth c 1 0 0 (QM D cA bs ad below args s (some (.int q.1)) q.2) σ 19 [(0, .ref (ad x0))] [] := by
  unfold fX10_law_19 at h
  refine y_bipush (pc := 19) (v := (-103 : Int32)) C dX10_law_19 (by decide) ?_
  cases h
  exact y_iret (pc := 21) C dX10_law_21
noncomputable def fX10_law_0 (fu : Nat) (x0 : Nat) (σ : St) : Option (Int32 × St) :=
  (fX10_faultOf fu x0 σ).bind fun (q101 : Int32 × St) =>
  if q101.1 < (q101.2.1 x0 1) then
    fX10_law_19 fu x0 q101.2
  else
    if (q101.2.1 x0 7) = (4 : Int32) then
      fX10_law_19 fu x0 q101.2
    else
      nm (si q101.2 x0 2 (q101.2.1 x0 8)) fun (σ104 : St) =>
      nm (si σ104 x0 3 (σ104.1 x0 9)) fun (σ105 : St) =>
      nm (si σ105 x0 4 (σ105.1 x0 10)) fun (σ106 : St) =>
      nm (si σ106 x0 5 (σ106.1 x0 11)) fun (σ107 : St) =>
      nm (si σ107 x0 6 ((σ107.1 x0 6) + (1 : Int32))) fun (σ108 : St) =>
      nm (si σ108 x0 1 (0 : Int32)) fun (σ109 : St) =>
      some ((σ109.1 x0 6), σ109)
set_option maxHeartbeats 4000000 in
set_option maxRecDepth 100000 in
theorem tX10_law_0 {l : Launch} {D : va_G} {cA : ClassId} {bs : Nat} {ad : Nat → Nat} {p : Program} {e : Env} {s : State} {m : MethodId} {args : Array Value} {below : List Frame} {meth : Method} {c : Code} {fu : Nat} (C : Cx D cA bs ad RX10 cX10_law 1 (some .int) p s m args meth c) {x0 : Nat} {q : Int32 × St} (hx0 : xk x0 = 8) {σ : St} (h : fX10_law_0 fu x0 σ = some q) : Y D cA bs ad p l e (rmY 3 68) s m args below meth c 1 0 0 (QM D cA bs ad below args s (some (.int q.1)) q.2) σ 0 [(0, .ref (ad x0))] [] := by
  unfold fX10_law_0 at h
  refine y_aload_n (pc := 0) (q := 0) C dX10_law_0 rfl rfl ?_
  obtain ⟨q101, eq101, h⟩ := bdS h
  refine y_callV (pc := 1) (As := []) (rest := []) C (mX10_faultOf (fu := fu) eq101) vwX10_85 rfl (by decide) hx0 rfl rfl (Nat.le_of_ble_eq_true rfl) ⟨Nat.le_of_ble_eq_true rfl, Nat.le_of_ble_eq_true rfl⟩ ⟨Nat.le_refl _, Nat.le_refl _⟩ dX10_law_1 ?_
  show Y _ _ _ _ _ _ _ _ _ _ _ _ _ _ _ _ _ _ q101.2 4 [(0, .ref (ad x0))] [.int q101.1]
  refine y_aload_n (pc := 4) (q := 0) C dX10_law_4 rfl rfl ?_
  refine y_geti (pc := 5) C faX10_55 rfl hx0 dX10_law_5 ?_
  refine y_icmp_lt (pc := 8) (tgt := 19) C dX10_law_8 (by decide) (fun c102 => ?_) (fun c102 => ?_)
  · rw [if_pos c102] at h
    exact tX10_law_19 (fu := fu) C hx0 h
  · rw [if_neg c102] at h
    refine y_aload_n (pc := 11) (q := 0) C dX10_law_11 rfl rfl ?_
    refine y_geti (pc := 12) C faX10_58 rfl hx0 dX10_law_12 ?_
    refine y_iconst (pc := 15) (v := (4 : Int32)) C dX10_law_15 (by decide) ?_
    refine y_icmp_ne (pc := 16) (tgt := 22) C dX10_law_16 (by decide) (fun c103 => ?_) (fun c103 => ?_)
    · rw [if_neg c103] at h
      refine y_aload_n (pc := 22) (q := 0) C dX10_law_22 rfl rfl ?_
      refine y_aload_n (pc := 23) (q := 0) C dX10_law_23 rfl rfl ?_
      refine y_geti (pc := 24) C faX10_72 rfl hx0 dX10_law_24 ?_
      obtain ⟨σ104, eσ104, h⟩ := nmS h
      refine y_puti (pc := 27) C fpX10_89 rfl hx0 rfl rfl dX10_law_27 ?_
      rw [← eσ104]
      refine y_aload_n (pc := 30) (q := 0) C dX10_law_30 rfl rfl ?_
      refine y_aload_n (pc := 31) (q := 0) C dX10_law_31 rfl rfl ?_
      refine y_geti (pc := 32) C faX10_75 rfl hx0 dX10_law_32 ?_
      obtain ⟨σ105, eσ105, h⟩ := nmS h
      refine y_puti (pc := 35) C fpX10_92 rfl hx0 rfl rfl dX10_law_35 ?_
      rw [← eσ105]
      refine y_aload_n (pc := 38) (q := 0) C dX10_law_38 rfl rfl ?_
      refine y_aload_n (pc := 39) (q := 0) C dX10_law_39 rfl rfl ?_
      refine y_geti (pc := 40) C faX10_78 rfl hx0 dX10_law_40 ?_
      obtain ⟨σ106, eσ106, h⟩ := nmS h
      refine y_puti (pc := 43) C fpX10_95 rfl hx0 rfl rfl dX10_law_43 ?_
      rw [← eσ106]
      refine y_aload_n (pc := 46) (q := 0) C dX10_law_46 rfl rfl ?_
      refine y_aload_n (pc := 47) (q := 0) C dX10_law_47 rfl rfl ?_
      refine y_geti (pc := 48) C faX10_61 rfl hx0 dX10_law_48 ?_
      obtain ⟨σ107, eσ107, h⟩ := nmS h
      refine y_puti (pc := 51) C fpX10_50 rfl hx0 rfl rfl dX10_law_51 ?_
      rw [← eσ107]
      refine y_aload_n (pc := 54) (q := 0) C dX10_law_54 rfl rfl ?_
      refine y_dup (pc := 55) C dX10_law_55 rfl ?_
      refine y_geti (pc := 56) C faX10_98 rfl hx0 dX10_law_56 ?_
      refine y_iconst (pc := 59) (v := (1 : Int32)) C dX10_law_59 (by decide) ?_
      refine y_iadd (pc := 60) C dX10_law_60 ?_
      obtain ⟨σ108, eσ108, h⟩ := nmS h
      refine y_puti (pc := 61) C fpX10_98 rfl hx0 rfl rfl dX10_law_61 ?_
      rw [← eσ108]
      refine y_aload_n (pc := 64) (q := 0) C dX10_law_64 rfl rfl ?_
      refine y_iconst (pc := 65) (v := (0 : Int32)) C dX10_law_65 (by decide) ?_
      obtain ⟨σ109, eσ109, h⟩ := nmS h
      refine y_puti (pc := 66) C fpX10_55 rfl hx0 rfl rfl dX10_law_66 ?_
      rw [← eσ109]
      refine y_aload_n (pc := 69) (q := 0) C dX10_law_69 rfl rfl ?_
      refine y_geti (pc := 70) C faX10_98 rfl hx0 dX10_law_70 ?_
      cases h
      exact y_iret (pc := 73) C dX10_law_73
    · rw [if_pos c103] at h
      exact tX10_law_19 (fu := fu) C hx0 h
noncomputable def fX10_law (fu : Nat) (x0 : Nat) (σ : St) : Option (Int32 × St) := if xk x0 = 8 then fX10_law_0 fu x0 σ else none
theorem mX10_law {l : Launch} {D : va_G} {cA : ClassId} {bs fu : Nat} {ad : Nat → Nat} {x0 : Nat} {σ : St} {q : Int32 × St} (h : fX10_law fu x0 σ = some q) : Ct l D cA bs ad yX10_law cX10_law 1 (some .int) 3 68 [.ref (ad x0)] σ (some (.int q.1)) q.2 := by
  unfold fX10_law at h
  by_cases hx0 : xk x0 = 8
  case neg => rw [if_neg hx0] at h; cases h
  rw [if_pos hx0] at h
  exact Ct.of (by decide) (Nat.le_of_ble_eq_true rfl) (fun p e s m args below meth c C => tX10_law_0 (fu := fu) C hx0 h)
noncomputable def fX10_tellLaw_49 (fu : Nat) (x0 : Nat) (x1 : Int32) (s0 : Int32) (σ : St) : Option (Int32 × St) :=
  some (s0, σ)
set_option maxHeartbeats 4000000 in
set_option maxRecDepth 100000 in
theorem tX10_tellLaw_49 {l : Launch} {D : va_G} {cA : ClassId} {bs : Nat} {ad : Nat → Nat} {p : Program} {e : Env} {s : State} {m : MethodId} {args : Array Value} {below : List Frame} {meth : Method} {c : Code} {fu : Nat} (C : Cx D cA bs ad RX10 cX10_tellLaw 2 (some .int) p s m args meth c) {x0 : Nat} {x1 : Int32} {s0 : Int32} {q : Int32 × St} (hx0 : xk x0 = 8) {σ : St} (h : fX10_tellLaw_49 fu x0 x1 s0 σ = some q) : Y D cA bs ad p l e (rmY 0 0) s m args below meth c 2 0 0 (QM D cA bs ad below args s (some (.int q.1)) q.2) σ 49 [(0, .ref (ad x0)), (1, .int x1)] [.int s0] := by
  unfold fX10_tellLaw_49 at h
  cases h
  exact y_iret (pc := 49) C dX10_tellLaw_49
noncomputable def fX10_tellLaw_0 (fu : Nat) (x0 : Nat) (x1 : Int32) (σ : St) : Option (Int32 × St) :=
  if x1 = 0 then
    fX10_tellLaw_49 fu x0 x1 (σ.1 x0 2) σ
  else
    if x1 = (1 : Int32) then
      fX10_tellLaw_49 fu x0 x1 (σ.1 x0 3) σ
    else
      if x1 = (2 : Int32) then
        fX10_tellLaw_49 fu x0 x1 (σ.1 x0 4) σ
      else
        if x1 = (3 : Int32) then
          fX10_tellLaw_49 fu x0 x1 (σ.1 x0 5) σ
        else
          fX10_tellLaw_49 fu x0 x1 (-102 : Int32) σ
set_option maxHeartbeats 4000000 in
set_option maxRecDepth 100000 in
theorem tX10_tellLaw_0 {l : Launch} {D : va_G} {cA : ClassId} {bs : Nat} {ad : Nat → Nat} {p : Program} {e : Env} {s : State} {m : MethodId} {args : Array Value} {below : List Frame} {meth : Method} {c : Code} {fu : Nat} (C : Cx D cA bs ad RX10 cX10_tellLaw 2 (some .int) p s m args meth c) {x0 : Nat} {x1 : Int32} {q : Int32 × St} (hx0 : xk x0 = 8) {σ : St} (h : fX10_tellLaw_0 fu x0 x1 σ = some q) : Y D cA bs ad p l e (rmY 0 0) s m args below meth c 2 0 0 (QM D cA bs ad below args s (some (.int q.1)) q.2) σ 0 [(0, .ref (ad x0)), (1, .int x1)] [] := by
  unfold fX10_tellLaw_0 at h
  refine y_iload_n (pc := 0) (q := 1) C dX10_tellLaw_0 rfl rfl ?_
  refine y_if_ne (pc := 1) (tgt := 11) C dX10_tellLaw_1 (by decide) (fun c101 => ?_) (fun c101 => ?_)
  · rw [if_neg c101] at h
    refine y_iload_n (pc := 11) (q := 1) C dX10_tellLaw_11 rfl rfl ?_
    refine y_iconst (pc := 12) (v := (1 : Int32)) C dX10_tellLaw_12 (by decide) ?_
    refine y_icmp_ne (pc := 13) (tgt := 23) C dX10_tellLaw_13 (by decide) (fun c102 => ?_) (fun c102 => ?_)
    · rw [if_neg c102] at h
      refine y_iload_n (pc := 23) (q := 1) C dX10_tellLaw_23 rfl rfl ?_
      refine y_iconst (pc := 24) (v := (2 : Int32)) C dX10_tellLaw_24 (by decide) ?_
      refine y_icmp_ne (pc := 25) (tgt := 35) C dX10_tellLaw_25 (by decide) (fun c103 => ?_) (fun c103 => ?_)
      · rw [if_neg c103] at h
        refine y_iload_n (pc := 35) (q := 1) C dX10_tellLaw_35 rfl rfl ?_
        refine y_iconst (pc := 36) (v := (3 : Int32)) C dX10_tellLaw_36 (by decide) ?_
        refine y_icmp_ne (pc := 37) (tgt := 47) C dX10_tellLaw_37 (by decide) (fun c104 => ?_) (fun c104 => ?_)
        · rw [if_neg c104] at h
          refine y_bipush (pc := 47) (v := (-102 : Int32)) C dX10_tellLaw_47 (by decide) ?_
          exact tX10_tellLaw_49 (fu := fu) C hx0 h
        · rw [if_pos c104] at h
          refine y_aload_n (pc := 40) (q := 0) C dX10_tellLaw_40 rfl rfl ?_
          refine y_geti (pc := 41) C faX10_50 rfl hx0 dX10_tellLaw_41 ?_
          refine y_goto (pc := 44) (tgt := 49) C dX10_tellLaw_44 (by decide) ?_
          exact tX10_tellLaw_49 (fu := fu) C hx0 h
      · rw [if_pos c103] at h
        refine y_aload_n (pc := 28) (q := 0) C dX10_tellLaw_28 rfl rfl ?_
        refine y_geti (pc := 29) C faX10_95 rfl hx0 dX10_tellLaw_29 ?_
        refine y_goto (pc := 32) (tgt := 49) C dX10_tellLaw_32 (by decide) ?_
        exact tX10_tellLaw_49 (fu := fu) C hx0 h
    · rw [if_pos c102] at h
      refine y_aload_n (pc := 16) (q := 0) C dX10_tellLaw_16 rfl rfl ?_
      refine y_geti (pc := 17) C faX10_92 rfl hx0 dX10_tellLaw_17 ?_
      refine y_goto (pc := 20) (tgt := 49) C dX10_tellLaw_20 (by decide) ?_
      exact tX10_tellLaw_49 (fu := fu) C hx0 h
  · rw [if_pos c101] at h
    refine y_aload_n (pc := 4) (q := 0) C dX10_tellLaw_4 rfl rfl ?_
    refine y_geti (pc := 5) C faX10_89 rfl hx0 dX10_tellLaw_5 ?_
    refine y_goto (pc := 8) (tgt := 49) C dX10_tellLaw_8 (by decide) ?_
    exact tX10_tellLaw_49 (fu := fu) C hx0 h
noncomputable def fX10_tellLaw (fu : Nat) (x0 : Nat) (x1 : Int32) (σ : St) : Option (Int32 × St) := if xk x0 = 8 then fX10_tellLaw_0 fu x0 x1 σ else none
theorem mX10_tellLaw {l : Launch} {D : va_G} {cA : ClassId} {bs fu : Nat} {ad : Nat → Nat} {x0 : Nat} {x1 : Int32} {σ : St} {q : Int32 × St} (h : fX10_tellLaw fu x0 x1 σ = some q) : Ct l D cA bs ad yX10_tellLaw cX10_tellLaw 2 (some .int) 0 0 [.ref (ad x0), .int x1] σ (some (.int q.1)) q.2 := by
  unfold fX10_tellLaw at h
  by_cases hx0 : xk x0 = 8
  case neg => rw [if_neg hx0] at h; cases h
  rw [if_pos hx0] at h
  exact Ct.of (by decide) (Nat.le_of_ble_eq_true rfl) (fun p e s m args below meth c C => tX10_tellLaw_0 (fu := fu) C hx0 h)
noncomputable def fX10_lawTold_0 (fu : Nat) (x0 : Nat) (x1 : Int32) (σ : St) : Option (Int32 × St) :=
  (fX10_tellLaw fu x0 x1 σ).bind fun (q101 : Int32 × St) =>
  some (q101.1, q101.2)
set_option maxHeartbeats 4000000 in
set_option maxRecDepth 100000 in
theorem tX10_lawTold_0 {l : Launch} {D : va_G} {cA : ClassId} {bs : Nat} {ad : Nat → Nat} {p : Program} {e : Env} {s : State} {m : MethodId} {args : Array Value} {below : List Frame} {meth : Method} {c : Code} {fu : Nat} (C : Cx D cA bs ad RX10 cX10_lawTold 2 (some .int) p s m args meth c) {x0 : Nat} {x1 : Int32} {q : Int32 × St} (hx0 : xk x0 = 8) {σ : St} (h : fX10_lawTold_0 fu x0 x1 σ = some q) : Y D cA bs ad p l e (rmY 1 21) s m args below meth c 2 0 0 (QM D cA bs ad below args s (some (.int q.1)) q.2) σ 0 [(0, .ref (ad x0)), (1, .int x1)] [] := by
  unfold fX10_lawTold_0 at h
  refine y_aload_n (pc := 0) (q := 0) C dX10_lawTold_0 rfl rfl ?_
  refine y_iload_n (pc := 1) (q := 1) C dX10_lawTold_1 rfl rfl ?_
  obtain ⟨q101, eq101, h⟩ := bdS h
  refine y_callV (pc := 2) (As := [.int x1]) (rest := []) C (mX10_tellLaw (fu := fu) eq101) vwX10_101 rfl (by decide) hx0 rfl rfl (Nat.le_of_ble_eq_true rfl) ⟨Nat.le_of_ble_eq_true rfl, Nat.le_of_ble_eq_true rfl⟩ ⟨Nat.le_refl _, Nat.le_refl _⟩ dX10_lawTold_2 ?_
  show Y _ _ _ _ _ _ _ _ _ _ _ _ _ _ _ _ _ _ q101.2 5 [(0, .ref (ad x0)), (1, .int x1)] [.int q101.1]
  cases h
  exact y_iret (pc := 5) C dX10_lawTold_5
noncomputable def fX10_lawTold (fu : Nat) (x0 : Nat) (x1 : Int32) (σ : St) : Option (Int32 × St) := if xk x0 = 8 then fX10_lawTold_0 fu x0 x1 σ else none
theorem mX10_lawTold {l : Launch} {D : va_G} {cA : ClassId} {bs fu : Nat} {ad : Nat → Nat} {x0 : Nat} {x1 : Int32} {σ : St} {q : Int32 × St} (h : fX10_lawTold fu x0 x1 σ = some q) : Ct l D cA bs ad yX10_lawTold cX10_lawTold 2 (some .int) 1 21 [.ref (ad x0), .int x1] σ (some (.int q.1)) q.2 := by
  unfold fX10_lawTold at h
  by_cases hx0 : xk x0 = 8
  case neg => rw [if_neg hx0] at h; cases h
  rw [if_pos hx0] at h
  exact Ct.of (by decide) (Nat.le_of_ble_eq_true rfl) (fun p e s m args below meth c C => tX10_lawTold_0 (fu := fu) C hx0 h)
noncomputable def fX10_isBlock_0 (fu : Nat) (x0 : Nat) (x1 : Int32) (σ : St) : Option (Int32 × St) :=
  (fX10_in fu x1.toInt64 (0 : Int64) (((σ.1 x0 12) - (1 : Int32)).toInt64) σ).bind fun (q101 : Int32 × St) =>
  if q101.1 = 0 ∨ q101.1 = 1 then some (q101.1, q101.2) else none
set_option maxHeartbeats 4000000 in
set_option maxRecDepth 100000 in
theorem tX10_isBlock_0 {l : Launch} {D : va_G} {cA : ClassId} {bs : Nat} {ad : Nat → Nat} {p : Program} {e : Env} {s : State} {m : MethodId} {args : Array Value} {below : List Frame} {meth : Method} {c : Code} {fu : Nat} (C : Cx D cA bs ad RX10 cX10_isBlock 2 (some .boolean) p s m args meth c) {x0 : Nat} {x1 : Int32} {q : Int32 × St} (hx0 : xk x0 = 8) {σ : St} (h : fX10_isBlock_0 fu x0 x1 σ = some q) : Y D cA bs ad p l e (rmY 1 25) s m args below meth c 2 0 0 (QM D cA bs ad below args s (some (.int q.1)) q.2) σ 0 [(0, .ref (ad x0)), (1, .int x1)] [] := by
  unfold fX10_isBlock_0 at h
  refine y_iload_n (pc := 0) (q := 1) C dX10_isBlock_0 rfl rfl ?_
  refine y_i2l (pc := 1) C dX10_isBlock_1 ?_
  refine y_lconst (pc := 2) (v := (0 : Int64)) C dX10_isBlock_2 (by decide) ?_
  refine y_aload_n (pc := 3) (q := 0) C dX10_isBlock_3 rfl rfl ?_
  refine y_geti (pc := 4) C faX10_105 rfl hx0 dX10_isBlock_4 ?_
  refine y_iconst (pc := 7) (v := (1 : Int32)) C dX10_isBlock_7 (by decide) ?_
  refine y_isub (pc := 8) C dX10_isBlock_8 ?_
  refine y_i2l (pc := 9) C dX10_isBlock_9 ?_
  obtain ⟨q101, eq101, h⟩ := bdS h
  refine y_callS (pc := 10) (As := [.long x1.toInt64, .long (0 : Int64), .long ((σ.1 x0 12) - (1 : Int32)).toInt64]) (rest := []) C (mX10_in (fu := fu) eq101) vwX10_68 rfl rfl (Nat.le_of_ble_eq_true rfl) ⟨Nat.le_of_ble_eq_true rfl, Nat.le_of_ble_eq_true rfl⟩ ⟨Nat.le_refl _, Nat.le_refl _⟩ dX10_isBlock_10 ?_
  show Y _ _ _ _ _ _ _ _ _ _ _ _ _ _ _ _ _ _ q101.2 13 [(0, .ref (ad x0)), (1, .int x1)] [.int q101.1]
  by_cases c102 : q101.1 = 0 ∨ q101.1 = 1
  case neg => rw [if_neg c102] at h; cases h
  rw [if_pos c102] at h
  cases h
  exact y_zret (pc := 13) C c102 dX10_isBlock_13
noncomputable def fX10_isBlock (fu : Nat) (x0 : Nat) (x1 : Int32) (σ : St) : Option (Int32 × St) := if xk x0 = 8 then fX10_isBlock_0 fu x0 x1 σ else none
theorem mX10_isBlock {l : Launch} {D : va_G} {cA : ClassId} {bs fu : Nat} {ad : Nat → Nat} {x0 : Nat} {x1 : Int32} {σ : St} {q : Int32 × St} (h : fX10_isBlock fu x0 x1 σ = some q) : Ct l D cA bs ad yX10_isBlock cX10_isBlock 2 (some .boolean) 1 25 [.ref (ad x0), .int x1] σ (some (.int q.1)) q.2 := by
  unfold fX10_isBlock at h
  by_cases hx0 : xk x0 = 8
  case neg => rw [if_neg hx0] at h; cases h
  rw [if_pos hx0] at h
  exact Ct.of (by decide) (Nat.le_of_ble_eq_true rfl) (fun p e s m args below meth c C => tX10_isBlock_0 (fu := fu) C hx0 h)
noncomputable def fX10_block_36 (fu : Nat) (x0 : Nat) (x1 : Int32) (x2 : Int32) (x3 : Int32) (σ : St) : Option (Int32 × St) :=
  some ((-102 : Int32), σ)
set_option maxHeartbeats 4000000 in
set_option maxRecDepth 100000 in
theorem tX10_block_36 {l : Launch} {D : va_G} {cA : ClassId} {bs : Nat} {ad : Nat → Nat} {p : Program} {e : Env} {s : State} {m : MethodId} {args : Array Value} {below : List Frame} {meth : Method} {c : Code} {fu : Nat} (C : Cx D cA bs ad RX10 cX10_block 4 (some .int) p s m args meth c) {x0 : Nat} {x1 : Int32} {x2 : Int32} {x3 : Int32} {q : Int32 × St} (hx0 : xk x0 = 8) {σ : St} (h : fX10_block_36 fu x0 x1 x2 x3 σ = some q) : Y D cA bs ad p l e (rmY 1 25) s m args below meth c 4 0 0 (QM D cA bs ad below args s (some (.int q.1)) q.2) σ 36 [(0, .ref (ad x0)), (1, .int x1), (2, .int x2), (3, .int x3)] [] := by
  unfold fX10_block_36 at h
  refine y_bipush (pc := 36) (v := (-102 : Int32)) C dX10_block_36 (by decide) ?_
  cases h
  exact y_iret (pc := 38) C dX10_block_38
noncomputable def fX10_block_0 (fu : Nat) (x0 : Nat) (x1 : Int32) (x2 : Int32) (x3 : Int32) (σ : St) : Option (Int32 × St) :=
  (fX10_in fu x1.toInt64 (0 : Int64) (4 : Int64) σ).bind fun (q101 : Int32 × St) =>
  if q101.1 = 0 then
    fX10_block_36 fu x0 x1 x2 x3 q101.2
  else
    (fX10_in fu x2.toInt64 (0 : Int64) (999 : Int64) q101.2).bind fun (q103 : Int32 × St) =>
    if q103.1 = 0 then
      fX10_block_36 fu x0 x1 x2 x3 q103.2
    else
      (fX10_in fu x3.toInt64 (0 : Int64) (999 : Int64) q103.2).bind fun (q105 : Int32 × St) =>
      if q105.1 = 0 then
        fX10_block_36 fu x0 x1 x2 x3 q105.2
      else
        if (q105.2.1 x0 12) = (7 : Int32) then
          some ((-104 : Int32), q105.2)
        else
          (ast q105.2 (rf x0 13) 7 (q105.2.1 x0 12) x1).bind fun (σ108 : St) =>
          (ast σ108 (rf x0 14) 7 (σ108.1 x0 12) x2).bind fun (σ109 : St) =>
          (ast σ109 (rf x0 15) 7 (σ109.1 x0 12) x3).bind fun (σ110 : St) =>
          (ast σ110 (rf x0 16) 7 (σ110.1 x0 12) (σ110.1 x0 12)).bind fun (σ111 : St) =>
          (ast σ111 (rf x0 17) 7 (σ111.1 x0 12) (-1 : Int32)).bind fun (σ112 : St) =>
          nm (si σ112 x0 12 ((σ112.1 x0 12) + (1 : Int32))) fun (σ113 : St) =>
          some (((σ113.1 x0 12) - (1 : Int32)), σ113)
set_option maxHeartbeats 4000000 in
set_option maxRecDepth 100000 in
theorem tX10_block_0 {l : Launch} {D : va_G} {cA : ClassId} {bs : Nat} {ad : Nat → Nat} {p : Program} {e : Env} {s : State} {m : MethodId} {args : Array Value} {below : List Frame} {meth : Method} {c : Code} {fu : Nat} (C : Cx D cA bs ad RX10 cX10_block 4 (some .int) p s m args meth c) {x0 : Nat} {x1 : Int32} {x2 : Int32} {x3 : Int32} {q : Int32 × St} (hx0 : xk x0 = 8) {σ : St} (h : fX10_block_0 fu x0 x1 x2 x3 σ = some q) : Y D cA bs ad p l e (rmY 1 25) s m args below meth c 4 0 0 (QM D cA bs ad below args s (some (.int q.1)) q.2) σ 0 [(0, .ref (ad x0)), (1, .int x1), (2, .int x2), (3, .int x3)] [] := by
  unfold fX10_block_0 at h
  refine y_iload_n (pc := 0) (q := 1) C dX10_block_0 rfl rfl ?_
  refine y_i2l (pc := 1) C dX10_block_1 ?_
  refine y_lconst (pc := 2) (v := (0 : Int64)) C dX10_block_2 (by decide) ?_
  refine y_ldc2 (pc := 3) C dX10_block_3 cwX10_108 ?_
  obtain ⟨q101, eq101, h⟩ := bdS h
  refine y_callS (pc := 6) (As := [.long x1.toInt64, .long (0 : Int64), .long (4 : Int64)]) (rest := []) C (mX10_in (fu := fu) eq101) vwX10_68 rfl rfl (Nat.le_of_ble_eq_true rfl) ⟨Nat.le_of_ble_eq_true rfl, Nat.le_of_ble_eq_true rfl⟩ ⟨Nat.le_refl _, Nat.le_refl _⟩ dX10_block_6 ?_
  show Y _ _ _ _ _ _ _ _ _ _ _ _ _ _ _ _ _ _ q101.2 9 [(0, .ref (ad x0)), (1, .int x1), (2, .int x2), (3, .int x3)] [.int q101.1]
  refine y_if_eq (pc := 9) (tgt := 36) C dX10_block_9 (by decide) (fun c102 => ?_) (fun c102 => ?_)
  · rw [if_pos c102] at h
    exact tX10_block_36 (fu := fu) C hx0 h
  · rw [if_neg c102] at h
    refine y_iload_n (pc := 12) (q := 2) C dX10_block_12 rfl rfl ?_
    refine y_i2l (pc := 13) C dX10_block_13 ?_
    refine y_lconst (pc := 14) (v := (0 : Int64)) C dX10_block_14 (by decide) ?_
    refine y_ldc2 (pc := 15) C dX10_block_15 cwX10_110 ?_
    obtain ⟨q103, eq103, h⟩ := bdS h
    refine y_callS (pc := 18) (As := [.long x2.toInt64, .long (0 : Int64), .long (999 : Int64)]) (rest := []) C (mX10_in (fu := fu) eq103) vwX10_68 rfl rfl (Nat.le_of_ble_eq_true rfl) ⟨Nat.le_of_ble_eq_true rfl, Nat.le_of_ble_eq_true rfl⟩ ⟨Nat.le_refl _, Nat.le_refl _⟩ dX10_block_18 ?_
    show Y _ _ _ _ _ _ _ _ _ _ _ _ _ _ _ _ _ _ q103.2 21 [(0, .ref (ad x0)), (1, .int x1), (2, .int x2), (3, .int x3)] [.int q103.1]
    refine y_if_eq (pc := 21) (tgt := 36) C dX10_block_21 (by decide) (fun c104 => ?_) (fun c104 => ?_)
    · rw [if_pos c104] at h
      exact tX10_block_36 (fu := fu) C hx0 h
    · rw [if_neg c104] at h
      refine y_iload_n (pc := 24) (q := 3) C dX10_block_24 rfl rfl ?_
      refine y_i2l (pc := 25) C dX10_block_25 ?_
      refine y_lconst (pc := 26) (v := (0 : Int64)) C dX10_block_26 (by decide) ?_
      refine y_ldc2 (pc := 27) C dX10_block_27 cwX10_110 ?_
      obtain ⟨q105, eq105, h⟩ := bdS h
      refine y_callS (pc := 30) (As := [.long x3.toInt64, .long (0 : Int64), .long (999 : Int64)]) (rest := []) C (mX10_in (fu := fu) eq105) vwX10_68 rfl rfl (Nat.le_of_ble_eq_true rfl) ⟨Nat.le_of_ble_eq_true rfl, Nat.le_of_ble_eq_true rfl⟩ ⟨Nat.le_refl _, Nat.le_refl _⟩ dX10_block_30 ?_
      show Y _ _ _ _ _ _ _ _ _ _ _ _ _ _ _ _ _ _ q105.2 33 [(0, .ref (ad x0)), (1, .int x1), (2, .int x2), (3, .int x3)] [.int q105.1]
      refine y_if_ne (pc := 33) (tgt := 39) C dX10_block_33 (by decide) (fun c106 => ?_) (fun c106 => ?_)
      · rw [if_neg c106] at h
        refine y_aload_n (pc := 39) (q := 0) C dX10_block_39 rfl rfl ?_
        refine y_geti (pc := 40) C faX10_105 rfl hx0 dX10_block_40 ?_
        refine y_bipush (pc := 43) (v := (7 : Int32)) C dX10_block_43 (by decide) ?_
        refine y_icmp_ne (pc := 45) (tgt := 51) C dX10_block_45 (by decide) (fun c107 => ?_) (fun c107 => ?_)
        · rw [if_neg c107] at h
          refine y_aload_n (pc := 51) (q := 0) C dX10_block_51 rfl rfl ?_
          refine y_getr (pc := 52) C faX10_13 rfl hx0 dX10_block_52 ?_
          refine y_aload_n (pc := 55) (q := 0) C dX10_block_55 rfl rfl ?_
          refine y_geti (pc := 56) C faX10_105 rfl hx0 dX10_block_56 ?_
          refine y_iload_n (pc := 59) (q := 1) C dX10_block_59 rfl rfl ?_
          obtain ⟨σ108, eσ108, h⟩ := bdS h
          refine y_iast (pc := 60) (n := 7) C (rf_8_13 _ hx0) (by decide) eσ108 dX10_block_60 ?_
          refine y_aload_n (pc := 61) (q := 0) C dX10_block_61 rfl rfl ?_
          refine y_getr (pc := 62) C faX10_16 rfl hx0 dX10_block_62 ?_
          refine y_aload_n (pc := 65) (q := 0) C dX10_block_65 rfl rfl ?_
          refine y_geti (pc := 66) C faX10_105 rfl hx0 dX10_block_66 ?_
          refine y_iload_n (pc := 69) (q := 2) C dX10_block_69 rfl rfl ?_
          obtain ⟨σ109, eσ109, h⟩ := bdS h
          refine y_iast (pc := 70) (n := 7) C (rf_8_14 _ hx0) (by decide) eσ109 dX10_block_70 ?_
          refine y_aload_n (pc := 71) (q := 0) C dX10_block_71 rfl rfl ?_
          refine y_getr (pc := 72) C faX10_19 rfl hx0 dX10_block_72 ?_
          refine y_aload_n (pc := 75) (q := 0) C dX10_block_75 rfl rfl ?_
          refine y_geti (pc := 76) C faX10_105 rfl hx0 dX10_block_76 ?_
          refine y_iload_n (pc := 79) (q := 3) C dX10_block_79 rfl rfl ?_
          obtain ⟨σ110, eσ110, h⟩ := bdS h
          refine y_iast (pc := 80) (n := 7) C (rf_8_15 _ hx0) (by decide) eσ110 dX10_block_80 ?_
          refine y_aload_n (pc := 81) (q := 0) C dX10_block_81 rfl rfl ?_
          refine y_getr (pc := 82) C faX10_22 rfl hx0 dX10_block_82 ?_
          refine y_aload_n (pc := 85) (q := 0) C dX10_block_85 rfl rfl ?_
          refine y_geti (pc := 86) C faX10_105 rfl hx0 dX10_block_86 ?_
          refine y_aload_n (pc := 89) (q := 0) C dX10_block_89 rfl rfl ?_
          refine y_geti (pc := 90) C faX10_105 rfl hx0 dX10_block_90 ?_
          obtain ⟨σ111, eσ111, h⟩ := bdS h
          refine y_iast (pc := 93) (n := 7) C (rf_8_16 _ hx0) (by decide) eσ111 dX10_block_93 ?_
          refine y_aload_n (pc := 94) (q := 0) C dX10_block_94 rfl rfl ?_
          refine y_getr (pc := 95) C faX10_25 rfl hx0 dX10_block_95 ?_
          refine y_aload_n (pc := 98) (q := 0) C dX10_block_98 rfl rfl ?_
          refine y_geti (pc := 99) C faX10_105 rfl hx0 dX10_block_99 ?_
          refine y_iconst (pc := 102) (v := (-1 : Int32)) C dX10_block_102 (by decide) ?_
          obtain ⟨σ112, eσ112, h⟩ := bdS h
          refine y_iast (pc := 103) (n := 7) C (rf_8_17 _ hx0) (by decide) eσ112 dX10_block_103 ?_
          refine y_aload_n (pc := 104) (q := 0) C dX10_block_104 rfl rfl ?_
          refine y_dup (pc := 105) C dX10_block_105 rfl ?_
          refine y_geti (pc := 106) C faX10_105 rfl hx0 dX10_block_106 ?_
          refine y_iconst (pc := 109) (v := (1 : Int32)) C dX10_block_109 (by decide) ?_
          refine y_iadd (pc := 110) C dX10_block_110 ?_
          obtain ⟨σ113, eσ113, h⟩ := nmS h
          refine y_puti (pc := 111) C fpX10_105 rfl hx0 rfl rfl dX10_block_111 ?_
          rw [← eσ113]
          refine y_aload_n (pc := 114) (q := 0) C dX10_block_114 rfl rfl ?_
          refine y_geti (pc := 115) C faX10_105 rfl hx0 dX10_block_115 ?_
          refine y_iconst (pc := 118) (v := (1 : Int32)) C dX10_block_118 (by decide) ?_
          refine y_isub (pc := 119) C dX10_block_119 ?_
          cases h
          exact y_iret (pc := 120) C dX10_block_120
        · rw [if_pos c107] at h
          refine y_bipush (pc := 48) (v := (-104 : Int32)) C dX10_block_48 (by decide) ?_
          cases h
          exact y_iret (pc := 50) C dX10_block_50
      · rw [if_pos c106] at h
        exact tX10_block_36 (fu := fu) C hx0 h
noncomputable def fX10_block (fu : Nat) (x0 : Nat) (x1 : Int32) (x2 : Int32) (x3 : Int32) (σ : St) : Option (Int32 × St) := if xk x0 = 8 then fX10_block_0 fu x0 x1 x2 x3 σ else none
theorem mX10_block {l : Launch} {D : va_G} {cA : ClassId} {bs fu : Nat} {ad : Nat → Nat} {x0 : Nat} {x1 : Int32} {x2 : Int32} {x3 : Int32} {σ : St} {q : Int32 × St} (h : fX10_block fu x0 x1 x2 x3 σ = some q) : Ct l D cA bs ad yX10_block cX10_block 4 (some .int) 1 25 [.ref (ad x0), .int x1, .int x2, .int x3] σ (some (.int q.1)) q.2 := by
  unfold fX10_block at h
  by_cases hx0 : xk x0 = 8
  case neg => rw [if_neg hx0] at h; cases h
  rw [if_pos hx0] at h
  exact Ct.of (by decide) (Nat.le_of_ble_eq_true rfl) (fun p e s m args below meth c C => tX10_block_0 (fu := fu) C hx0 h)
noncomputable def fX10_tell_0 (fu : Nat) (x0 : Nat) (x1 : Int32) (x2 : Int32) (σ : St) : Option (Int32 × St) :=
  if x2 = (0 : Int32) then
    (ald σ (rf x0 13) 7 x1).bind fun (v102 : Int32) =>
    some (v102, σ)
  else
  if x2 = (1 : Int32) then
    (ald σ (rf x0 14) 7 x1).bind fun (v104 : Int32) =>
    some (v104, σ)
  else
  if x2 = (2 : Int32) then
    (ald σ (rf x0 15) 7 x1).bind fun (v106 : Int32) =>
    some (v106, σ)
  else
  if x2 = (3 : Int32) then
    (ald σ (rf x0 16) 7 x1).bind fun (v108 : Int32) =>
    some (v108, σ)
  else
  if x2 = (4 : Int32) then
    (ald σ (rf x0 17) 7 x1).bind fun (v110 : Int32) =>
    some (v110, σ)
  else
  some ((-102 : Int32), σ)
set_option maxHeartbeats 4000000 in
set_option maxRecDepth 100000 in
theorem tX10_tell_0 {l : Launch} {D : va_G} {cA : ClassId} {bs : Nat} {ad : Nat → Nat} {p : Program} {e : Env} {s : State} {m : MethodId} {args : Array Value} {below : List Frame} {meth : Method} {c : Code} {fu : Nat} (C : Cx D cA bs ad RX10 cX10_tell 3 (some .int) p s m args meth c) {x0 : Nat} {x1 : Int32} {x2 : Int32} {q : Int32 × St} (hx0 : xk x0 = 8) {σ : St} (h : fX10_tell_0 fu x0 x1 x2 σ = some q) : Y D cA bs ad p l e (rmY 0 0) s m args below meth c 3 0 0 (QM D cA bs ad below args s (some (.int q.1)) q.2) σ 0 [(0, .ref (ad x0)), (1, .int x1), (2, .int x2)] [] := by
  unfold fX10_tell_0 at h
  refine y_iload_n (pc := 0) (q := 2) C dX10_tell_0 rfl rfl ?_
  by_cases c101 : x2 = (0 : Int32)
  · rw [if_pos c101] at h
    refine y_tabI (pc := 1) (tgt := 36) (off := 35) C dX10_tell_1 (by rw [c101]; decide) (by rw [c101]; decide) (by rw [c101]; decide +kernel) (by decide) ?_
    refine y_aload_n (pc := 36) (q := 0) C dX10_tell_36 rfl rfl ?_
    refine y_getr (pc := 37) C faX10_13 rfl hx0 dX10_tell_37 ?_
    refine y_iload_n (pc := 40) (q := 1) C dX10_tell_40 rfl rfl ?_
    obtain ⟨v102, ev102, h⟩ := bdS h
    refine y_iald (pc := 41) (n := 7) C (rf_8_13 _ hx0) (by decide) ev102 dX10_tell_41 ?_
    cases h
    exact y_iret (pc := 42) C dX10_tell_42
  rw [if_neg c101] at h
  by_cases c103 : x2 = (1 : Int32)
  · rw [if_pos c103] at h
    refine y_tabI (pc := 1) (tgt := 43) (off := 42) C dX10_tell_1 (by rw [c103]; decide) (by rw [c103]; decide) (by rw [c103]; decide +kernel) (by decide) ?_
    refine y_aload_n (pc := 43) (q := 0) C dX10_tell_43 rfl rfl ?_
    refine y_getr (pc := 44) C faX10_16 rfl hx0 dX10_tell_44 ?_
    refine y_iload_n (pc := 47) (q := 1) C dX10_tell_47 rfl rfl ?_
    obtain ⟨v104, ev104, h⟩ := bdS h
    refine y_iald (pc := 48) (n := 7) C (rf_8_14 _ hx0) (by decide) ev104 dX10_tell_48 ?_
    cases h
    exact y_iret (pc := 49) C dX10_tell_49
  rw [if_neg c103] at h
  by_cases c105 : x2 = (2 : Int32)
  · rw [if_pos c105] at h
    refine y_tabI (pc := 1) (tgt := 50) (off := 49) C dX10_tell_1 (by rw [c105]; decide) (by rw [c105]; decide) (by rw [c105]; decide +kernel) (by decide) ?_
    refine y_aload_n (pc := 50) (q := 0) C dX10_tell_50 rfl rfl ?_
    refine y_getr (pc := 51) C faX10_19 rfl hx0 dX10_tell_51 ?_
    refine y_iload_n (pc := 54) (q := 1) C dX10_tell_54 rfl rfl ?_
    obtain ⟨v106, ev106, h⟩ := bdS h
    refine y_iald (pc := 55) (n := 7) C (rf_8_15 _ hx0) (by decide) ev106 dX10_tell_55 ?_
    cases h
    exact y_iret (pc := 56) C dX10_tell_56
  rw [if_neg c105] at h
  by_cases c107 : x2 = (3 : Int32)
  · rw [if_pos c107] at h
    refine y_tabI (pc := 1) (tgt := 57) (off := 56) C dX10_tell_1 (by rw [c107]; decide) (by rw [c107]; decide) (by rw [c107]; decide +kernel) (by decide) ?_
    refine y_aload_n (pc := 57) (q := 0) C dX10_tell_57 rfl rfl ?_
    refine y_getr (pc := 58) C faX10_22 rfl hx0 dX10_tell_58 ?_
    refine y_iload_n (pc := 61) (q := 1) C dX10_tell_61 rfl rfl ?_
    obtain ⟨v108, ev108, h⟩ := bdS h
    refine y_iald (pc := 62) (n := 7) C (rf_8_16 _ hx0) (by decide) ev108 dX10_tell_62 ?_
    cases h
    exact y_iret (pc := 63) C dX10_tell_63
  rw [if_neg c107] at h
  by_cases c109 : x2 = (4 : Int32)
  · rw [if_pos c109] at h
    refine y_tabI (pc := 1) (tgt := 64) (off := 63) C dX10_tell_1 (by rw [c109]; decide) (by rw [c109]; decide) (by rw [c109]; decide +kernel) (by decide) ?_
    refine y_aload_n (pc := 64) (q := 0) C dX10_tell_64 rfl rfl ?_
    refine y_getr (pc := 65) C faX10_25 rfl hx0 dX10_tell_65 ?_
    refine y_iload_n (pc := 68) (q := 1) C dX10_tell_68 rfl rfl ?_
    obtain ⟨v110, ev110, h⟩ := bdS h
    refine y_iald (pc := 69) (n := 7) C (rf_8_17 _ hx0) (by decide) ev110 dX10_tell_69 ?_
    cases h
    exact y_iret (pc := 70) C dX10_tell_70
  rw [if_neg c109] at h
  refine y_tabO (pc := 1) (tgt := 71) C dX10_tell_1 (by have := lv_neT (a := 0) c101 (by decide); have := lv_neT (a := 1) c103 (by decide); have := lv_neT (a := 2) c105 (by decide); have := lv_neT (a := 3) c107 (by decide); have := lv_neT (a := 4) c109 (by decide); omega) (by decide) ?_
  refine y_bipush (pc := 71) (v := (-102 : Int32)) C dX10_tell_71 (by decide) ?_
  cases h
  exact y_iret (pc := 73) C dX10_tell_73
noncomputable def fX10_tell (fu : Nat) (x0 : Nat) (x1 : Int32) (x2 : Int32) (σ : St) : Option (Int32 × St) := if xk x0 = 8 then fX10_tell_0 fu x0 x1 x2 σ else none
theorem mX10_tell {l : Launch} {D : va_G} {cA : ClassId} {bs fu : Nat} {ad : Nat → Nat} {x0 : Nat} {x1 : Int32} {x2 : Int32} {σ : St} {q : Int32 × St} (h : fX10_tell fu x0 x1 x2 σ = some q) : Ct l D cA bs ad yX10_tell cX10_tell 3 (some .int) 0 0 [.ref (ad x0), .int x1, .int x2] σ (some (.int q.1)) q.2 := by
  unfold fX10_tell at h
  by_cases hx0 : xk x0 = 8
  case neg => rw [if_neg hx0] at h; cases h
  rw [if_pos hx0] at h
  exact Ct.of (by decide) (Nat.le_of_ble_eq_true rfl) (fun p e s m args below meth c C => tX10_tell_0 (fu := fu) C hx0 h)
noncomputable def fX10_about_19 (fu : Nat) (x0 : Nat) (x1 : Int32) (x2 : Int32) (s0 : Int32) (σ : St) : Option (Int32 × St) :=
  some (s0, σ)
set_option maxHeartbeats 4000000 in
set_option maxRecDepth 100000 in
theorem tX10_about_19 {l : Launch} {D : va_G} {cA : ClassId} {bs : Nat} {ad : Nat → Nat} {p : Program} {e : Env} {s : State} {m : MethodId} {args : Array Value} {below : List Frame} {meth : Method} {c : Code} {fu : Nat} (C : Cx D cA bs ad RX10 cX10_about 3 (some .int) p s m args meth c) {x0 : Nat} {x1 : Int32} {x2 : Int32} {s0 : Int32} {q : Int32 × St} (hx0 : xk x0 = 8) {σ : St} (h : fX10_about_19 fu x0 x1 x2 s0 σ = some q) : Y D cA bs ad p l e (rmY 2 46) s m args below meth c 3 0 0 (QM D cA bs ad below args s (some (.int q.1)) q.2) σ 19 [(0, .ref (ad x0)), (1, .int x1), (2, .int x2)] [.int s0] := by
  unfold fX10_about_19 at h
  cases h
  exact y_iret (pc := 19) C dX10_about_19
noncomputable def fX10_about_0 (fu : Nat) (x0 : Nat) (x1 : Int32) (x2 : Int32) (σ : St) : Option (Int32 × St) :=
  (fX10_isBlock fu x0 x1 σ).bind fun (q101 : Int32 × St) =>
  if q101.1 = 0 then
    fX10_about_19 fu x0 x1 x2 (-101 : Int32) q101.2
  else
    (fX10_tell fu x0 x1 x2 q101.2).bind fun (q103 : Int32 × St) =>
    fX10_about_19 fu x0 x1 x2 q103.1 q103.2
set_option maxHeartbeats 4000000 in
set_option maxRecDepth 100000 in
theorem tX10_about_0 {l : Launch} {D : va_G} {cA : ClassId} {bs : Nat} {ad : Nat → Nat} {p : Program} {e : Env} {s : State} {m : MethodId} {args : Array Value} {below : List Frame} {meth : Method} {c : Code} {fu : Nat} (C : Cx D cA bs ad RX10 cX10_about 3 (some .int) p s m args meth c) {x0 : Nat} {x1 : Int32} {x2 : Int32} {q : Int32 × St} (hx0 : xk x0 = 8) {σ : St} (h : fX10_about_0 fu x0 x1 x2 σ = some q) : Y D cA bs ad p l e (rmY 2 46) s m args below meth c 3 0 0 (QM D cA bs ad below args s (some (.int q.1)) q.2) σ 0 [(0, .ref (ad x0)), (1, .int x1), (2, .int x2)] [] := by
  unfold fX10_about_0 at h
  refine y_aload_n (pc := 0) (q := 0) C dX10_about_0 rfl rfl ?_
  refine y_iload_n (pc := 1) (q := 1) C dX10_about_1 rfl rfl ?_
  obtain ⟨q101, eq101, h⟩ := bdS h
  refine y_callV (pc := 2) (As := [.int x1]) (rest := []) C (mX10_isBlock (fu := fu) eq101) vwX10_112 rfl (by decide) hx0 rfl rfl (Nat.le_of_ble_eq_true rfl) ⟨Nat.le_of_ble_eq_true rfl, Nat.le_of_ble_eq_true rfl⟩ ⟨Nat.le_refl _, Nat.le_refl _⟩ dX10_about_2 ?_
  show Y _ _ _ _ _ _ _ _ _ _ _ _ _ _ _ _ _ _ q101.2 5 [(0, .ref (ad x0)), (1, .int x1), (2, .int x2)] [.int q101.1]
  refine y_if_eq (pc := 5) (tgt := 17) C dX10_about_5 (by decide) (fun c102 => ?_) (fun c102 => ?_)
  · rw [if_pos c102] at h
    refine y_bipush (pc := 17) (v := (-101 : Int32)) C dX10_about_17 (by decide) ?_
    exact tX10_about_19 (fu := fu) C hx0 h
  · rw [if_neg c102] at h
    refine y_aload_n (pc := 8) (q := 0) C dX10_about_8 rfl rfl ?_
    refine y_iload_n (pc := 9) (q := 1) C dX10_about_9 rfl rfl ?_
    refine y_iload_n (pc := 10) (q := 2) C dX10_about_10 rfl rfl ?_
    obtain ⟨q103, eq103, h⟩ := bdS h
    refine y_callV (pc := 11) (As := [.int x1, .int x2]) (rest := []) C (mX10_tell (fu := fu) eq103) vwX10_115 rfl (by decide) hx0 rfl rfl (Nat.le_of_ble_eq_true rfl) ⟨Nat.le_of_ble_eq_true rfl, Nat.le_of_ble_eq_true rfl⟩ ⟨Nat.le_refl _, Nat.le_refl _⟩ dX10_about_11 ?_
    show Y _ _ _ _ _ _ _ _ _ _ _ _ _ _ _ _ _ _ q103.2 14 [(0, .ref (ad x0)), (1, .int x1), (2, .int x2)] [.int q103.1]
    refine y_goto (pc := 14) (tgt := 19) C dX10_about_14 (by decide) ?_
    exact tX10_about_19 (fu := fu) C hx0 h
noncomputable def fX10_about (fu : Nat) (x0 : Nat) (x1 : Int32) (x2 : Int32) (σ : St) : Option (Int32 × St) := if xk x0 = 8 then fX10_about_0 fu x0 x1 x2 σ else none
theorem mX10_about {l : Launch} {D : va_G} {cA : ClassId} {bs fu : Nat} {ad : Nat → Nat} {x0 : Nat} {x1 : Int32} {x2 : Int32} {σ : St} {q : Int32 × St} (h : fX10_about fu x0 x1 x2 σ = some q) : Ct l D cA bs ad yX10_about cX10_about 3 (some .int) 2 46 [.ref (ad x0), .int x1, .int x2] σ (some (.int q.1)) q.2 := by
  unfold fX10_about at h
  by_cases hx0 : xk x0 = 8
  case neg => rw [if_neg hx0] at h; cases h
  rw [if_pos hx0] at h
  exact Ct.of (by decide) (Nat.le_of_ble_eq_true rfl) (fun p e s m args below meth c C => tX10_about_0 (fu := fu) C hx0 h)
noncomputable def fX10_as_70 (fu : Nat) (x0 : Nat) (x1 : Int32) (x2 : Int32) (s0 : Int32) (σ : St) : Option (Int32 × St) :=
  some (s0, σ)
set_option maxHeartbeats 4000000 in
set_option maxRecDepth 100000 in
theorem tX10_as_70 {l : Launch} {D : va_G} {cA : ClassId} {bs : Nat} {ad : Nat → Nat} {p : Program} {e : Env} {s : State} {m : MethodId} {args : Array Value} {below : List Frame} {meth : Method} {c : Code} {fu : Nat} (C : Cx D cA bs ad RX10 cX10_as 4 (some .int) p s m args meth c) {x0 : Nat} {x1 : Int32} {x2 : Int32} {s0 : Int32} {q : Int32 × St} (hx0 : xk x0 = 8) {σ : St} (h : fX10_as_70 fu x0 x1 x2 s0 σ = some q) : Y D cA bs ad p l e (rmY 2 46) s m args below meth c 4 0 0 (QM D cA bs ad below args s (some (.int q.1)) q.2) σ 70 [(0, .ref (ad x0)), (1, .int x1), (2, .int x2)] [.int s0] := by
  unfold fX10_as_70 at h
  cases h
  exact y_iret (pc := 70) C dX10_as_70
noncomputable def fX10_as_60 (fu : Nat) (x0 : Nat) (x1 : Int32) (x2 : Int32) (s0 : Int32) (σ : St) : Option (Int32 × St) :=
  if s0 = 0 then
    fX10_as_70 fu x0 x1 x2 (-1 : Int32) σ
  else
    fX10_as_70 fu x0 x1 x2 x1 σ
set_option maxHeartbeats 4000000 in
set_option maxRecDepth 100000 in
theorem tX10_as_60 {l : Launch} {D : va_G} {cA : ClassId} {bs : Nat} {ad : Nat → Nat} {p : Program} {e : Env} {s : State} {m : MethodId} {args : Array Value} {below : List Frame} {meth : Method} {c : Code} {fu : Nat} (C : Cx D cA bs ad RX10 cX10_as 4 (some .int) p s m args meth c) {x0 : Nat} {x1 : Int32} {x2 : Int32} {s0 : Int32} {q : Int32 × St} (hx0 : xk x0 = 8) {σ : St} (h : fX10_as_60 fu x0 x1 x2 s0 σ = some q) : Y D cA bs ad p l e (rmY 2 46) s m args below meth c 4 0 0 (QM D cA bs ad below args s (some (.int q.1)) q.2) σ 60 [(0, .ref (ad x0)), (1, .int x1), (2, .int x2)] [.int s0] := by
  unfold fX10_as_60 at h
  refine y_istore_n (pc := 60) (lv' := [(3, .int s0), (0, .ref (ad x0)), (1, .int x1), (2, .int x2)]) C dX10_as_60 rfl (by decide) rfl ?_
  refine y_iload_n (pc := 61) (q := 0) C dX10_as_61 rfl rfl ?_
  refine y_if_eq (pc := 62) (tgt := 69) C dX10_as_62 (by decide) (fun c101 => ?_) (fun c101 => ?_)
  · rw [if_pos c101] at h
    refine y_iconst (pc := 69) (v := (-1 : Int32)) C dX10_as_69 (by decide) ?_
    refine y_sub [1, 2, 3] (lv' := [(0, .ref (ad x0)), (1, .int x1), (2, .int x2)]) rfl ?_
    exact tX10_as_70 (fu := fu) C hx0 h
  · rw [if_neg c101] at h
    refine y_iload_n (pc := 65) (q := 2) C dX10_as_65 rfl rfl ?_
    refine y_goto (pc := 66) (tgt := 70) C dX10_as_66 (by decide) ?_
    refine y_sub [1, 2, 3] (lv' := [(0, .ref (ad x0)), (1, .int x1), (2, .int x2)]) rfl ?_
    exact tX10_as_70 (fu := fu) C hx0 h
noncomputable def fX10_as_55 (fu : Nat) (x0 : Nat) (x1 : Int32) (x2 : Int32) (σ : St) : Option (Int32 × St) :=
  fX10_as_60 fu x0 x1 x2 (1 : Int32) σ
set_option maxHeartbeats 4000000 in
set_option maxRecDepth 100000 in
theorem tX10_as_55 {l : Launch} {D : va_G} {cA : ClassId} {bs : Nat} {ad : Nat → Nat} {p : Program} {e : Env} {s : State} {m : MethodId} {args : Array Value} {below : List Frame} {meth : Method} {c : Code} {fu : Nat} (C : Cx D cA bs ad RX10 cX10_as 4 (some .int) p s m args meth c) {x0 : Nat} {x1 : Int32} {x2 : Int32} {q : Int32 × St} (hx0 : xk x0 = 8) {σ : St} (h : fX10_as_55 fu x0 x1 x2 σ = some q) : Y D cA bs ad p l e (rmY 2 46) s m args below meth c 4 0 0 (QM D cA bs ad below args s (some (.int q.1)) q.2) σ 55 [(0, .ref (ad x0)), (1, .int x1), (2, .int x2)] [] := by
  unfold fX10_as_55 at h
  refine y_iconst (pc := 55) (v := (1 : Int32)) C dX10_as_55 (by decide) ?_
  refine y_goto (pc := 56) (tgt := 60) C dX10_as_56 (by decide) ?_
  exact tX10_as_60 (fu := fu) C hx0 h
noncomputable def fX10_as_59 (fu : Nat) (x0 : Nat) (x1 : Int32) (x2 : Int32) (σ : St) : Option (Int32 × St) :=
  fX10_as_60 fu x0 x1 x2 (0 : Int32) σ
set_option maxHeartbeats 4000000 in
set_option maxRecDepth 100000 in
theorem tX10_as_59 {l : Launch} {D : va_G} {cA : ClassId} {bs : Nat} {ad : Nat → Nat} {p : Program} {e : Env} {s : State} {m : MethodId} {args : Array Value} {below : List Frame} {meth : Method} {c : Code} {fu : Nat} (C : Cx D cA bs ad RX10 cX10_as 4 (some .int) p s m args meth c) {x0 : Nat} {x1 : Int32} {x2 : Int32} {q : Int32 × St} (hx0 : xk x0 = 8) {σ : St} (h : fX10_as_59 fu x0 x1 x2 σ = some q) : Y D cA bs ad p l e (rmY 2 46) s m args below meth c 4 0 0 (QM D cA bs ad below args s (some (.int q.1)) q.2) σ 59 [(0, .ref (ad x0)), (1, .int x1), (2, .int x2)] [] := by
  unfold fX10_as_59 at h
  refine y_iconst (pc := 59) (v := (0 : Int32)) C dX10_as_59 (by decide) ?_
  exact tX10_as_60 (fu := fu) C hx0 h
noncomputable def fX10_as_0 (fu : Nat) (x0 : Nat) (x1 : Int32) (x2 : Int32) (σ : St) : Option (Int32 × St) :=
  (fX10_isBlock fu x0 x1 σ).bind fun (q101 : Int32 × St) =>
  if q101.1 = 0 then
    some ((-101 : Int32), q101.2)
  else
    (fX10_in fu x2.toInt64 (0 : Int64) (4 : Int64) q101.2).bind fun (q103 : Int32 × St) =>
    if q103.1 = 0 then
      some ((-102 : Int32), q103.2)
    else
      if x2 = 0 then
        fX10_as_55 fu x0 x1 x2 q103.2
      else
        (ald q103.2 (rf x0 13) 7 x1).bind fun (v106 : Int32) =>
        if x2 = v106 then
          fX10_as_55 fu x0 x1 x2 q103.2
        else
          if x2 = (1 : Int32) then
            (ald q103.2 (rf x0 13) 7 x1).bind fun (v109 : Int32) =>
            if v109 = (4 : Int32) then
              fX10_as_55 fu x0 x1 x2 q103.2
            else
              fX10_as_59 fu x0 x1 x2 q103.2
          else
            fX10_as_59 fu x0 x1 x2 q103.2
set_option maxHeartbeats 4000000 in
set_option maxRecDepth 100000 in
theorem tX10_as_0 {l : Launch} {D : va_G} {cA : ClassId} {bs : Nat} {ad : Nat → Nat} {p : Program} {e : Env} {s : State} {m : MethodId} {args : Array Value} {below : List Frame} {meth : Method} {c : Code} {fu : Nat} (C : Cx D cA bs ad RX10 cX10_as 4 (some .int) p s m args meth c) {x0 : Nat} {x1 : Int32} {x2 : Int32} {q : Int32 × St} (hx0 : xk x0 = 8) {σ : St} (h : fX10_as_0 fu x0 x1 x2 σ = some q) : Y D cA bs ad p l e (rmY 2 46) s m args below meth c 4 0 0 (QM D cA bs ad below args s (some (.int q.1)) q.2) σ 0 [(0, .ref (ad x0)), (1, .int x1), (2, .int x2)] [] := by
  unfold fX10_as_0 at h
  refine y_aload_n (pc := 0) (q := 0) C dX10_as_0 rfl rfl ?_
  refine y_iload_n (pc := 1) (q := 1) C dX10_as_1 rfl rfl ?_
  obtain ⟨q101, eq101, h⟩ := bdS h
  refine y_callV (pc := 2) (As := [.int x1]) (rest := []) C (mX10_isBlock (fu := fu) eq101) vwX10_112 rfl (by decide) hx0 rfl rfl (Nat.le_of_ble_eq_true rfl) ⟨Nat.le_of_ble_eq_true rfl, Nat.le_of_ble_eq_true rfl⟩ ⟨Nat.le_refl _, Nat.le_refl _⟩ dX10_as_2 ?_
  show Y _ _ _ _ _ _ _ _ _ _ _ _ _ _ _ _ _ _ q101.2 5 [(0, .ref (ad x0)), (1, .int x1), (2, .int x2)] [.int q101.1]
  refine y_if_ne (pc := 5) (tgt := 11) C dX10_as_5 (by decide) (fun c102 => ?_) (fun c102 => ?_)
  · rw [if_neg c102] at h
    refine y_iload_n (pc := 11) (q := 2) C dX10_as_11 rfl rfl ?_
    refine y_i2l (pc := 12) C dX10_as_12 ?_
    refine y_lconst (pc := 13) (v := (0 : Int64)) C dX10_as_13 (by decide) ?_
    refine y_ldc2 (pc := 14) C dX10_as_14 cwX10_108 ?_
    obtain ⟨q103, eq103, h⟩ := bdS h
    refine y_callS (pc := 17) (As := [.long x2.toInt64, .long (0 : Int64), .long (4 : Int64)]) (rest := []) C (mX10_in (fu := fu) eq103) vwX10_68 rfl rfl (Nat.le_of_ble_eq_true rfl) ⟨Nat.le_of_ble_eq_true rfl, Nat.le_of_ble_eq_true rfl⟩ ⟨Nat.le_refl _, Nat.le_refl _⟩ dX10_as_17 ?_
    show Y _ _ _ _ _ _ _ _ _ _ _ _ _ _ _ _ _ _ q103.2 20 [(0, .ref (ad x0)), (1, .int x1), (2, .int x2)] [.int q103.1]
    refine y_if_ne (pc := 20) (tgt := 26) C dX10_as_20 (by decide) (fun c104 => ?_) (fun c104 => ?_)
    · rw [if_neg c104] at h
      refine y_iload_n (pc := 26) (q := 2) C dX10_as_26 rfl rfl ?_
      refine y_if_eq (pc := 27) (tgt := 55) C dX10_as_27 (by decide) (fun c105 => ?_) (fun c105 => ?_)
      · rw [if_pos c105] at h
        exact tX10_as_55 (fu := fu) C hx0 h
      · rw [if_neg c105] at h
        refine y_iload_n (pc := 30) (q := 2) C dX10_as_30 rfl rfl ?_
        refine y_aload_n (pc := 31) (q := 0) C dX10_as_31 rfl rfl ?_
        refine y_getr (pc := 32) C faX10_13 rfl hx0 dX10_as_32 ?_
        refine y_iload_n (pc := 35) (q := 1) C dX10_as_35 rfl rfl ?_
        obtain ⟨v106, ev106, h⟩ := bdS h
        refine y_iald (pc := 36) (n := 7) C (rf_8_13 _ hx0) (by decide) ev106 dX10_as_36 ?_
        refine y_icmp_eq (pc := 37) (tgt := 55) C dX10_as_37 (by decide) (fun c107 => ?_) (fun c107 => ?_)
        · rw [if_pos c107] at h
          exact tX10_as_55 (fu := fu) C hx0 h
        · rw [if_neg c107] at h
          refine y_iload_n (pc := 40) (q := 2) C dX10_as_40 rfl rfl ?_
          refine y_iconst (pc := 41) (v := (1 : Int32)) C dX10_as_41 (by decide) ?_
          refine y_icmp_ne (pc := 42) (tgt := 59) C dX10_as_42 (by decide) (fun c108 => ?_) (fun c108 => ?_)
          · rw [if_neg c108] at h
            exact tX10_as_59 (fu := fu) C hx0 h
          · rw [if_pos c108] at h
            refine y_aload_n (pc := 45) (q := 0) C dX10_as_45 rfl rfl ?_
            refine y_getr (pc := 46) C faX10_13 rfl hx0 dX10_as_46 ?_
            refine y_iload_n (pc := 49) (q := 1) C dX10_as_49 rfl rfl ?_
            obtain ⟨v109, ev109, h⟩ := bdS h
            refine y_iald (pc := 50) (n := 7) C (rf_8_13 _ hx0) (by decide) ev109 dX10_as_50 ?_
            refine y_iconst (pc := 51) (v := (4 : Int32)) C dX10_as_51 (by decide) ?_
            refine y_icmp_ne (pc := 52) (tgt := 59) C dX10_as_52 (by decide) (fun c110 => ?_) (fun c110 => ?_)
            · rw [if_neg c110] at h
              exact tX10_as_59 (fu := fu) C hx0 h
            · rw [if_pos c110] at h
              exact tX10_as_55 (fu := fu) C hx0 h
    · rw [if_pos c104] at h
      refine y_bipush (pc := 23) (v := (-102 : Int32)) C dX10_as_23 (by decide) ?_
      cases h
      exact y_iret (pc := 25) C dX10_as_25
  · rw [if_pos c102] at h
    refine y_bipush (pc := 8) (v := (-101 : Int32)) C dX10_as_8 (by decide) ?_
    cases h
    exact y_iret (pc := 10) C dX10_as_10
noncomputable def fX10_as (fu : Nat) (x0 : Nat) (x1 : Int32) (x2 : Int32) (σ : St) : Option (Int32 × St) := if xk x0 = 8 then fX10_as_0 fu x0 x1 x2 σ else none
theorem mX10_as {l : Launch} {D : va_G} {cA : ClassId} {bs fu : Nat} {ad : Nat → Nat} {x0 : Nat} {x1 : Int32} {x2 : Int32} {σ : St} {q : Int32 × St} (h : fX10_as fu x0 x1 x2 σ = some q) : Ct l D cA bs ad yX10_as cX10_as 4 (some .int) 2 46 [.ref (ad x0), .int x1, .int x2] σ (some (.int q.1)) q.2 := by
  unfold fX10_as at h
  by_cases hx0 : xk x0 = 8
  case neg => rw [if_neg hx0] at h; cases h
  rw [if_pos hx0] at h
  exact Ct.of (by decide) (Nat.le_of_ble_eq_true rfl) (fun p e s m args below meth c C => tX10_as_0 (fu := fu) C hx0 h)
noncomputable def fX10_wheels_0 (fu : Nat) (x0 : Nat) (x1 : Int32) (x2 : Int32) (σ : St) : Option (Int32 × St) :=
  (fX10_in fu x1.toInt64 (0 : Int64) (6 : Int64) σ).bind fun (q101 : Int32 × St) =>
  if q101.1 = 0 then
    some ((-101 : Int32), q101.2)
  else
    (fX10_in fu x2.toInt64 (0 : Int64) (9 : Int64) q101.2).bind fun (q103 : Int32 × St) =>
    if q103.1 = 0 then
      some ((-102 : Int32), q103.2)
    else
      (ald q103.2 (rf x0 18) 7 x1).bind fun (v105 : Int32) =>
      (ast q103.2 (rf x0 18) 7 x1 x2).bind fun (σ106 : St) =>
      some (v105, σ106)
set_option maxHeartbeats 4000000 in
set_option maxRecDepth 100000 in
theorem tX10_wheels_0 {l : Launch} {D : va_G} {cA : ClassId} {bs : Nat} {ad : Nat → Nat} {p : Program} {e : Env} {s : State} {m : MethodId} {args : Array Value} {below : List Frame} {meth : Method} {c : Code} {fu : Nat} (C : Cx D cA bs ad RX10 cX10_wheels 4 (some .int) p s m args meth c) {x0 : Nat} {x1 : Int32} {x2 : Int32} {q : Int32 × St} (hx0 : xk x0 = 8) {σ : St} (h : fX10_wheels_0 fu x0 x1 x2 σ = some q) : Y D cA bs ad p l e (rmY 1 25) s m args below meth c 4 0 0 (QM D cA bs ad below args s (some (.int q.1)) q.2) σ 0 [(0, .ref (ad x0)), (1, .int x1), (2, .int x2)] [] := by
  unfold fX10_wheels_0 at h
  refine y_iload_n (pc := 0) (q := 1) C dX10_wheels_0 rfl rfl ?_
  refine y_i2l (pc := 1) C dX10_wheels_1 ?_
  refine y_lconst (pc := 2) (v := (0 : Int64)) C dX10_wheels_2 (by decide) ?_
  refine y_ldc2 (pc := 3) C dX10_wheels_3 cwX10_119 ?_
  obtain ⟨q101, eq101, h⟩ := bdS h
  refine y_callS (pc := 6) (As := [.long x1.toInt64, .long (0 : Int64), .long (6 : Int64)]) (rest := []) C (mX10_in (fu := fu) eq101) vwX10_68 rfl rfl (Nat.le_of_ble_eq_true rfl) ⟨Nat.le_of_ble_eq_true rfl, Nat.le_of_ble_eq_true rfl⟩ ⟨Nat.le_refl _, Nat.le_refl _⟩ dX10_wheels_6 ?_
  show Y _ _ _ _ _ _ _ _ _ _ _ _ _ _ _ _ _ _ q101.2 9 [(0, .ref (ad x0)), (1, .int x1), (2, .int x2)] [.int q101.1]
  refine y_if_ne (pc := 9) (tgt := 15) C dX10_wheels_9 (by decide) (fun c102 => ?_) (fun c102 => ?_)
  · rw [if_neg c102] at h
    refine y_iload_n (pc := 15) (q := 2) C dX10_wheels_15 rfl rfl ?_
    refine y_i2l (pc := 16) C dX10_wheels_16 ?_
    refine y_lconst (pc := 17) (v := (0 : Int64)) C dX10_wheels_17 (by decide) ?_
    refine y_ldc2 (pc := 18) C dX10_wheels_18 cwX10_121 ?_
    obtain ⟨q103, eq103, h⟩ := bdS h
    refine y_callS (pc := 21) (As := [.long x2.toInt64, .long (0 : Int64), .long (9 : Int64)]) (rest := []) C (mX10_in (fu := fu) eq103) vwX10_68 rfl rfl (Nat.le_of_ble_eq_true rfl) ⟨Nat.le_of_ble_eq_true rfl, Nat.le_of_ble_eq_true rfl⟩ ⟨Nat.le_refl _, Nat.le_refl _⟩ dX10_wheels_21 ?_
    show Y _ _ _ _ _ _ _ _ _ _ _ _ _ _ _ _ _ _ q103.2 24 [(0, .ref (ad x0)), (1, .int x1), (2, .int x2)] [.int q103.1]
    refine y_if_ne (pc := 24) (tgt := 30) C dX10_wheels_24 (by decide) (fun c104 => ?_) (fun c104 => ?_)
    · rw [if_neg c104] at h
      refine y_aload_n (pc := 30) (q := 0) C dX10_wheels_30 rfl rfl ?_
      refine y_getr (pc := 31) C faX10_28 rfl hx0 dX10_wheels_31 ?_
      refine y_iload_n (pc := 34) (q := 1) C dX10_wheels_34 rfl rfl ?_
      obtain ⟨v105, ev105, h⟩ := bdS h
      refine y_iald (pc := 35) (n := 7) C (rf_8_18 _ hx0) (by decide) ev105 dX10_wheels_35 ?_
      refine y_istore_n (pc := 36) (lv' := [(3, .int v105), (0, .ref (ad x0)), (1, .int x1), (2, .int x2)]) C dX10_wheels_36 rfl (by decide) rfl ?_
      refine y_aload_n (pc := 37) (q := 1) C dX10_wheels_37 rfl rfl ?_
      refine y_getr (pc := 38) C faX10_28 rfl hx0 dX10_wheels_38 ?_
      refine y_iload_n (pc := 41) (q := 2) C dX10_wheels_41 rfl rfl ?_
      refine y_iload_n (pc := 42) (q := 3) C dX10_wheels_42 rfl rfl ?_
      obtain ⟨σ106, eσ106, h⟩ := bdS h
      refine y_iast (pc := 43) (n := 7) C (rf_8_18 _ hx0) (by decide) eσ106 dX10_wheels_43 ?_
      refine y_iload_n (pc := 44) (q := 0) C dX10_wheels_44 rfl rfl ?_
      cases h
      exact y_iret (pc := 45) C dX10_wheels_45
    · rw [if_pos c104] at h
      refine y_bipush (pc := 27) (v := (-102 : Int32)) C dX10_wheels_27 (by decide) ?_
      cases h
      exact y_iret (pc := 29) C dX10_wheels_29
  · rw [if_pos c102] at h
    refine y_bipush (pc := 12) (v := (-101 : Int32)) C dX10_wheels_12 (by decide) ?_
    cases h
    exact y_iret (pc := 14) C dX10_wheels_14
noncomputable def fX10_wheels (fu : Nat) (x0 : Nat) (x1 : Int32) (x2 : Int32) (σ : St) : Option (Int32 × St) := if xk x0 = 8 then fX10_wheels_0 fu x0 x1 x2 σ else none
theorem mX10_wheels {l : Launch} {D : va_G} {cA : ClassId} {bs fu : Nat} {ad : Nat → Nat} {x0 : Nat} {x1 : Int32} {x2 : Int32} {σ : St} {q : Int32 × St} (h : fX10_wheels fu x0 x1 x2 σ = some q) : Ct l D cA bs ad yX10_wheels cX10_wheels 4 (some .int) 1 25 [.ref (ad x0), .int x1, .int x2] σ (some (.int q.1)) q.2 := by
  unfold fX10_wheels at h
  by_cases hx0 : xk x0 = 8
  case neg => rw [if_neg hx0] at h; cases h
  rw [if_pos hx0] at h
  exact Ct.of (by decide) (Nat.le_of_ble_eq_true rfl) (fun p e s m args below meth c C => tX10_wheels_0 (fu := fu) C hx0 h)
noncomputable def fX10_blockAt_27 (fu : Nat) (k4 : Int32 → Int32 → St → Option (Int32 × St)) (x0 : Nat) (x1 : Int32) (x3 : Int32) (s0 : Int32) (σ : St) : Option (Int32 × St) :=
  nm (x3 + (1 : Int32)) fun (y101 : Int32) =>
  k4 s0 y101 σ
set_option maxHeartbeats 4000000 in
set_option maxRecDepth 100000 in
theorem tX10_blockAt_27 {l : Launch} {D : va_G} {cA : ClassId} {bs : Nat} {ad : Nat → Nat} {p : Program} {e : Env} {s : State} {m : MethodId} {args : Array Value} {below : List Frame} {meth : Method} {c : Code} {fu : Nat} (C : Cx D cA bs ad RX10 cX10_blockAt 4 (some .int) p s m args meth c) {k4 : Int32 → Int32 → St → Option (Int32 × St)} {x0 : Nat} {x1 : Int32} {x3 : Int32} {s0 : Int32} {q : Int32 × St} (hx0 : xk x0 = 8) (hk4 : ∀ (x2 : Int32) (x3 : Int32) (σ : St), k4 x2 x3 σ = some q → Y D cA bs ad p l e (rmY 0 0) s m args below meth c 4 0 0 (QM D cA bs ad below args s (some (.int q.1)) q.2) σ 4 [(0, .ref (ad x0)), (1, .int x1), (2, .int x2), (3, .int x3)] []) {σ : St} (h : fX10_blockAt_27 fu k4 x0 x1 x3 s0 σ = some q) : Y D cA bs ad p l e (rmY 0 0) s m args below meth c 4 0 0 (QM D cA bs ad below args s (some (.int q.1)) q.2) σ 27 [(0, .ref (ad x0)), (1, .int x1), (3, .int x3)] [.int s0] := by
  unfold fX10_blockAt_27 at h
  refine y_istore_n (pc := 27) (lv' := [(2, .int s0), (0, .ref (ad x0)), (1, .int x1), (3, .int x3)]) C dX10_blockAt_27 rfl (by decide) rfl ?_
  obtain ⟨y101, ey101, h⟩ := nmS h
  refine y_iinc (pc := 28) (v := y101) (k := 3) (lv' := [(3, .int y101), (2, .int s0), (0, .ref (ad x0)), (1, .int x1)]) C dX10_blockAt_28 rfl (by rw [ey101]; rfl) (by decide) rfl ?_
  refine y_goto (pc := 31) (tgt := 4) C dX10_blockAt_31 (by decide) ?_
  refine y_sub [2, 3, 1, 0] (lv' := [(0, .ref (ad x0)), (1, .int x1), (2, .int s0), (3, .int y101)]) rfl ?_
  exact hk4 _ _ _ h
noncomputable def fX10_blockAt_4b (fu : Nat) (k4 : Int32 → Int32 → St → Option (Int32 × St)) (x0 : Nat) (x1 : Int32) (x2 : Int32) (x3 : Int32) (σ : St) : Option (Int32 × St) :=
  if (σ.1 x0 12) ≤ x3 then
    some (x2, σ)
  else
    (ald σ (rf x0 16) 7 x3).bind fun (v102 : Int32) =>
    if v102 = x1 then
      fX10_blockAt_27 fu k4 x0 x1 x3 x3 σ
    else
      fX10_blockAt_27 fu k4 x0 x1 x3 x2 σ
set_option maxHeartbeats 4000000 in
set_option maxRecDepth 100000 in
theorem tX10_blockAt_4b {l : Launch} {D : va_G} {cA : ClassId} {bs : Nat} {ad : Nat → Nat} {p : Program} {e : Env} {s : State} {m : MethodId} {args : Array Value} {below : List Frame} {meth : Method} {c : Code} {fu : Nat} (C : Cx D cA bs ad RX10 cX10_blockAt 4 (some .int) p s m args meth c) {k4 : Int32 → Int32 → St → Option (Int32 × St)} {x0 : Nat} {x1 : Int32} {x2 : Int32} {x3 : Int32} {q : Int32 × St} (hx0 : xk x0 = 8) (hk4 : ∀ (x2 : Int32) (x3 : Int32) (σ : St), k4 x2 x3 σ = some q → Y D cA bs ad p l e (rmY 0 0) s m args below meth c 4 0 0 (QM D cA bs ad below args s (some (.int q.1)) q.2) σ 4 [(0, .ref (ad x0)), (1, .int x1), (2, .int x2), (3, .int x3)] []) {σ : St} (h : fX10_blockAt_4b fu k4 x0 x1 x2 x3 σ = some q) : Y D cA bs ad p l e (rmY 0 0) s m args below meth c 4 0 0 (QM D cA bs ad below args s (some (.int q.1)) q.2) σ 4 [(0, .ref (ad x0)), (1, .int x1), (2, .int x2), (3, .int x3)] [] := by
  unfold fX10_blockAt_4b at h
  refine y_iload_n (pc := 4) (q := 3) C dX10_blockAt_4 rfl rfl ?_
  refine y_aload_n (pc := 5) (q := 0) C dX10_blockAt_5 rfl rfl ?_
  refine y_geti (pc := 6) C faX10_105 rfl hx0 dX10_blockAt_6 ?_
  refine y_icmp_ge (pc := 9) (tgt := 34) C dX10_blockAt_9 (by decide) (fun c101 => ?_) (fun c101 => ?_)
  · rw [if_pos c101] at h
    refine y_iload_n (pc := 34) (q := 2) C dX10_blockAt_34 rfl rfl ?_
    cases h
    exact y_iret (pc := 35) C dX10_blockAt_35
  · rw [if_neg c101] at h
    refine y_aload_n (pc := 12) (q := 0) C dX10_blockAt_12 rfl rfl ?_
    refine y_getr (pc := 13) C faX10_22 rfl hx0 dX10_blockAt_13 ?_
    refine y_iload_n (pc := 16) (q := 3) C dX10_blockAt_16 rfl rfl ?_
    obtain ⟨v102, ev102, h⟩ := bdS h
    refine y_iald (pc := 17) (n := 7) C (rf_8_16 _ hx0) (by decide) ev102 dX10_blockAt_17 ?_
    refine y_iload_n (pc := 18) (q := 1) C dX10_blockAt_18 rfl rfl ?_
    refine y_icmp_ne (pc := 19) (tgt := 26) C dX10_blockAt_19 (by decide) (fun c103 => ?_) (fun c103 => ?_)
    · rw [if_neg c103] at h
      refine y_iload_n (pc := 26) (q := 2) C dX10_blockAt_26 rfl rfl ?_
      refine y_sub [0, 1, 3] (lv' := [(0, .ref (ad x0)), (1, .int x1), (3, .int x3)]) rfl ?_
      exact tX10_blockAt_27 (fu := fu) C hx0 hk4 h
    · rw [if_pos c103] at h
      refine y_iload_n (pc := 22) (q := 3) C dX10_blockAt_22 rfl rfl ?_
      refine y_goto (pc := 23) (tgt := 27) C dX10_blockAt_23 (by decide) ?_
      refine y_sub [0, 1, 3] (lv' := [(0, .ref (ad x0)), (1, .int x1), (3, .int x3)]) rfl ?_
      exact tX10_blockAt_27 (fu := fu) C hx0 hk4 h
noncomputable def fX10_blockAt_4 (fu : Nat) (x0 : Nat) (x1 : Int32) : Nat → Int32 → Int32 → St → Option (Int32 × St) := lp (fun k4 => fX10_blockAt_4b fu k4 x0 x1) (fun _ _ _ => none)
set_option maxHeartbeats 4000000 in
theorem tX10_blockAt_4 {l : Launch} {D : va_G} {cA : ClassId} {bs : Nat} {ad : Nat → Nat} {p : Program} {e : Env} {s : State} {m : MethodId} {args : Array Value} {below : List Frame} {meth : Method} {c : Code} {fu : Nat} (C : Cx D cA bs ad RX10 cX10_blockAt 4 (some .int) p s m args meth c) {x0 : Nat} {x1 : Int32} {q : Int32 × St} (hx0 : xk x0 = 8)  : ∀ (n : Nat) (x2 : Int32) (x3 : Int32) (σ : St), fX10_blockAt_4 fu  x0 x1 n x2 x3 σ = some q → Y D cA bs ad p l e (rmY 0 0) s m args below meth c 4 0 0 (QM D cA bs ad below args s (some (.int q.1)) q.2) σ 4 [(0, .ref (ad x0)), (1, .int x1), (2, .int x2), (3, .int x3)] [] := by
  intro n
  induction n with
  | zero => intro x2 x3 σ h; cases h
  | succ n ih => intro x2 x3 σ h; exact tX10_blockAt_4b (fu := fu) C hx0 ih h
noncomputable def fX10_blockAt_0 (fu : Nat) (x0 : Nat) (x1 : Int32) (σ : St) : Option (Int32 × St) :=
  fX10_blockAt_4 fu x0 x1 fu (-1 : Int32) (0 : Int32) σ
set_option maxHeartbeats 4000000 in
set_option maxRecDepth 100000 in
theorem tX10_blockAt_0 {l : Launch} {D : va_G} {cA : ClassId} {bs : Nat} {ad : Nat → Nat} {p : Program} {e : Env} {s : State} {m : MethodId} {args : Array Value} {below : List Frame} {meth : Method} {c : Code} {fu : Nat} (C : Cx D cA bs ad RX10 cX10_blockAt 4 (some .int) p s m args meth c) {x0 : Nat} {x1 : Int32} {q : Int32 × St} (hx0 : xk x0 = 8) {σ : St} (h : fX10_blockAt_0 fu x0 x1 σ = some q) : Y D cA bs ad p l e (rmY 0 0) s m args below meth c 4 0 0 (QM D cA bs ad below args s (some (.int q.1)) q.2) σ 0 [(0, .ref (ad x0)), (1, .int x1)] [] := by
  unfold fX10_blockAt_0 at h
  refine y_iconst (pc := 0) (v := (-1 : Int32)) C dX10_blockAt_0 (by decide) ?_
  refine y_istore_n (pc := 1) (lv' := [(2, .int (-1 : Int32)), (0, .ref (ad x0)), (1, .int x1)]) C dX10_blockAt_1 rfl (by decide) rfl ?_
  refine y_iconst (pc := 2) (v := (0 : Int32)) C dX10_blockAt_2 (by decide) ?_
  refine y_istore_n (pc := 3) (lv' := [(3, .int (0 : Int32)), (2, .int (-1 : Int32)), (0, .ref (ad x0)), (1, .int x1)]) C dX10_blockAt_3 rfl (by decide) rfl ?_
  refine y_sub [2, 3, 1, 0] (lv' := [(0, .ref (ad x0)), (1, .int x1), (2, .int (-1 : Int32)), (3, .int (0 : Int32))]) rfl ?_
  exact tX10_blockAt_4 (fu := fu) C hx0 fu _ _ _ h
noncomputable def fX10_blockAt (fu : Nat) (x0 : Nat) (x1 : Int32) (σ : St) : Option (Int32 × St) := if xk x0 = 8 then fX10_blockAt_0 fu x0 x1 σ else none
theorem mX10_blockAt {l : Launch} {D : va_G} {cA : ClassId} {bs fu : Nat} {ad : Nat → Nat} {x0 : Nat} {x1 : Int32} {σ : St} {q : Int32 × St} (h : fX10_blockAt fu x0 x1 σ = some q) : Ct l D cA bs ad yX10_blockAt cX10_blockAt 4 (some .int) 0 0 [.ref (ad x0), .int x1] σ (some (.int q.1)) q.2 := by
  unfold fX10_blockAt at h
  by_cases hx0 : xk x0 = 8
  case neg => rw [if_neg hx0] at h; cases h
  rw [if_pos hx0] at h
  exact Ct.of (by decide) (Nat.le_of_ble_eq_true rfl) (fun p e s m args below meth c C => tX10_blockAt_0 (fu := fu) C hx0 h)
noncomputable def fX10_at_18 (fu : Nat) (x0 : Nat) (x1 : Int32) (s0 : Int32) (σ : St) : Option (Int32 × St) :=
  some (s0, σ)
set_option maxHeartbeats 4000000 in
set_option maxRecDepth 100000 in
theorem tX10_at_18 {l : Launch} {D : va_G} {cA : ClassId} {bs : Nat} {ad : Nat → Nat} {p : Program} {e : Env} {s : State} {m : MethodId} {args : Array Value} {below : List Frame} {meth : Method} {c : Code} {fu : Nat} (C : Cx D cA bs ad RX10 cX10_at 2 (some .int) p s m args meth c) {x0 : Nat} {x1 : Int32} {s0 : Int32} {q : Int32 × St} (hx0 : xk x0 = 8) {σ : St} (h : fX10_at_18 fu x0 x1 s0 σ = some q) : Y D cA bs ad p l e (rmY 2 46) s m args below meth c 2 0 0 (QM D cA bs ad below args s (some (.int q.1)) q.2) σ 18 [(0, .ref (ad x0)), (1, .int x1)] [.int s0] := by
  unfold fX10_at_18 at h
  cases h
  exact y_iret (pc := 18) C dX10_at_18
noncomputable def fX10_at_0 (fu : Nat) (x0 : Nat) (x1 : Int32) (σ : St) : Option (Int32 × St) :=
  (fX10_isBlock fu x0 x1 σ).bind fun (q101 : Int32 × St) =>
  if q101.1 = 0 then
    fX10_at_18 fu x0 x1 (-101 : Int32) q101.2
  else
    (fX10_blockAt fu x0 x1 q101.2).bind fun (q103 : Int32 × St) =>
    fX10_at_18 fu x0 x1 q103.1 q103.2
set_option maxHeartbeats 4000000 in
set_option maxRecDepth 100000 in
theorem tX10_at_0 {l : Launch} {D : va_G} {cA : ClassId} {bs : Nat} {ad : Nat → Nat} {p : Program} {e : Env} {s : State} {m : MethodId} {args : Array Value} {below : List Frame} {meth : Method} {c : Code} {fu : Nat} (C : Cx D cA bs ad RX10 cX10_at 2 (some .int) p s m args meth c) {x0 : Nat} {x1 : Int32} {q : Int32 × St} (hx0 : xk x0 = 8) {σ : St} (h : fX10_at_0 fu x0 x1 σ = some q) : Y D cA bs ad p l e (rmY 2 46) s m args below meth c 2 0 0 (QM D cA bs ad below args s (some (.int q.1)) q.2) σ 0 [(0, .ref (ad x0)), (1, .int x1)] [] := by
  unfold fX10_at_0 at h
  refine y_aload_n (pc := 0) (q := 0) C dX10_at_0 rfl rfl ?_
  refine y_iload_n (pc := 1) (q := 1) C dX10_at_1 rfl rfl ?_
  obtain ⟨q101, eq101, h⟩ := bdS h
  refine y_callV (pc := 2) (As := [.int x1]) (rest := []) C (mX10_isBlock (fu := fu) eq101) vwX10_112 rfl (by decide) hx0 rfl rfl (Nat.le_of_ble_eq_true rfl) ⟨Nat.le_of_ble_eq_true rfl, Nat.le_of_ble_eq_true rfl⟩ ⟨Nat.le_refl _, Nat.le_refl _⟩ dX10_at_2 ?_
  show Y _ _ _ _ _ _ _ _ _ _ _ _ _ _ _ _ _ _ q101.2 5 [(0, .ref (ad x0)), (1, .int x1)] [.int q101.1]
  refine y_if_eq (pc := 5) (tgt := 16) C dX10_at_5 (by decide) (fun c102 => ?_) (fun c102 => ?_)
  · rw [if_pos c102] at h
    refine y_bipush (pc := 16) (v := (-101 : Int32)) C dX10_at_16 (by decide) ?_
    exact tX10_at_18 (fu := fu) C hx0 h
  · rw [if_neg c102] at h
    refine y_aload_n (pc := 8) (q := 0) C dX10_at_8 rfl rfl ?_
    refine y_iload_n (pc := 9) (q := 1) C dX10_at_9 rfl rfl ?_
    obtain ⟨q103, eq103, h⟩ := bdS h
    refine y_callV (pc := 10) (As := [.int x1]) (rest := []) C (mX10_blockAt (fu := fu) eq103) vwX10_123 rfl (by decide) hx0 rfl rfl (Nat.le_of_ble_eq_true rfl) ⟨Nat.le_of_ble_eq_true rfl, Nat.le_of_ble_eq_true rfl⟩ ⟨Nat.le_refl _, Nat.le_refl _⟩ dX10_at_10 ?_
    show Y _ _ _ _ _ _ _ _ _ _ _ _ _ _ _ _ _ _ q103.2 13 [(0, .ref (ad x0)), (1, .int x1)] [.int q103.1]
    refine y_goto (pc := 13) (tgt := 18) C dX10_at_13 (by decide) ?_
    exact tX10_at_18 (fu := fu) C hx0 h
noncomputable def fX10_at (fu : Nat) (x0 : Nat) (x1 : Int32) (σ : St) : Option (Int32 × St) := if xk x0 = 8 then fX10_at_0 fu x0 x1 σ else none
theorem mX10_at {l : Launch} {D : va_G} {cA : ClassId} {bs fu : Nat} {ad : Nat → Nat} {x0 : Nat} {x1 : Int32} {σ : St} {q : Int32 × St} (h : fX10_at fu x0 x1 σ = some q) : Ct l D cA bs ad yX10_at cX10_at 2 (some .int) 2 46 [.ref (ad x0), .int x1] σ (some (.int q.1)) q.2 := by
  unfold fX10_at at h
  by_cases hx0 : xk x0 = 8
  case neg => rw [if_neg hx0] at h; cases h
  rw [if_pos hx0] at h
  exact Ct.of (by decide) (Nat.le_of_ble_eq_true rfl) (fun p e s m args below meth c C => tX10_at_0 (fu := fu) C hx0 h)
noncomputable def fX10_exchange_0 (fu : Nat) (x0 : Nat) (x1 : Nat) (x2 : Int32) (σ : St) : Option (St) :=
  (ald σ x0 7 x2).bind fun (v101 : Int32) =>
  (ald σ x1 7 x2).bind fun (v102 : Int32) =>
  (ast σ x0 7 x2 v102).bind fun (σ103 : St) =>
  (ast σ103 x1 7 x2 v101).bind fun (σ104 : St) =>
  some σ104
set_option maxHeartbeats 4000000 in
set_option maxRecDepth 100000 in
theorem tX10_exchange_0 {l : Launch} {D : va_G} {cA : ClassId} {bs : Nat} {ad : Nat → Nat} {p : Program} {e : Env} {s : State} {m : MethodId} {args : Array Value} {below : List Frame} {meth : Method} {c : Code} {fu : Nat} (C : Cx D cA bs ad RX10 cX10_exchange 4 none p s m args meth c) {x0 : Nat} {x1 : Nat} {x2 : Int32} {q : St} (hx0 : xk x0 = 16) (hx1 : xk x1 = 16) {σ : St} (h : fX10_exchange_0 fu x0 x1 x2 σ = some q) : Y D cA bs ad p l e (rmY 0 0) s m args below meth c 4 0 0 (QM D cA bs ad below args s none q) σ 0 [(0, .ref (ad x0)), (1, .ref (ad x1)), (2, .int x2)] [] := by
  unfold fX10_exchange_0 at h
  refine y_aload_n (pc := 0) (q := 0) C dX10_exchange_0 rfl rfl ?_
  refine y_iload_n (pc := 1) (q := 2) C dX10_exchange_1 rfl rfl ?_
  obtain ⟨v101, ev101, h⟩ := bdS h
  refine y_iald (pc := 2) (n := 7) C hx0 (by decide) ev101 dX10_exchange_2 ?_
  refine y_istore_n (pc := 3) (lv' := [(3, .int v101), (0, .ref (ad x0)), (1, .ref (ad x1)), (2, .int x2)]) C dX10_exchange_3 rfl (by decide) rfl ?_
  refine y_aload_n (pc := 4) (q := 1) C dX10_exchange_4 rfl rfl ?_
  refine y_iload_n (pc := 5) (q := 3) C dX10_exchange_5 rfl rfl ?_
  refine y_aload_n (pc := 6) (q := 2) C dX10_exchange_6 rfl rfl ?_
  refine y_iload_n (pc := 7) (q := 3) C dX10_exchange_7 rfl rfl ?_
  obtain ⟨v102, ev102, h⟩ := bdS h
  refine y_iald (pc := 8) (n := 7) C hx1 (by decide) ev102 dX10_exchange_8 ?_
  obtain ⟨σ103, eσ103, h⟩ := bdS h
  refine y_iast (pc := 9) (n := 7) C hx0 (by decide) eσ103 dX10_exchange_9 ?_
  refine y_aload_n (pc := 10) (q := 2) C dX10_exchange_10 rfl rfl ?_
  refine y_iload_n (pc := 11) (q := 3) C dX10_exchange_11 rfl rfl ?_
  refine y_iload_n (pc := 12) (q := 0) C dX10_exchange_12 rfl rfl ?_
  obtain ⟨σ104, eσ104, h⟩ := bdS h
  refine y_iast (pc := 13) (n := 7) C hx1 (by decide) eσ104 dX10_exchange_13 ?_
  cases h
  exact y_vret (pc := 14) C dX10_exchange_14
noncomputable def fX10_exchange (fu : Nat) (x0 : Nat) (x1 : Nat) (x2 : Int32) (σ : St) : Option (St) := if xk x0 = 16 then if xk x1 = 16 then fX10_exchange_0 fu x0 x1 x2 σ else none else none
theorem mX10_exchange {l : Launch} {D : va_G} {cA : ClassId} {bs fu : Nat} {ad : Nat → Nat} {x0 : Nat} {x1 : Nat} {x2 : Int32} {σ : St} {q : St} (h : fX10_exchange fu x0 x1 x2 σ = some q) : Ct l D cA bs ad yX10_exchange cX10_exchange 4 none 0 0 [.ref (ad x0), .ref (ad x1), .int x2] σ none q := by
  unfold fX10_exchange at h
  by_cases hx0 : xk x0 = 16
  case neg => rw [if_neg hx0] at h; cases h
  rw [if_pos hx0] at h
  by_cases hx1 : xk x1 = 16
  case neg => rw [if_neg hx1] at h; cases h
  rw [if_pos hx1] at h
  exact Ct.of (by decide) (Nat.le_of_ble_eq_true rfl) (fun p e s m args below meth c C => tX10_exchange_0 (fu := fu) C hx0 hx1 h)
noncomputable def fX10_turn_0 (fu : Nat) (x0 : Nat) (x1 : Int32) (σ : St) : Option (Int32 × St) :=
  (fX10_isBlock fu x0 x1 σ).bind fun (q101 : Int32 × St) =>
  if q101.1 = 0 then
    some ((-101 : Int32), q101.2)
  else
    (ald q101.2 (rf x0 13) 7 x1).bind fun (v103 : Int32) =>
    if v103 = (4 : Int32) then
      some ((-103 : Int32), q101.2)
    else
      (fX10_exchange fu (rf x0 14) (rf x0 15) x1 q101.2).bind fun (q105 : St) =>
      (ald q105 (rf x0 14) 7 x1).bind fun (v106 : Int32) =>
      some (v106, q105)
set_option maxHeartbeats 4000000 in
set_option maxRecDepth 100000 in
theorem tX10_turn_0 {l : Launch} {D : va_G} {cA : ClassId} {bs : Nat} {ad : Nat → Nat} {p : Program} {e : Env} {s : State} {m : MethodId} {args : Array Value} {below : List Frame} {meth : Method} {c : Code} {fu : Nat} (C : Cx D cA bs ad RX10 cX10_turn 2 (some .int) p s m args meth c) {x0 : Nat} {x1 : Int32} {q : Int32 × St} (hx0 : xk x0 = 8) {σ : St} (h : fX10_turn_0 fu x0 x1 σ = some q) : Y D cA bs ad p l e (rmY 2 46) s m args below meth c 2 0 0 (QM D cA bs ad below args s (some (.int q.1)) q.2) σ 0 [(0, .ref (ad x0)), (1, .int x1)] [] := by
  unfold fX10_turn_0 at h
  refine y_aload_n (pc := 0) (q := 0) C dX10_turn_0 rfl rfl ?_
  refine y_iload_n (pc := 1) (q := 1) C dX10_turn_1 rfl rfl ?_
  obtain ⟨q101, eq101, h⟩ := bdS h
  refine y_callV (pc := 2) (As := [.int x1]) (rest := []) C (mX10_isBlock (fu := fu) eq101) vwX10_112 rfl (by decide) hx0 rfl rfl (Nat.le_of_ble_eq_true rfl) ⟨Nat.le_of_ble_eq_true rfl, Nat.le_of_ble_eq_true rfl⟩ ⟨Nat.le_refl _, Nat.le_refl _⟩ dX10_turn_2 ?_
  show Y _ _ _ _ _ _ _ _ _ _ _ _ _ _ _ _ _ _ q101.2 5 [(0, .ref (ad x0)), (1, .int x1)] [.int q101.1]
  refine y_if_ne (pc := 5) (tgt := 11) C dX10_turn_5 (by decide) (fun c102 => ?_) (fun c102 => ?_)
  · rw [if_neg c102] at h
    refine y_aload_n (pc := 11) (q := 0) C dX10_turn_11 rfl rfl ?_
    refine y_getr (pc := 12) C faX10_13 rfl hx0 dX10_turn_12 ?_
    refine y_iload_n (pc := 15) (q := 1) C dX10_turn_15 rfl rfl ?_
    obtain ⟨v103, ev103, h⟩ := bdS h
    refine y_iald (pc := 16) (n := 7) C (rf_8_13 _ hx0) (by decide) ev103 dX10_turn_16 ?_
    refine y_iconst (pc := 17) (v := (4 : Int32)) C dX10_turn_17 (by decide) ?_
    refine y_icmp_ne (pc := 18) (tgt := 24) C dX10_turn_18 (by decide) (fun c104 => ?_) (fun c104 => ?_)
    · rw [if_neg c104] at h
      refine y_aload_n (pc := 24) (q := 0) C dX10_turn_24 rfl rfl ?_
      refine y_getr (pc := 25) C faX10_16 rfl hx0 dX10_turn_25 ?_
      refine y_aload_n (pc := 28) (q := 0) C dX10_turn_28 rfl rfl ?_
      refine y_getr (pc := 29) C faX10_19 rfl hx0 dX10_turn_29 ?_
      refine y_iload_n (pc := 32) (q := 1) C dX10_turn_32 rfl rfl ?_
      obtain ⟨q105, eq105, h⟩ := bdS h
      refine y_callS (pc := 33) (As := [.ref (ad (rf x0 14)), .ref (ad (rf x0 15)), .int x1]) (rest := []) C (mX10_exchange (fu := fu) eq105) vwX10_126 rfl rfl (Nat.le_of_ble_eq_true rfl) ⟨Nat.le_of_ble_eq_true rfl, Nat.le_of_ble_eq_true rfl⟩ ⟨Nat.le_refl _, Nat.le_refl _⟩ dX10_turn_33 ?_
      show Y _ _ _ _ _ _ _ _ _ _ _ _ _ _ _ _ _ _ q105 36 [(0, .ref (ad x0)), (1, .int x1)] []
      refine y_aload_n (pc := 36) (q := 0) C dX10_turn_36 rfl rfl ?_
      refine y_getr (pc := 37) C faX10_16 rfl hx0 dX10_turn_37 ?_
      refine y_iload_n (pc := 40) (q := 1) C dX10_turn_40 rfl rfl ?_
      obtain ⟨v106, ev106, h⟩ := bdS h
      refine y_iald (pc := 41) (n := 7) C (rf_8_14 _ hx0) (by decide) ev106 dX10_turn_41 ?_
      cases h
      exact y_iret (pc := 42) C dX10_turn_42
    · rw [if_pos c104] at h
      refine y_bipush (pc := 21) (v := (-103 : Int32)) C dX10_turn_21 (by decide) ?_
      cases h
      exact y_iret (pc := 23) C dX10_turn_23
  · rw [if_pos c102] at h
    refine y_bipush (pc := 8) (v := (-101 : Int32)) C dX10_turn_8 (by decide) ?_
    cases h
    exact y_iret (pc := 10) C dX10_turn_10
noncomputable def fX10_turn (fu : Nat) (x0 : Nat) (x1 : Int32) (σ : St) : Option (Int32 × St) := if xk x0 = 8 then fX10_turn_0 fu x0 x1 σ else none
theorem mX10_turn {l : Launch} {D : va_G} {cA : ClassId} {bs fu : Nat} {ad : Nat → Nat} {x0 : Nat} {x1 : Int32} {σ : St} {q : Int32 × St} (h : fX10_turn fu x0 x1 σ = some q) : Ct l D cA bs ad yX10_turn cX10_turn 2 (some .int) 2 46 [.ref (ad x0), .int x1] σ (some (.int q.1)) q.2 := by
  unfold fX10_turn at h
  by_cases hx0 : xk x0 = 8
  case neg => rw [if_neg hx0] at h; cases h
  rw [if_pos hx0] at h
  exact Ct.of (by decide) (Nat.le_of_ble_eq_true rfl) (fun p e s m args below meth c C => tX10_turn_0 (fu := fu) C hx0 h)
