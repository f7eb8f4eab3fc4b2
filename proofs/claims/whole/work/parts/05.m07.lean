noncomputable def fX10_thief_159 (fu : Nat) (k129 : Int32 → Int32 → St → Option (Int32 × St)) (x0 : Nat) (x1 : Int32) (x2 : Int32) (x3 : Int32) (s0 : Nat) (s1 : Int32) (s2 : Int32) (s3 : Int32) (σ : St) : Option (Int32 × St) :=
  (ast σ s0 7 s1 (s2 - s3)).bind fun (σ101 : St) =>
  nm (x3 + (1 : Int32)) fun (y102 : Int32) =>
  k129 x2 y102 σ101
set_option maxHeartbeats 4000000 in
set_option maxRecDepth 100000 in
theorem tX10_thief_159 {l : Launch} {D : va_G} {cA : ClassId} {bs : Nat} {ad : Nat → Nat} {p : Program} {e : Env} {s : State} {m : MethodId} {args : Array Value} {below : List Frame} {meth : Method} {c : Code} {fu : Nat} (C : Cx D cA bs ad RX10 cX10_thief 4 (some .int) p s m args meth c) {k129 : Int32 → Int32 → St → Option (Int32 × St)} {x0 : Nat} {x1 : Int32} {x2 : Int32} {x3 : Int32} {s0 : Nat} {s1 : Int32} {s2 : Int32} {s3 : Int32} {q : Int32 × St} (hx0 : xk x0 = 8) (hs0 : xk s0 = 16) (hk129 : ∀ (x2 : Int32) (x3 : Int32) (σ : St), k129 x2 x3 σ = some q → Y D cA bs ad p l e (rmY 2 46) s m args below meth c 4 0 0 (QM D cA bs ad below args s (some (.int q.1)) q.2) σ 129 [(0, .ref (ad x0)), (1, .int x1), (2, .int x2), (3, .int x3)] []) {σ : St} (h : fX10_thief_159 fu k129 x0 x1 x2 x3 s0 s1 s2 s3 σ = some q) : Y D cA bs ad p l e (rmY 2 46) s m args below meth c 4 0 0 (QM D cA bs ad below args s (some (.int q.1)) q.2) σ 159 [(0, .ref (ad x0)), (1, .int x1), (2, .int x2), (3, .int x3)] [.int s3, .int s2, .int s1, .ref (ad s0)] := by
  unfold fX10_thief_159 at h
  refine y_isub (pc := 159) C dX10_thief_159 ?_
  obtain ⟨σ101, eσ101, h⟩ := bdS h
  refine y_iast (pc := 160) (n := 7) C hs0 (by decide) eσ101 dX10_thief_160 ?_
  obtain ⟨y102, ey102, h⟩ := nmS h
  refine y_iinc (pc := 161) (v := y102) (k := 3) (lv' := [(3, .int y102), (0, .ref (ad x0)), (1, .int x1), (2, .int x2)]) C dX10_thief_161 rfl (by rw [ey102]; rfl) (by decide) rfl ?_
  refine y_goto (pc := 164) (tgt := 129) C dX10_thief_164 (by decide) ?_
  refine y_sub [1, 2, 3, 0] (lv' := [(0, .ref (ad x0)), (1, .int x1), (2, .int x2), (3, .int y102)]) rfl ?_
  exact hk129 _ _ _ h
noncomputable def fX10_thief_129b (fu : Nat) (k129 : Int32 → Int32 → St → Option (Int32 × St)) (x0 : Nat) (x1 : Int32) (x2 : Int32) (x3 : Int32) (σ : St) : Option (Int32 × St) :=
  if (σ.1 x0 12) ≤ x3 then
    some ((σ.1 x0 12), σ)
  else
    (ald σ (rf x0 16) 7 x3).bind fun (v102 : Int32) =>
    (ald σ (rf x0 16) 7 x3).bind fun (v103 : Int32) =>
    if v103 ≤ x2 then
      fX10_thief_159 fu k129 x0 x1 x2 x3 (rf x0 16) x3 v102 (0 : Int32) σ
    else
      fX10_thief_159 fu k129 x0 x1 x2 x3 (rf x0 16) x3 v102 (1 : Int32) σ
set_option maxHeartbeats 4000000 in
set_option maxRecDepth 100000 in
theorem tX10_thief_129b {l : Launch} {D : va_G} {cA : ClassId} {bs : Nat} {ad : Nat → Nat} {p : Program} {e : Env} {s : State} {m : MethodId} {args : Array Value} {below : List Frame} {meth : Method} {c : Code} {fu : Nat} (C : Cx D cA bs ad RX10 cX10_thief 4 (some .int) p s m args meth c) {k129 : Int32 → Int32 → St → Option (Int32 × St)} {x0 : Nat} {x1 : Int32} {x2 : Int32} {x3 : Int32} {q : Int32 × St} (hx0 : xk x0 = 8) (hk129 : ∀ (x2 : Int32) (x3 : Int32) (σ : St), k129 x2 x3 σ = some q → Y D cA bs ad p l e (rmY 2 46) s m args below meth c 4 0 0 (QM D cA bs ad below args s (some (.int q.1)) q.2) σ 129 [(0, .ref (ad x0)), (1, .int x1), (2, .int x2), (3, .int x3)] []) {σ : St} (h : fX10_thief_129b fu k129 x0 x1 x2 x3 σ = some q) : Y D cA bs ad p l e (rmY 2 46) s m args below meth c 4 0 0 (QM D cA bs ad below args s (some (.int q.1)) q.2) σ 129 [(0, .ref (ad x0)), (1, .int x1), (2, .int x2), (3, .int x3)] [] := by
  unfold fX10_thief_129b at h
  refine y_iload_n (pc := 129) (q := 3) C dX10_thief_129 rfl rfl ?_
  refine y_aload_n (pc := 130) (q := 0) C dX10_thief_130 rfl rfl ?_
  refine y_geti (pc := 131) C faX10_105 rfl hx0 dX10_thief_131 ?_
  refine y_icmp_ge (pc := 134) (tgt := 167) C dX10_thief_134 (by decide) (fun c101 => ?_) (fun c101 => ?_)
  · rw [if_pos c101] at h
    refine y_aload_n (pc := 167) (q := 0) C dX10_thief_167 rfl rfl ?_
    refine y_geti (pc := 168) C faX10_105 rfl hx0 dX10_thief_168 ?_
    cases h
    exact y_iret (pc := 171) C dX10_thief_171
  · rw [if_neg c101] at h
    refine y_aload_n (pc := 137) (q := 0) C dX10_thief_137 rfl rfl ?_
    refine y_getr (pc := 138) C faX10_22 rfl hx0 dX10_thief_138 ?_
    refine y_iload_n (pc := 141) (q := 3) C dX10_thief_141 rfl rfl ?_
    refine y_dup2 (pc := 142) C dX10_thief_142 rfl rfl ?_
    obtain ⟨v102, ev102, h⟩ := bdS h
    refine y_iald (pc := 143) (n := 7) C (rf_8_16 _ hx0) (by decide) ev102 dX10_thief_143 ?_
    refine y_aload_n (pc := 144) (q := 0) C dX10_thief_144 rfl rfl ?_
    refine y_getr (pc := 145) C faX10_22 rfl hx0 dX10_thief_145 ?_
    refine y_iload_n (pc := 148) (q := 3) C dX10_thief_148 rfl rfl ?_
    obtain ⟨v103, ev103, h⟩ := bdS h
    refine y_iald (pc := 149) (n := 7) C (rf_8_16 _ hx0) (by decide) ev103 dX10_thief_149 ?_
    refine y_iload_n (pc := 150) (q := 2) C dX10_thief_150 rfl rfl ?_
    refine y_icmp_le (pc := 151) (tgt := 158) C dX10_thief_151 (by decide) (fun c104 => ?_) (fun c104 => ?_)
    · rw [if_pos c104] at h
      refine y_iconst (pc := 158) (v := (0 : Int32)) C dX10_thief_158 (by decide) ?_
      exact tX10_thief_159 (fu := fu) C hx0 (rf_8_16 _ hx0) hk129 h
    · rw [if_neg c104] at h
      refine y_iconst (pc := 154) (v := (1 : Int32)) C dX10_thief_154 (by decide) ?_
      refine y_goto (pc := 155) (tgt := 159) C dX10_thief_155 (by decide) ?_
      exact tX10_thief_159 (fu := fu) C hx0 (rf_8_16 _ hx0) hk129 h
noncomputable def fX10_thief_129 (fu : Nat) (x0 : Nat) (x1 : Int32) : Nat → Int32 → Int32 → St → Option (Int32 × St) := lp (fun k129 => fX10_thief_129b fu k129 x0 x1) (fun _ _ _ => none)
set_option maxHeartbeats 4000000 in
theorem tX10_thief_129 {l : Launch} {D : va_G} {cA : ClassId} {bs : Nat} {ad : Nat → Nat} {p : Program} {e : Env} {s : State} {m : MethodId} {args : Array Value} {below : List Frame} {meth : Method} {c : Code} {fu : Nat} (C : Cx D cA bs ad RX10 cX10_thief 4 (some .int) p s m args meth c) {x0 : Nat} {x1 : Int32} {q : Int32 × St} (hx0 : xk x0 = 8)  : ∀ (n : Nat) (x2 : Int32) (x3 : Int32) (σ : St), fX10_thief_129 fu  x0 x1 n x2 x3 σ = some q → Y D cA bs ad p l e (rmY 2 46) s m args below meth c 4 0 0 (QM D cA bs ad below args s (some (.int q.1)) q.2) σ 129 [(0, .ref (ad x0)), (1, .int x1), (2, .int x2), (3, .int x3)] [] := by
  intro n
  induction n with
  | zero => intro x2 x3 σ h; cases h
  | succ n ih => intro x2 x3 σ h; exact tX10_thief_129b (fu := fu) C hx0 ih h
noncomputable def fX10_thief_31b (fu : Nat) (k31 : Int32 → Int32 → St → Option (Int32 × St)) (x0 : Nat) (x1 : Int32) (x2 : Int32) (x3 : Int32) (σ : St) : Option (Int32 × St) :=
  if ((σ.1 x0 12) - (1 : Int32)) ≤ x3 then
    nm (si σ x0 12 ((σ.1 x0 12) - (1 : Int32))) fun (σ102 : St) =>
    fX10_thief_129 fu x0 x1 fu x2 (0 : Int32) σ102
  else
    (ald σ (rf x0 13) 7 (x3 + (1 : Int32))).bind fun (v103 : Int32) =>
    (ast σ (rf x0 13) 7 x3 v103).bind fun (σ104 : St) =>
    (ald σ104 (rf x0 14) 7 (x3 + (1 : Int32))).bind fun (v105 : Int32) =>
    (ast σ104 (rf x0 14) 7 x3 v105).bind fun (σ106 : St) =>
    (ald σ106 (rf x0 15) 7 (x3 + (1 : Int32))).bind fun (v107 : Int32) =>
    (ast σ106 (rf x0 15) 7 x3 v107).bind fun (σ108 : St) =>
    (ald σ108 (rf x0 16) 7 (x3 + (1 : Int32))).bind fun (v109 : Int32) =>
    (ast σ108 (rf x0 16) 7 x3 v109).bind fun (σ110 : St) =>
    (ald σ110 (rf x0 17) 7 (x3 + (1 : Int32))).bind fun (v111 : Int32) =>
    (ast σ110 (rf x0 17) 7 x3 v111).bind fun (σ112 : St) =>
    nm (x3 + (1 : Int32)) fun (y113 : Int32) =>
    k31 x2 y113 σ112
set_option maxHeartbeats 4000000 in
set_option maxRecDepth 100000 in
theorem tX10_thief_31b {l : Launch} {D : va_G} {cA : ClassId} {bs : Nat} {ad : Nat → Nat} {p : Program} {e : Env} {s : State} {m : MethodId} {args : Array Value} {below : List Frame} {meth : Method} {c : Code} {fu : Nat} (C : Cx D cA bs ad RX10 cX10_thief 4 (some .int) p s m args meth c) {k31 : Int32 → Int32 → St → Option (Int32 × St)} {x0 : Nat} {x1 : Int32} {x2 : Int32} {x3 : Int32} {q : Int32 × St} (hx0 : xk x0 = 8) (hk31 : ∀ (x2 : Int32) (x3 : Int32) (σ : St), k31 x2 x3 σ = some q → Y D cA bs ad p l e (rmY 2 46) s m args below meth c 4 0 0 (QM D cA bs ad below args s (some (.int q.1)) q.2) σ 31 [(0, .ref (ad x0)), (1, .int x1), (2, .int x2), (3, .int x3)] []) {σ : St} (h : fX10_thief_31b fu k31 x0 x1 x2 x3 σ = some q) : Y D cA bs ad p l e (rmY 2 46) s m args below meth c 4 0 0 (QM D cA bs ad below args s (some (.int q.1)) q.2) σ 31 [(0, .ref (ad x0)), (1, .int x1), (2, .int x2), (3, .int x3)] [] := by
  unfold fX10_thief_31b at h
  refine y_iload_n (pc := 31) (q := 3) C dX10_thief_31 rfl rfl ?_
  refine y_aload_n (pc := 32) (q := 0) C dX10_thief_32 rfl rfl ?_
  refine y_geti (pc := 33) C faX10_105 rfl hx0 dX10_thief_33 ?_
  refine y_iconst (pc := 36) (v := (1 : Int32)) C dX10_thief_36 (by decide) ?_
  refine y_isub (pc := 37) C dX10_thief_37 ?_
  refine y_icmp_ge (pc := 38) (tgt := 117) C dX10_thief_38 (by decide) (fun c101 => ?_) (fun c101 => ?_)
  · rw [if_pos c101] at h
    refine y_aload_n (pc := 117) (q := 0) C dX10_thief_117 rfl rfl ?_
    refine y_dup (pc := 118) C dX10_thief_118 rfl ?_
    refine y_geti (pc := 119) C faX10_105 rfl hx0 dX10_thief_119 ?_
    refine y_iconst (pc := 122) (v := (1 : Int32)) C dX10_thief_122 (by decide) ?_
    refine y_isub (pc := 123) C dX10_thief_123 ?_
    obtain ⟨σ102, eσ102, h⟩ := nmS h
    refine y_puti (pc := 124) C fpX10_105 rfl hx0 rfl rfl dX10_thief_124 ?_
    rw [← eσ102]
    refine y_iconst (pc := 127) (v := (0 : Int32)) C dX10_thief_127 (by decide) ?_
    refine y_istore_n (pc := 128) (lv' := [(3, .int (0 : Int32)), (0, .ref (ad x0)), (1, .int x1), (2, .int x2)]) C dX10_thief_128 rfl (by decide) rfl ?_
    refine y_sub [1, 2, 3, 0] (lv' := [(0, .ref (ad x0)), (1, .int x1), (2, .int x2), (3, .int (0 : Int32))]) rfl ?_
    exact tX10_thief_129 (fu := fu) C hx0 fu _ _ _ h
  · rw [if_neg c101] at h
    refine y_aload_n (pc := 41) (q := 0) C dX10_thief_41 rfl rfl ?_
    refine y_getr (pc := 42) C faX10_13 rfl hx0 dX10_thief_42 ?_
    refine y_iload_n (pc := 45) (q := 3) C dX10_thief_45 rfl rfl ?_
    refine y_aload_n (pc := 46) (q := 0) C dX10_thief_46 rfl rfl ?_
    refine y_getr (pc := 47) C faX10_13 rfl hx0 dX10_thief_47 ?_
    refine y_iload_n (pc := 50) (q := 3) C dX10_thief_50 rfl rfl ?_
    refine y_iconst (pc := 51) (v := (1 : Int32)) C dX10_thief_51 (by decide) ?_
    refine y_iadd (pc := 52) C dX10_thief_52 ?_
    obtain ⟨v103, ev103, h⟩ := bdS h
    refine y_iald (pc := 53) (n := 7) C (rf_8_13 _ hx0) (by decide) ev103 dX10_thief_53 ?_
    obtain ⟨σ104, eσ104, h⟩ := bdS h
    refine y_iast (pc := 54) (n := 7) C (rf_8_13 _ hx0) (by decide) eσ104 dX10_thief_54 ?_
    refine y_aload_n (pc := 55) (q := 0) C dX10_thief_55 rfl rfl ?_
    refine y_getr (pc := 56) C faX10_16 rfl hx0 dX10_thief_56 ?_
    refine y_iload_n (pc := 59) (q := 3) C dX10_thief_59 rfl rfl ?_
    refine y_aload_n (pc := 60) (q := 0) C dX10_thief_60 rfl rfl ?_
    refine y_getr (pc := 61) C faX10_16 rfl hx0 dX10_thief_61 ?_
    refine y_iload_n (pc := 64) (q := 3) C dX10_thief_64 rfl rfl ?_
    refine y_iconst (pc := 65) (v := (1 : Int32)) C dX10_thief_65 (by decide) ?_
    refine y_iadd (pc := 66) C dX10_thief_66 ?_
    obtain ⟨v105, ev105, h⟩ := bdS h
    refine y_iald (pc := 67) (n := 7) C (rf_8_14 _ hx0) (by decide) ev105 dX10_thief_67 ?_
    obtain ⟨σ106, eσ106, h⟩ := bdS h
    refine y_iast (pc := 68) (n := 7) C (rf_8_14 _ hx0) (by decide) eσ106 dX10_thief_68 ?_
    refine y_aload_n (pc := 69) (q := 0) C dX10_thief_69 rfl rfl ?_
    refine y_getr (pc := 70) C faX10_19 rfl hx0 dX10_thief_70 ?_
    refine y_iload_n (pc := 73) (q := 3) C dX10_thief_73 rfl rfl ?_
    refine y_aload_n (pc := 74) (q := 0) C dX10_thief_74 rfl rfl ?_
    refine y_getr (pc := 75) C faX10_19 rfl hx0 dX10_thief_75 ?_
    refine y_iload_n (pc := 78) (q := 3) C dX10_thief_78 rfl rfl ?_
    refine y_iconst (pc := 79) (v := (1 : Int32)) C dX10_thief_79 (by decide) ?_
    refine y_iadd (pc := 80) C dX10_thief_80 ?_
    obtain ⟨v107, ev107, h⟩ := bdS h
    refine y_iald (pc := 81) (n := 7) C (rf_8_15 _ hx0) (by decide) ev107 dX10_thief_81 ?_
    obtain ⟨σ108, eσ108, h⟩ := bdS h
    refine y_iast (pc := 82) (n := 7) C (rf_8_15 _ hx0) (by decide) eσ108 dX10_thief_82 ?_
    refine y_aload_n (pc := 83) (q := 0) C dX10_thief_83 rfl rfl ?_
    refine y_getr (pc := 84) C faX10_22 rfl hx0 dX10_thief_84 ?_
    refine y_iload_n (pc := 87) (q := 3) C dX10_thief_87 rfl rfl ?_
    refine y_aload_n (pc := 88) (q := 0) C dX10_thief_88 rfl rfl ?_
    refine y_getr (pc := 89) C faX10_22 rfl hx0 dX10_thief_89 ?_
    refine y_iload_n (pc := 92) (q := 3) C dX10_thief_92 rfl rfl ?_
    refine y_iconst (pc := 93) (v := (1 : Int32)) C dX10_thief_93 (by decide) ?_
    refine y_iadd (pc := 94) C dX10_thief_94 ?_
    obtain ⟨v109, ev109, h⟩ := bdS h
    refine y_iald (pc := 95) (n := 7) C (rf_8_16 _ hx0) (by decide) ev109 dX10_thief_95 ?_
    obtain ⟨σ110, eσ110, h⟩ := bdS h
    refine y_iast (pc := 96) (n := 7) C (rf_8_16 _ hx0) (by decide) eσ110 dX10_thief_96 ?_
    refine y_aload_n (pc := 97) (q := 0) C dX10_thief_97 rfl rfl ?_
    refine y_getr (pc := 98) C faX10_25 rfl hx0 dX10_thief_98 ?_
    refine y_iload_n (pc := 101) (q := 3) C dX10_thief_101 rfl rfl ?_
    refine y_aload_n (pc := 102) (q := 0) C dX10_thief_102 rfl rfl ?_
    refine y_getr (pc := 103) C faX10_25 rfl hx0 dX10_thief_103 ?_
    refine y_iload_n (pc := 106) (q := 3) C dX10_thief_106 rfl rfl ?_
    refine y_iconst (pc := 107) (v := (1 : Int32)) C dX10_thief_107 (by decide) ?_
    refine y_iadd (pc := 108) C dX10_thief_108 ?_
    obtain ⟨v111, ev111, h⟩ := bdS h
    refine y_iald (pc := 109) (n := 7) C (rf_8_17 _ hx0) (by decide) ev111 dX10_thief_109 ?_
    obtain ⟨σ112, eσ112, h⟩ := bdS h
    refine y_iast (pc := 110) (n := 7) C (rf_8_17 _ hx0) (by decide) eσ112 dX10_thief_110 ?_
    obtain ⟨y113, ey113, h⟩ := nmS h
    refine y_iinc (pc := 111) (v := y113) (k := 3) (lv' := [(3, .int y113), (0, .ref (ad x0)), (1, .int x1), (2, .int x2)]) C dX10_thief_111 rfl (by rw [ey113]; rfl) (by decide) rfl ?_
    refine y_goto (pc := 114) (tgt := 31) C dX10_thief_114 (by decide) ?_
    refine y_sub [1, 2, 3, 0] (lv' := [(0, .ref (ad x0)), (1, .int x1), (2, .int x2), (3, .int y113)]) rfl ?_
    exact hk31 _ _ _ h
noncomputable def fX10_thief_31 (fu : Nat) (x0 : Nat) (x1 : Int32) : Nat → Int32 → Int32 → St → Option (Int32 × St) := lp (fun k31 => fX10_thief_31b fu k31 x0 x1) (fun _ _ _ => none)
set_option maxHeartbeats 4000000 in
theorem tX10_thief_31 {l : Launch} {D : va_G} {cA : ClassId} {bs : Nat} {ad : Nat → Nat} {p : Program} {e : Env} {s : State} {m : MethodId} {args : Array Value} {below : List Frame} {meth : Method} {c : Code} {fu : Nat} (C : Cx D cA bs ad RX10 cX10_thief 4 (some .int) p s m args meth c) {x0 : Nat} {x1 : Int32} {q : Int32 × St} (hx0 : xk x0 = 8)  : ∀ (n : Nat) (x2 : Int32) (x3 : Int32) (σ : St), fX10_thief_31 fu  x0 x1 n x2 x3 σ = some q → Y D cA bs ad p l e (rmY 2 46) s m args below meth c 4 0 0 (QM D cA bs ad below args s (some (.int q.1)) q.2) σ 31 [(0, .ref (ad x0)), (1, .int x1), (2, .int x2), (3, .int x3)] [] := by
  intro n
  induction n with
  | zero => intro x2 x3 σ h; cases h
  | succ n ih => intro x2 x3 σ h; exact tX10_thief_31b (fu := fu) C hx0 ih h
noncomputable def fX10_thief_0 (fu : Nat) (x0 : Nat) (x1 : Int32) (σ : St) : Option (Int32 × St) :=
  (fX10_isBlock fu x0 x1 σ).bind fun (q101 : Int32 × St) =>
  if q101.1 = 0 then
    some ((-101 : Int32), q101.2)
  else
    if (3 : Int32) ≤ (q101.2.1 x0 12) then
      (ald q101.2 (rf x0 16) 7 x1).bind fun (v104 : Int32) =>
      fX10_thief_31 fu x0 x1 fu v104 x1 q101.2
    else
      some ((-103 : Int32), q101.2)
set_option maxHeartbeats 4000000 in
set_option maxRecDepth 100000 in
theorem tX10_thief_0 {l : Launch} {D : va_G} {cA : ClassId} {bs : Nat} {ad : Nat → Nat} {p : Program} {e : Env} {s : State} {m : MethodId} {args : Array Value} {below : List Frame} {meth : Method} {c : Code} {fu : Nat} (C : Cx D cA bs ad RX10 cX10_thief 4 (some .int) p s m args meth c) {x0 : Nat} {x1 : Int32} {q : Int32 × St} (hx0 : xk x0 = 8) {σ : St} (h : fX10_thief_0 fu x0 x1 σ = some q) : Y D cA bs ad p l e (rmY 2 46) s m args below meth c 4 0 0 (QM D cA bs ad below args s (some (.int q.1)) q.2) σ 0 [(0, .ref (ad x0)), (1, .int x1)] [] := by
  unfold fX10_thief_0 at h
  refine y_aload_n (pc := 0) (q := 0) C dX10_thief_0 rfl rfl ?_
  refine y_iload_n (pc := 1) (q := 1) C dX10_thief_1 rfl rfl ?_
  obtain ⟨q101, eq101, h⟩ := bdS h
  refine y_callV (pc := 2) (As := [.int x1]) (rest := []) C (mX10_isBlock (fu := fu) eq101) vwX10_112 rfl (by decide) hx0 rfl rfl (Nat.le_of_ble_eq_true rfl) ⟨Nat.le_of_ble_eq_true rfl, Nat.le_of_ble_eq_true rfl⟩ ⟨Nat.le_refl _, Nat.le_refl _⟩ dX10_thief_2 ?_
  show Y _ _ _ _ _ _ _ _ _ _ _ _ _ _ _ _ _ _ q101.2 5 [(0, .ref (ad x0)), (1, .int x1)] [.int q101.1]
  refine y_if_ne (pc := 5) (tgt := 11) C dX10_thief_5 (by decide) (fun c102 => ?_) (fun c102 => ?_)
  · rw [if_neg c102] at h
    refine y_aload_n (pc := 11) (q := 0) C dX10_thief_11 rfl rfl ?_
    refine y_geti (pc := 12) C faX10_105 rfl hx0 dX10_thief_12 ?_
    refine y_iconst (pc := 15) (v := (3 : Int32)) C dX10_thief_15 (by decide) ?_
    refine y_icmp_ge (pc := 16) (tgt := 22) C dX10_thief_16 (by decide) (fun c103 => ?_) (fun c103 => ?_)
    · rw [if_pos c103] at h
      refine y_aload_n (pc := 22) (q := 0) C dX10_thief_22 rfl rfl ?_
      refine y_getr (pc := 23) C faX10_22 rfl hx0 dX10_thief_23 ?_
      refine y_iload_n (pc := 26) (q := 1) C dX10_thief_26 rfl rfl ?_
      obtain ⟨v104, ev104, h⟩ := bdS h
      refine y_iald (pc := 27) (n := 7) C (rf_8_16 _ hx0) (by decide) ev104 dX10_thief_27 ?_
      refine y_istore_n (pc := 28) (lv' := [(2, .int v104), (0, .ref (ad x0)), (1, .int x1)]) C dX10_thief_28 rfl (by decide) rfl ?_
      refine y_iload_n (pc := 29) (q := 2) C dX10_thief_29 rfl rfl ?_
      refine y_istore_n (pc := 30) (lv' := [(3, .int x1), (2, .int v104), (0, .ref (ad x0)), (1, .int x1)]) C dX10_thief_30 rfl (by decide) rfl ?_
      refine y_sub [2, 3, 1, 0] (lv' := [(0, .ref (ad x0)), (1, .int x1), (2, .int v104), (3, .int x1)]) rfl ?_
      exact tX10_thief_31 (fu := fu) C hx0 fu _ _ _ h
    · rw [if_neg c103] at h
      refine y_bipush (pc := 19) (v := (-103 : Int32)) C dX10_thief_19 (by decide) ?_
      cases h
      exact y_iret (pc := 21) C dX10_thief_21
  · rw [if_pos c102] at h
    refine y_bipush (pc := 8) (v := (-101 : Int32)) C dX10_thief_8 (by decide) ?_
    cases h
    exact y_iret (pc := 10) C dX10_thief_10
noncomputable def fX10_thief (fu : Nat) (x0 : Nat) (x1 : Int32) (σ : St) : Option (Int32 × St) := if xk x0 = 8 then fX10_thief_0 fu x0 x1 σ else none
theorem mX10_thief {l : Launch} {D : va_G} {cA : ClassId} {bs fu : Nat} {ad : Nat → Nat} {x0 : Nat} {x1 : Int32} {σ : St} {q : Int32 × St} (h : fX10_thief fu x0 x1 σ = some q) : Ct l D cA bs ad yX10_thief cX10_thief 4 (some .int) 2 46 [.ref (ad x0), .int x1] σ (some (.int q.1)) q.2 := by
  unfold fX10_thief at h
  by_cases hx0 : xk x0 = 8
  case neg => rw [if_neg hx0] at h; cases h
  rw [if_pos hx0] at h
  exact Ct.of (by decide) (Nat.le_of_ble_eq_true rfl) (fun p e s m args below meth c C => tX10_thief_0 (fu := fu) C hx0 h)
noncomputable def fX10_lacks_13 (fu : Nat) (x0 : Nat) (s0 : Int32) (σ : St) : Option (Int32 × St) :=
  if s0 = 0 ∨ s0 = 1 then some (s0, σ) else none
set_option maxHeartbeats 4000000 in
set_option maxRecDepth 100000 in
theorem tX10_lacks_13 {l : Launch} {D : va_G} {cA : ClassId} {bs : Nat} {ad : Nat → Nat} {p : Program} {e : Env} {s : State} {m : MethodId} {args : Array Value} {below : List Frame} {meth : Method} {c : Code} {fu : Nat} (C : Cx D cA bs ad RX10 cX10_lacks 1 (some .boolean) p s m args meth c) {x0 : Nat} {s0 : Int32} {q : Int32 × St} (hx0 : xk x0 = 8) {σ : St} (h : fX10_lacks_13 fu x0 s0 σ = some q) : Y D cA bs ad p l e (rmY 0 0) s m args below meth c 1 0 0 (QM D cA bs ad below args s (some (.int q.1)) q.2) σ 13 [(0, .ref (ad x0))] [.int s0] := by
  unfold fX10_lacks_13 at h
  by_cases c101 : s0 = 0 ∨ s0 = 1
  case neg => rw [if_neg c101] at h; cases h
  rw [if_pos c101] at h
  cases h
  exact y_zret (pc := 13) C c101 dX10_lacks_13
noncomputable def fX10_lacks_0 (fu : Nat) (x0 : Nat) (σ : St) : Option (Int32 × St) :=
  if (2 : Int32) ≤ (σ.1 x0 12) then
    fX10_lacks_13 fu x0 (0 : Int32) σ
  else
    fX10_lacks_13 fu x0 (1 : Int32) σ
set_option maxHeartbeats 4000000 in
set_option maxRecDepth 100000 in
theorem tX10_lacks_0 {l : Launch} {D : va_G} {cA : ClassId} {bs : Nat} {ad : Nat → Nat} {p : Program} {e : Env} {s : State} {m : MethodId} {args : Array Value} {below : List Frame} {meth : Method} {c : Code} {fu : Nat} (C : Cx D cA bs ad RX10 cX10_lacks 1 (some .boolean) p s m args meth c) {x0 : Nat} {q : Int32 × St} (hx0 : xk x0 = 8) {σ : St} (h : fX10_lacks_0 fu x0 σ = some q) : Y D cA bs ad p l e (rmY 0 0) s m args below meth c 1 0 0 (QM D cA bs ad below args s (some (.int q.1)) q.2) σ 0 [(0, .ref (ad x0))] [] := by
  unfold fX10_lacks_0 at h
  refine y_aload_n (pc := 0) (q := 0) C dX10_lacks_0 rfl rfl ?_
  refine y_geti (pc := 1) C faX10_105 rfl hx0 dX10_lacks_1 ?_
  refine y_iconst (pc := 4) (v := (2 : Int32)) C dX10_lacks_4 (by decide) ?_
  refine y_icmp_ge (pc := 5) (tgt := 12) C dX10_lacks_5 (by decide) (fun c101 => ?_) (fun c101 => ?_)
  · rw [if_pos c101] at h
    refine y_iconst (pc := 12) (v := (0 : Int32)) C dX10_lacks_12 (by decide) ?_
    exact tX10_lacks_13 (fu := fu) C hx0 h
  · rw [if_neg c101] at h
    refine y_iconst (pc := 8) (v := (1 : Int32)) C dX10_lacks_8 (by decide) ?_
    refine y_goto (pc := 9) (tgt := 13) C dX10_lacks_9 (by decide) ?_
    exact tX10_lacks_13 (fu := fu) C hx0 h
noncomputable def fX10_lacks (fu : Nat) (x0 : Nat) (σ : St) : Option (Int32 × St) := if xk x0 = 8 then fX10_lacks_0 fu x0 σ else none
theorem mX10_lacks {l : Launch} {D : va_G} {cA : ClassId} {bs fu : Nat} {ad : Nat → Nat} {x0 : Nat} {σ : St} {q : Int32 × St} (h : fX10_lacks fu x0 σ = some q) : Ct l D cA bs ad yX10_lacks cX10_lacks 1 (some .boolean) 0 0 [.ref (ad x0)] σ (some (.int q.1)) q.2 := by
  unfold fX10_lacks at h
  by_cases hx0 : xk x0 = 8
  case neg => rw [if_neg hx0] at h; cases h
  rw [if_pos hx0] at h
  exact Ct.of (by decide) (Nat.le_of_ble_eq_true rfl) (fun p e s m args below meth c C => tX10_lacks_0 (fu := fu) C hx0 h)
noncomputable def fX10_readOrder_74 (fu : Nat) (x0 : Nat) (x1 : Int32) (s0 : Int32) (σ : St) : Option (Int32 × St) :=
  if s0 = 0 ∨ s0 = 1 then some (s0, σ) else none
set_option maxHeartbeats 4000000 in
set_option maxRecDepth 100000 in
theorem tX10_readOrder_74 {l : Launch} {D : va_G} {cA : ClassId} {bs : Nat} {ad : Nat → Nat} {p : Program} {e : Env} {s : State} {m : MethodId} {args : Array Value} {below : List Frame} {meth : Method} {c : Code} {fu : Nat} (C : Cx D cA bs ad RX10 cX10_readOrder 5 (some .boolean) p s m args meth c) {x0 : Nat} {x1 : Int32} {s0 : Int32} {q : Int32 × St} (hx0 : xk x0 = 8) {σ : St} (h : fX10_readOrder_74 fu x0 x1 s0 σ = some q) : Y D cA bs ad p l e (rmY 0 0) s m args below meth c 5 0 0 (QM D cA bs ad below args s (some (.int q.1)) q.2) σ 74 [(0, .ref (ad x0)), (1, .int x1)] [.int s0] := by
  unfold fX10_readOrder_74 at h
  by_cases c101 : s0 = 0 ∨ s0 = 1
  case neg => rw [if_neg c101] at h; cases h
  rw [if_pos c101] at h
  cases h
  exact y_zret (pc := 74) C c101 dX10_readOrder_74
noncomputable def fX10_readOrder_73 (fu : Nat) (x0 : Nat) (x1 : Int32) (σ : St) : Option (Int32 × St) :=
  fX10_readOrder_74 fu x0 x1 (0 : Int32) σ
set_option maxHeartbeats 4000000 in
set_option maxRecDepth 100000 in
theorem tX10_readOrder_73 {l : Launch} {D : va_G} {cA : ClassId} {bs : Nat} {ad : Nat → Nat} {p : Program} {e : Env} {s : State} {m : MethodId} {args : Array Value} {below : List Frame} {meth : Method} {c : Code} {fu : Nat} (C : Cx D cA bs ad RX10 cX10_readOrder 5 (some .boolean) p s m args meth c) {x0 : Nat} {x1 : Int32} {q : Int32 × St} (hx0 : xk x0 = 8) {σ : St} (h : fX10_readOrder_73 fu x0 x1 σ = some q) : Y D cA bs ad p l e (rmY 0 0) s m args below meth c 5 0 0 (QM D cA bs ad below args s (some (.int q.1)) q.2) σ 73 [(0, .ref (ad x0)), (1, .int x1)] [] := by
  unfold fX10_readOrder_73 at h
  refine y_iconst (pc := 73) (v := (0 : Int32)) C dX10_readOrder_73 (by decide) ?_
  exact tX10_readOrder_74 (fu := fu) C hx0 h
noncomputable def fX10_readOrder_7b (fu : Nat) (k7 : Int32 → Int32 → Int32 → St → Option (Int32 × St)) (x0 : Nat) (x1 : Int32) (x2 : Int32) (x3 : Int32) (x4 : Int32) (σ : St) : Option (Int32 × St) :=
  if (σ.1 x0 12) ≤ x4 then
    if x1 < 0 then
      fX10_readOrder_73 fu x0 x1 σ
    else
      if x2 = 0 then
        if x3 = (((1 : Int32) <<< ((σ.1 x0 12) &&& 31)) - (1 : Int32)) then
          fX10_readOrder_74 fu x0 x1 (1 : Int32) σ
        else
          fX10_readOrder_73 fu x0 x1 σ
      else
        fX10_readOrder_73 fu x0 x1 σ
  else
    (ast σ (rf x0 19) 7 x4 (x2 &&& (7 : Int32))).bind fun (σ105 : St) =>
    (ald σ105 (rf x0 19) 7 x4).bind fun (v106 : Int32) =>
    nm (x3 ||| ((1 : Int32) <<< (v106 &&& 31))) fun (y107 : Int32) =>
    nm (x2 >>> ((3 : Int32) &&& 31)) fun (y108 : Int32) =>
    nm (x4 + (1 : Int32)) fun (y109 : Int32) =>
    k7 y108 y107 y109 σ105
set_option maxHeartbeats 4000000 in
set_option maxRecDepth 100000 in
theorem tX10_readOrder_7b {l : Launch} {D : va_G} {cA : ClassId} {bs : Nat} {ad : Nat → Nat} {p : Program} {e : Env} {s : State} {m : MethodId} {args : Array Value} {below : List Frame} {meth : Method} {c : Code} {fu : Nat} (C : Cx D cA bs ad RX10 cX10_readOrder 5 (some .boolean) p s m args meth c) {k7 : Int32 → Int32 → Int32 → St → Option (Int32 × St)} {x0 : Nat} {x1 : Int32} {x2 : Int32} {x3 : Int32} {x4 : Int32} {q : Int32 × St} (hx0 : xk x0 = 8) (hk7 : ∀ (x2 : Int32) (x3 : Int32) (x4 : Int32) (σ : St), k7 x2 x3 x4 σ = some q → Y D cA bs ad p l e (rmY 0 0) s m args below meth c 5 0 0 (QM D cA bs ad below args s (some (.int q.1)) q.2) σ 7 [(0, .ref (ad x0)), (1, .int x1), (2, .int x2), (3, .int x3), (4, .int x4)] []) {σ : St} (h : fX10_readOrder_7b fu k7 x0 x1 x2 x3 x4 σ = some q) : Y D cA bs ad p l e (rmY 0 0) s m args below meth c 5 0 0 (QM D cA bs ad below args s (some (.int q.1)) q.2) σ 7 [(0, .ref (ad x0)), (1, .int x1), (2, .int x2), (3, .int x3), (4, .int x4)] [] := by
  unfold fX10_readOrder_7b at h
  refine y_iload (pc := 7) (q := 4) C dX10_readOrder_7 rfl ?_
  refine y_aload_n (pc := 9) (q := 0) C dX10_readOrder_9 rfl rfl ?_
  refine y_geti (pc := 10) C faX10_105 rfl hx0 dX10_readOrder_10 ?_
  refine y_icmp_ge (pc := 13) (tgt := 49) C dX10_readOrder_13 (by decide) (fun c101 => ?_) (fun c101 => ?_)
  · rw [if_pos c101] at h
    refine y_iload_n (pc := 49) (q := 1) C dX10_readOrder_49 rfl rfl ?_
    refine y_if_lt (pc := 50) (tgt := 73) C dX10_readOrder_50 (by decide) (fun c102 => ?_) (fun c102 => ?_)
    · rw [if_pos c102] at h
      refine y_sub [0, 1] (lv' := [(0, .ref (ad x0)), (1, .int x1)]) rfl ?_
      exact tX10_readOrder_73 (fu := fu) C hx0 h
    · rw [if_neg c102] at h
      refine y_iload_n (pc := 53) (q := 2) C dX10_readOrder_53 rfl rfl ?_
      refine y_if_ne (pc := 54) (tgt := 73) C dX10_readOrder_54 (by decide) (fun c103 => ?_) (fun c103 => ?_)
      · rw [if_neg c103] at h
        refine y_sub [0, 1] (lv' := [(0, .ref (ad x0)), (1, .int x1)]) rfl ?_
        exact tX10_readOrder_73 (fu := fu) C hx0 h
      · rw [if_pos c103] at h
        refine y_iload_n (pc := 57) (q := 3) C dX10_readOrder_57 rfl rfl ?_
        refine y_iconst (pc := 58) (v := (1 : Int32)) C dX10_readOrder_58 (by decide) ?_
        refine y_aload_n (pc := 59) (q := 0) C dX10_readOrder_59 rfl rfl ?_
        refine y_geti (pc := 60) C faX10_105 rfl hx0 dX10_readOrder_60 ?_
        refine y_ishl (pc := 63) C dX10_readOrder_63 ?_
        refine y_iconst (pc := 64) (v := (1 : Int32)) C dX10_readOrder_64 (by decide) ?_
        refine y_isub (pc := 65) C dX10_readOrder_65 ?_
        refine y_icmp_ne (pc := 66) (tgt := 73) C dX10_readOrder_66 (by decide) (fun c104 => ?_) (fun c104 => ?_)
        · rw [if_neg c104] at h
          refine y_sub [0, 1] (lv' := [(0, .ref (ad x0)), (1, .int x1)]) rfl ?_
          exact tX10_readOrder_73 (fu := fu) C hx0 h
        · rw [if_pos c104] at h
          refine y_iconst (pc := 69) (v := (1 : Int32)) C dX10_readOrder_69 (by decide) ?_
          refine y_goto (pc := 70) (tgt := 74) C dX10_readOrder_70 (by decide) ?_
          refine y_sub [0, 1] (lv' := [(0, .ref (ad x0)), (1, .int x1)]) rfl ?_
          exact tX10_readOrder_74 (fu := fu) C hx0 h
  · rw [if_neg c101] at h
    refine y_aload_n (pc := 16) (q := 0) C dX10_readOrder_16 rfl rfl ?_
    refine y_getr (pc := 17) C faX10_31 rfl hx0 dX10_readOrder_17 ?_
    refine y_iload (pc := 20) (q := 4) C dX10_readOrder_20 rfl ?_
    refine y_iload_n (pc := 22) (q := 2) C dX10_readOrder_22 rfl rfl ?_
    refine y_bipush (pc := 23) (v := (7 : Int32)) C dX10_readOrder_23 (by decide) ?_
    refine y_iand (pc := 25) C dX10_readOrder_25 ?_
    obtain ⟨σ105, eσ105, h⟩ := bdS h
    refine y_iast (pc := 26) (n := 7) C (rf_8_19 _ hx0) (by decide) eσ105 dX10_readOrder_26 ?_
    refine y_iload_n (pc := 27) (q := 3) C dX10_readOrder_27 rfl rfl ?_
    refine y_iconst (pc := 28) (v := (1 : Int32)) C dX10_readOrder_28 (by decide) ?_
    refine y_aload_n (pc := 29) (q := 0) C dX10_readOrder_29 rfl rfl ?_
    refine y_getr (pc := 30) C faX10_31 rfl hx0 dX10_readOrder_30 ?_
    refine y_iload (pc := 33) (q := 4) C dX10_readOrder_33 rfl ?_
    obtain ⟨v106, ev106, h⟩ := bdS h
    refine y_iald (pc := 35) (n := 7) C (rf_8_19 _ hx0) (by decide) ev106 dX10_readOrder_35 ?_
    refine y_ishl (pc := 36) C dX10_readOrder_36 ?_
    refine y_ior (pc := 37) C dX10_readOrder_37 ?_
    obtain ⟨y107, ey107, h⟩ := nmS h
    refine y_nmI y107 ey107 ?_
    refine y_istore_n (pc := 38) (lv' := [(3, .int y107), (0, .ref (ad x0)), (1, .int x1), (2, .int x2), (4, .int x4)]) C dX10_readOrder_38 rfl (by decide) rfl ?_
    refine y_iload_n (pc := 39) (q := 3) C dX10_readOrder_39 rfl rfl ?_
    refine y_iconst (pc := 40) (v := (3 : Int32)) C dX10_readOrder_40 (by decide) ?_
    refine y_ishr (pc := 41) C dX10_readOrder_41 ?_
    obtain ⟨y108, ey108, h⟩ := nmS h
    refine y_nmI y108 ey108 ?_
    refine y_istore_n (pc := 42) (lv' := [(2, .int y108), (3, .int y107), (0, .ref (ad x0)), (1, .int x1), (4, .int x4)]) C dX10_readOrder_42 rfl (by decide) rfl ?_
    obtain ⟨y109, ey109, h⟩ := nmS h
    refine y_iinc (pc := 43) (v := y109) (k := 4) (lv' := [(4, .int y109), (2, .int y108), (3, .int y107), (0, .ref (ad x0)), (1, .int x1)]) C dX10_readOrder_43 rfl (by rw [ey109]; rfl) (by decide) rfl ?_
    refine y_goto (pc := 46) (tgt := 7) C dX10_readOrder_46 (by decide) ?_
    refine y_sub [3, 4, 1, 2, 0] (lv' := [(0, .ref (ad x0)), (1, .int x1), (2, .int y108), (3, .int y107), (4, .int y109)]) rfl ?_
    exact hk7 _ _ _ _ h
noncomputable def fX10_readOrder_7 (fu : Nat) (x0 : Nat) (x1 : Int32) : Nat → Int32 → Int32 → Int32 → St → Option (Int32 × St) := lp (fun k7 => fX10_readOrder_7b fu k7 x0 x1) (fun _ _ _ _ => none)
set_option maxHeartbeats 4000000 in
theorem tX10_readOrder_7 {l : Launch} {D : va_G} {cA : ClassId} {bs : Nat} {ad : Nat → Nat} {p : Program} {e : Env} {s : State} {m : MethodId} {args : Array Value} {below : List Frame} {meth : Method} {c : Code} {fu : Nat} (C : Cx D cA bs ad RX10 cX10_readOrder 5 (some .boolean) p s m args meth c) {x0 : Nat} {x1 : Int32} {q : Int32 × St} (hx0 : xk x0 = 8)  : ∀ (n : Nat) (x2 : Int32) (x3 : Int32) (x4 : Int32) (σ : St), fX10_readOrder_7 fu  x0 x1 n x2 x3 x4 σ = some q → Y D cA bs ad p l e (rmY 0 0) s m args below meth c 5 0 0 (QM D cA bs ad below args s (some (.int q.1)) q.2) σ 7 [(0, .ref (ad x0)), (1, .int x1), (2, .int x2), (3, .int x3), (4, .int x4)] [] := by
  intro n
  induction n with
  | zero => intro x2 x3 x4 σ h; cases h
  | succ n ih => intro x2 x3 x4 σ h; exact tX10_readOrder_7b (fu := fu) C hx0 ih h
noncomputable def fX10_readOrder_0 (fu : Nat) (x0 : Nat) (x1 : Int32) (σ : St) : Option (Int32 × St) :=
  fX10_readOrder_7 fu x0 x1 fu x1 (0 : Int32) (0 : Int32) σ
set_option maxHeartbeats 4000000 in
set_option maxRecDepth 100000 in
theorem tX10_readOrder_0 {l : Launch} {D : va_G} {cA : ClassId} {bs : Nat} {ad : Nat → Nat} {p : Program} {e : Env} {s : State} {m : MethodId} {args : Array Value} {below : List Frame} {meth : Method} {c : Code} {fu : Nat} (C : Cx D cA bs ad RX10 cX10_readOrder 5 (some .boolean) p s m args meth c) {x0 : Nat} {x1 : Int32} {q : Int32 × St} (hx0 : xk x0 = 8) {σ : St} (h : fX10_readOrder_0 fu x0 x1 σ = some q) : Y D cA bs ad p l e (rmY 0 0) s m args below meth c 5 0 0 (QM D cA bs ad below args s (some (.int q.1)) q.2) σ 0 [(0, .ref (ad x0)), (1, .int x1)] [] := by
  unfold fX10_readOrder_0 at h
  refine y_iload_n (pc := 0) (q := 1) C dX10_readOrder_0 rfl rfl ?_
  refine y_istore_n (pc := 1) (lv' := [(2, .int x1), (0, .ref (ad x0)), (1, .int x1)]) C dX10_readOrder_1 rfl (by decide) rfl ?_
  refine y_iconst (pc := 2) (v := (0 : Int32)) C dX10_readOrder_2 (by decide) ?_
  refine y_istore_n (pc := 3) (lv' := [(3, .int (0 : Int32)), (2, .int x1), (0, .ref (ad x0)), (1, .int x1)]) C dX10_readOrder_3 rfl (by decide) rfl ?_
  refine y_iconst (pc := 4) (v := (0 : Int32)) C dX10_readOrder_4 (by decide) ?_
  refine y_istore (pc := 5) (lv' := [(4, .int (0 : Int32)), (3, .int (0 : Int32)), (2, .int x1), (0, .ref (ad x0)), (1, .int x1)]) C dX10_readOrder_5 (by decide) rfl ?_
  refine y_sub [3, 4, 2, 1, 0] (lv' := [(0, .ref (ad x0)), (1, .int x1), (2, .int x1), (3, .int (0 : Int32)), (4, .int (0 : Int32))]) rfl ?_
  exact tX10_readOrder_7 (fu := fu) C hx0 fu _ _ _ _ h
noncomputable def fX10_readOrder (fu : Nat) (x0 : Nat) (x1 : Int32) (σ : St) : Option (Int32 × St) := if xk x0 = 8 then fX10_readOrder_0 fu x0 x1 σ else none
theorem mX10_readOrder {l : Launch} {D : va_G} {cA : ClassId} {bs fu : Nat} {ad : Nat → Nat} {x0 : Nat} {x1 : Int32} {σ : St} {q : Int32 × St} (h : fX10_readOrder fu x0 x1 σ = some q) : Ct l D cA bs ad yX10_readOrder cX10_readOrder 5 (some .boolean) 0 0 [.ref (ad x0), .int x1] σ (some (.int q.1)) q.2 := by
  unfold fX10_readOrder at h
  by_cases hx0 : xk x0 = 8
  case neg => rw [if_neg hx0] at h; cases h
  rw [if_pos hx0] at h
  exact Ct.of (by decide) (Nat.le_of_ble_eq_true rfl) (fun p e s m args below meth c C => tX10_readOrder_0 (fu := fu) C hx0 h)
noncomputable def fX10_numberOf_9b (fu : Nat) (k9 : Int32 → Int32 → St → Option (Int32 × St)) (x0 : Nat) (x1 : Int32) (x2 : Int32) (σ : St) : Option (Int32 × St) :=
  if x2 < 0 then
    some (x1, σ)
  else
    (ald σ (rf x0 19) 7 x2).bind fun (v102 : Int32) =>
    nm (((8 : Int32) * x1) + v102) fun (y103 : Int32) =>
    nm (x2 + (-1 : Int32)) fun (y104 : Int32) =>
    k9 y103 y104 σ
set_option maxHeartbeats 4000000 in
set_option maxRecDepth 100000 in
theorem tX10_numberOf_9b {l : Launch} {D : va_G} {cA : ClassId} {bs : Nat} {ad : Nat → Nat} {p : Program} {e : Env} {s : State} {m : MethodId} {args : Array Value} {below : List Frame} {meth : Method} {c : Code} {fu : Nat} (C : Cx D cA bs ad RX10 cX10_numberOf 3 (some .int) p s m args meth c) {k9 : Int32 → Int32 → St → Option (Int32 × St)} {x0 : Nat} {x1 : Int32} {x2 : Int32} {q : Int32 × St} (hx0 : xk x0 = 8) (hk9 : ∀ (x1 : Int32) (x2 : Int32) (σ : St), k9 x1 x2 σ = some q → Y D cA bs ad p l e (rmY 0 0) s m args below meth c 3 0 0 (QM D cA bs ad below args s (some (.int q.1)) q.2) σ 9 [(0, .ref (ad x0)), (1, .int x1), (2, .int x2)] []) {σ : St} (h : fX10_numberOf_9b fu k9 x0 x1 x2 σ = some q) : Y D cA bs ad p l e (rmY 0 0) s m args below meth c 3 0 0 (QM D cA bs ad below args s (some (.int q.1)) q.2) σ 9 [(0, .ref (ad x0)), (1, .int x1), (2, .int x2)] [] := by
  unfold fX10_numberOf_9b at h
  refine y_iload_n (pc := 9) (q := 2) C dX10_numberOf_9 rfl rfl ?_
  refine y_if_lt (pc := 10) (tgt := 31) C dX10_numberOf_10 (by decide) (fun c101 => ?_) (fun c101 => ?_)
  · rw [if_pos c101] at h
    refine y_iload_n (pc := 31) (q := 1) C dX10_numberOf_31 rfl rfl ?_
    cases h
    exact y_iret (pc := 32) C dX10_numberOf_32
  · rw [if_neg c101] at h
    refine y_bipush (pc := 13) (v := (8 : Int32)) C dX10_numberOf_13 (by decide) ?_
    refine y_iload_n (pc := 15) (q := 1) C dX10_numberOf_15 rfl rfl ?_
    refine y_imul (pc := 16) C dX10_numberOf_16 ?_
    refine y_aload_n (pc := 17) (q := 0) C dX10_numberOf_17 rfl rfl ?_
    refine y_getr (pc := 18) C faX10_31 rfl hx0 dX10_numberOf_18 ?_
    refine y_iload_n (pc := 21) (q := 2) C dX10_numberOf_21 rfl rfl ?_
    obtain ⟨v102, ev102, h⟩ := bdS h
    refine y_iald (pc := 22) (n := 7) C (rf_8_19 _ hx0) (by decide) ev102 dX10_numberOf_22 ?_
    refine y_iadd (pc := 23) C dX10_numberOf_23 ?_
    obtain ⟨y103, ey103, h⟩ := nmS h
    refine y_nmI y103 ey103 ?_
    refine y_istore_n (pc := 24) (lv' := [(1, .int y103), (0, .ref (ad x0)), (2, .int x2)]) C dX10_numberOf_24 rfl (by decide) rfl ?_
    obtain ⟨y104, ey104, h⟩ := nmS h
    refine y_iinc (pc := 25) (v := y104) (k := 2) (lv' := [(2, .int y104), (1, .int y103), (0, .ref (ad x0))]) C dX10_numberOf_25 rfl (by rw [ey104]; rfl) (by decide) rfl ?_
    refine y_goto (pc := 28) (tgt := 9) C dX10_numberOf_28 (by decide) ?_
    refine y_sub [2, 1, 0] (lv' := [(0, .ref (ad x0)), (1, .int y103), (2, .int y104)]) rfl ?_
    exact hk9 _ _ _ h
noncomputable def fX10_numberOf_9 (fu : Nat) (x0 : Nat) : Nat → Int32 → Int32 → St → Option (Int32 × St) := lp (fun k9 => fX10_numberOf_9b fu k9 x0) (fun _ _ _ => none)
set_option maxHeartbeats 4000000 in
theorem tX10_numberOf_9 {l : Launch} {D : va_G} {cA : ClassId} {bs : Nat} {ad : Nat → Nat} {p : Program} {e : Env} {s : State} {m : MethodId} {args : Array Value} {below : List Frame} {meth : Method} {c : Code} {fu : Nat} (C : Cx D cA bs ad RX10 cX10_numberOf 3 (some .int) p s m args meth c) {x0 : Nat} {q : Int32 × St} (hx0 : xk x0 = 8)  : ∀ (n : Nat) (x1 : Int32) (x2 : Int32) (σ : St), fX10_numberOf_9 fu  x0 n x1 x2 σ = some q → Y D cA bs ad p l e (rmY 0 0) s m args below meth c 3 0 0 (QM D cA bs ad below args s (some (.int q.1)) q.2) σ 9 [(0, .ref (ad x0)), (1, .int x1), (2, .int x2)] [] := by
  intro n
  induction n with
  | zero => intro x1 x2 σ h; cases h
  | succ n ih => intro x1 x2 σ h; exact tX10_numberOf_9b (fu := fu) C hx0 ih h
noncomputable def fX10_numberOf_0 (fu : Nat) (x0 : Nat) (σ : St) : Option (Int32 × St) :=
  nm ((σ.1 x0 12) - (1 : Int32)) fun (y101 : Int32) =>
  fX10_numberOf_9 fu x0 fu (0 : Int32) y101 σ
set_option maxHeartbeats 4000000 in
set_option maxRecDepth 100000 in
theorem tX10_numberOf_0 {l : Launch} {D : va_G} {cA : ClassId} {bs : Nat} {ad : Nat → Nat} {p : Program} {e : Env} {s : State} {m : MethodId} {args : Array Value} {below : List Frame} {meth : Method} {c : Code} {fu : Nat} (C : Cx D cA bs ad RX10 cX10_numberOf 3 (some .int) p s m args meth c) {x0 : Nat} {q : Int32 × St} (hx0 : xk x0 = 8) {σ : St} (h : fX10_numberOf_0 fu x0 σ = some q) : Y D cA bs ad p l e (rmY 0 0) s m args below meth c 3 0 0 (QM D cA bs ad below args s (some (.int q.1)) q.2) σ 0 [(0, .ref (ad x0))] [] := by
  unfold fX10_numberOf_0 at h
  refine y_iconst (pc := 0) (v := (0 : Int32)) C dX10_numberOf_0 (by decide) ?_
  refine y_istore_n (pc := 1) (lv' := [(1, .int (0 : Int32)), (0, .ref (ad x0))]) C dX10_numberOf_1 rfl (by decide) rfl ?_
  refine y_aload_n (pc := 2) (q := 1) C dX10_numberOf_2 rfl rfl ?_
  refine y_geti (pc := 3) C faX10_105 rfl hx0 dX10_numberOf_3 ?_
  refine y_iconst (pc := 6) (v := (1 : Int32)) C dX10_numberOf_6 (by decide) ?_
  refine y_isub (pc := 7) C dX10_numberOf_7 ?_
  obtain ⟨y101, ey101, h⟩ := nmS h
  refine y_nmI y101 ey101 ?_
  refine y_istore_n (pc := 8) (lv' := [(2, .int y101), (1, .int (0 : Int32)), (0, .ref (ad x0))]) C dX10_numberOf_8 rfl (by decide) rfl ?_
  refine y_sub [2, 1, 0] (lv' := [(0, .ref (ad x0)), (1, .int (0 : Int32)), (2, .int y101)]) rfl ?_
  exact tX10_numberOf_9 (fu := fu) C hx0 fu _ _ _ h
noncomputable def fX10_numberOf (fu : Nat) (x0 : Nat) (σ : St) : Option (Int32 × St) := if xk x0 = 8 then fX10_numberOf_0 fu x0 σ else none
theorem mX10_numberOf {l : Launch} {D : va_G} {cA : ClassId} {bs fu : Nat} {ad : Nat → Nat} {x0 : Nat} {σ : St} {q : Int32 × St} (h : fX10_numberOf fu x0 σ = some q) : Ct l D cA bs ad yX10_numberOf cX10_numberOf 3 (some .int) 0 0 [.ref (ad x0)] σ (some (.int q.1)) q.2 := by
  unfold fX10_numberOf at h
  by_cases hx0 : xk x0 = 8
  case neg => rw [if_neg hx0] at h; cases h
  rw [if_pos hx0] at h
  exact Ct.of (by decide) (Nat.le_of_ble_eq_true rfl) (fun p e s m args below meth c C => tX10_numberOf_0 (fu := fu) C hx0 h)
noncomputable def fX10_firstOrder_2b (fu : Nat) (k2 : Int32 → St → Option (St)) (x0 : Nat) (x1 : Int32) (σ : St) : Option (St) :=
  if (σ.1 x0 12) ≤ x1 then
    some σ
  else
    (ast σ (rf x0 19) 7 x1 x1).bind fun (σ102 : St) =>
    nm (x1 + (1 : Int32)) fun (y103 : Int32) =>
    k2 y103 σ102
set_option maxHeartbeats 4000000 in
set_option maxRecDepth 100000 in
theorem tX10_firstOrder_2b {l : Launch} {D : va_G} {cA : ClassId} {bs : Nat} {ad : Nat → Nat} {p : Program} {e : Env} {s : State} {m : MethodId} {args : Array Value} {below : List Frame} {meth : Method} {c : Code} {fu : Nat} (C : Cx D cA bs ad RX10 cX10_firstOrder 2 none p s m args meth c) {k2 : Int32 → St → Option (St)} {x0 : Nat} {x1 : Int32} {q : St} (hx0 : xk x0 = 8) (hk2 : ∀ (x1 : Int32) (σ : St), k2 x1 σ = some q → Y D cA bs ad p l e (rmY 0 0) s m args below meth c 2 0 0 (QM D cA bs ad below args s none q) σ 2 [(0, .ref (ad x0)), (1, .int x1)] []) {σ : St} (h : fX10_firstOrder_2b fu k2 x0 x1 σ = some q) : Y D cA bs ad p l e (rmY 0 0) s m args below meth c 2 0 0 (QM D cA bs ad below args s none q) σ 2 [(0, .ref (ad x0)), (1, .int x1)] [] := by
  unfold fX10_firstOrder_2b at h
  refine y_iload_n (pc := 2) (q := 1) C dX10_firstOrder_2 rfl rfl ?_
  refine y_aload_n (pc := 3) (q := 0) C dX10_firstOrder_3 rfl rfl ?_
  refine y_geti (pc := 4) C faX10_105 rfl hx0 dX10_firstOrder_4 ?_
  refine y_icmp_ge (pc := 7) (tgt := 23) C dX10_firstOrder_7 (by decide) (fun c101 => ?_) (fun c101 => ?_)
  · rw [if_pos c101] at h
    cases h
    exact y_vret (pc := 23) C dX10_firstOrder_23
  · rw [if_neg c101] at h
    refine y_aload_n (pc := 10) (q := 0) C dX10_firstOrder_10 rfl rfl ?_
    refine y_getr (pc := 11) C faX10_31 rfl hx0 dX10_firstOrder_11 ?_
    refine y_iload_n (pc := 14) (q := 1) C dX10_firstOrder_14 rfl rfl ?_
    refine y_iload_n (pc := 15) (q := 1) C dX10_firstOrder_15 rfl rfl ?_
    obtain ⟨σ102, eσ102, h⟩ := bdS h
    refine y_iast (pc := 16) (n := 7) C (rf_8_19 _ hx0) (by decide) eσ102 dX10_firstOrder_16 ?_
    obtain ⟨y103, ey103, h⟩ := nmS h
    refine y_iinc (pc := 17) (v := y103) (k := 1) (lv' := [(1, .int y103), (0, .ref (ad x0))]) C dX10_firstOrder_17 rfl (by rw [ey103]; rfl) (by decide) rfl ?_
    refine y_goto (pc := 20) (tgt := 2) C dX10_firstOrder_20 (by decide) ?_
    refine y_sub [1, 0] (lv' := [(0, .ref (ad x0)), (1, .int y103)]) rfl ?_
    exact hk2 _ _ h
noncomputable def fX10_firstOrder_2 (fu : Nat) (x0 : Nat) : Nat → Int32 → St → Option (St) := lp (fun k2 => fX10_firstOrder_2b fu k2 x0) (fun _ _ => none)
set_option maxHeartbeats 4000000 in
theorem tX10_firstOrder_2 {l : Launch} {D : va_G} {cA : ClassId} {bs : Nat} {ad : Nat → Nat} {p : Program} {e : Env} {s : State} {m : MethodId} {args : Array Value} {below : List Frame} {meth : Method} {c : Code} {fu : Nat} (C : Cx D cA bs ad RX10 cX10_firstOrder 2 none p s m args meth c) {x0 : Nat} {q : St} (hx0 : xk x0 = 8)  : ∀ (n : Nat) (x1 : Int32) (σ : St), fX10_firstOrder_2 fu  x0 n x1 σ = some q → Y D cA bs ad p l e (rmY 0 0) s m args below meth c 2 0 0 (QM D cA bs ad below args s none q) σ 2 [(0, .ref (ad x0)), (1, .int x1)] [] := by
  intro n
  induction n with
  | zero => intro x1 σ h; cases h
  | succ n ih => intro x1 σ h; exact tX10_firstOrder_2b (fu := fu) C hx0 ih h
noncomputable def fX10_firstOrder_0 (fu : Nat) (x0 : Nat) (σ : St) : Option (St) :=
  fX10_firstOrder_2 fu x0 fu (0 : Int32) σ
set_option maxHeartbeats 4000000 in
set_option maxRecDepth 100000 in
theorem tX10_firstOrder_0 {l : Launch} {D : va_G} {cA : ClassId} {bs : Nat} {ad : Nat → Nat} {p : Program} {e : Env} {s : State} {m : MethodId} {args : Array Value} {below : List Frame} {meth : Method} {c : Code} {fu : Nat} (C : Cx D cA bs ad RX10 cX10_firstOrder 2 none p s m args meth c) {x0 : Nat} {q : St} (hx0 : xk x0 = 8) {σ : St} (h : fX10_firstOrder_0 fu x0 σ = some q) : Y D cA bs ad p l e (rmY 0 0) s m args below meth c 2 0 0 (QM D cA bs ad below args s none q) σ 0 [(0, .ref (ad x0))] [] := by
  unfold fX10_firstOrder_0 at h
  refine y_iconst (pc := 0) (v := (0 : Int32)) C dX10_firstOrder_0 (by decide) ?_
  refine y_istore_n (pc := 1) (lv' := [(1, .int (0 : Int32)), (0, .ref (ad x0))]) C dX10_firstOrder_1 rfl (by decide) rfl ?_
  refine y_sub [1, 0] (lv' := [(0, .ref (ad x0)), (1, .int (0 : Int32))]) rfl ?_
  exact tX10_firstOrder_2 (fu := fu) C hx0 fu _ _ h
noncomputable def fX10_firstOrder (fu : Nat) (x0 : Nat) (σ : St) : Option (St) := if xk x0 = 8 then fX10_firstOrder_0 fu x0 σ else none
theorem mX10_firstOrder {l : Launch} {D : va_G} {cA : ClassId} {bs fu : Nat} {ad : Nat → Nat} {x0 : Nat} {σ : St} {q : St} (h : fX10_firstOrder fu x0 σ = some q) : Ct l D cA bs ad yX10_firstOrder cX10_firstOrder 2 none 0 0 [.ref (ad x0)] σ none q := by
  unfold fX10_firstOrder at h
  by_cases hx0 : xk x0 = 8
  case neg => rw [if_neg hx0] at h; cases h
  rw [if_pos hx0] at h
  exact Ct.of (by decide) (Nat.le_of_ble_eq_true rfl) (fun p e s m args below meth c C => tX10_firstOrder_0 (fu := fu) C hx0 h)
noncomputable def fX10_nextOrder_107b (fu : Nat) (k107 : Int32 → Int32 → St → Option (Int32 × St)) (x0 : Nat) (x4 : Int32) (x5 : Int32) (σ : St) : Option (Int32 × St) :=
  if x4 ≤ x5 then
    some ((1 : Int32), σ)
  else
    (ald σ (rf x0 19) 7 x5).bind fun (v102 : Int32) =>
    (ald σ (rf x0 19) 7 x4).bind fun (v103 : Int32) =>
    (ast σ (rf x0 19) 7 x5 v103).bind fun (σ104 : St) =>
    (ast σ104 (rf x0 19) 7 x4 v102).bind fun (σ105 : St) =>
    nm (x4 + (-1 : Int32)) fun (y106 : Int32) =>
    nm (x5 + (1 : Int32)) fun (y107 : Int32) =>
    k107 y106 y107 σ105
set_option maxHeartbeats 4000000 in
set_option maxRecDepth 100000 in
theorem tX10_nextOrder_107b {l : Launch} {D : va_G} {cA : ClassId} {bs : Nat} {ad : Nat → Nat} {p : Program} {e : Env} {s : State} {m : MethodId} {args : Array Value} {below : List Frame} {meth : Method} {c : Code} {fu : Nat} (C : Cx D cA bs ad RX10 cX10_nextOrder 6 (some .boolean) p s m args meth c) {k107 : Int32 → Int32 → St → Option (Int32 × St)} {x0 : Nat} {x4 : Int32} {x5 : Int32} {q : Int32 × St} (hx0 : xk x0 = 8) (hk107 : ∀ (x4 : Int32) (x5 : Int32) (σ : St), k107 x4 x5 σ = some q → Y D cA bs ad p l e (rmY 0 0) s m args below meth c 6 0 0 (QM D cA bs ad below args s (some (.int q.1)) q.2) σ 107 [(0, .ref (ad x0)), (4, .int x4), (5, .int x5)] []) {σ : St} (h : fX10_nextOrder_107b fu k107 x0 x4 x5 σ = some q) : Y D cA bs ad p l e (rmY 0 0) s m args below meth c 6 0 0 (QM D cA bs ad below args s (some (.int q.1)) q.2) σ 107 [(0, .ref (ad x0)), (4, .int x4), (5, .int x5)] [] := by
  unfold fX10_nextOrder_107b at h
  refine y_iload (pc := 107) (q := 2) C dX10_nextOrder_107 rfl ?_
  refine y_iload (pc := 109) (q := 1) C dX10_nextOrder_109 rfl ?_
  refine y_icmp_ge (pc := 111) (tgt := 153) C dX10_nextOrder_111 (by decide) (fun c101 => ?_) (fun c101 => ?_)
  · rw [if_pos c101] at h
    refine y_iconst (pc := 153) (v := (1 : Int32)) C dX10_nextOrder_153 (by decide) ?_
    cases h
    exact y_zret (pc := 154) C (Or.inr rfl) dX10_nextOrder_154
  · rw [if_neg c101] at h
    refine y_aload_n (pc := 114) (q := 0) C dX10_nextOrder_114 rfl rfl ?_
    refine y_getr (pc := 115) C faX10_31 rfl hx0 dX10_nextOrder_115 ?_
    refine y_iload (pc := 118) (q := 2) C dX10_nextOrder_118 rfl ?_
    obtain ⟨v102, ev102, h⟩ := bdS h
    refine y_iald (pc := 120) (n := 7) C (rf_8_19 _ hx0) (by decide) ev102 dX10_nextOrder_120 ?_
    refine y_istore_n (pc := 121) (lv' := [(3, .int v102), (0, .ref (ad x0)), (4, .int x4), (5, .int x5)]) C dX10_nextOrder_121 rfl (by decide) rfl ?_
    refine y_aload_n (pc := 122) (q := 1) C dX10_nextOrder_122 rfl rfl ?_
    refine y_getr (pc := 123) C faX10_31 rfl hx0 dX10_nextOrder_123 ?_
    refine y_iload (pc := 126) (q := 3) C dX10_nextOrder_126 rfl ?_
    refine y_aload_n (pc := 128) (q := 1) C dX10_nextOrder_128 rfl rfl ?_
    refine y_getr (pc := 129) C faX10_31 rfl hx0 dX10_nextOrder_129 ?_
    refine y_iload (pc := 132) (q := 2) C dX10_nextOrder_132 rfl ?_
    obtain ⟨v103, ev103, h⟩ := bdS h
    refine y_iald (pc := 134) (n := 7) C (rf_8_19 _ hx0) (by decide) ev103 dX10_nextOrder_134 ?_
    obtain ⟨σ104, eσ104, h⟩ := bdS h
    refine y_iast (pc := 135) (n := 7) C (rf_8_19 _ hx0) (by decide) eσ104 dX10_nextOrder_135 ?_
    refine y_aload_n (pc := 136) (q := 1) C dX10_nextOrder_136 rfl rfl ?_
    refine y_getr (pc := 137) C faX10_31 rfl hx0 dX10_nextOrder_137 ?_
    refine y_iload (pc := 140) (q := 2) C dX10_nextOrder_140 rfl ?_
    refine y_iload_n (pc := 142) (q := 0) C dX10_nextOrder_142 rfl rfl ?_
    obtain ⟨σ105, eσ105, h⟩ := bdS h
    refine y_iast (pc := 143) (n := 7) C (rf_8_19 _ hx0) (by decide) eσ105 dX10_nextOrder_143 ?_
    obtain ⟨y106, ey106, h⟩ := nmS h
    refine y_iinc (pc := 144) (v := y106) (k := 2) (lv' := [(4, .int y106), (3, .int v102), (0, .ref (ad x0)), (5, .int x5)]) C dX10_nextOrder_144 rfl (by rw [ey106]; rfl) (by decide) rfl ?_
    obtain ⟨y107, ey107, h⟩ := nmS h
    refine y_iinc (pc := 147) (v := y107) (k := 3) (lv' := [(5, .int y107), (4, .int y106), (3, .int v102), (0, .ref (ad x0))]) C dX10_nextOrder_147 rfl (by rw [ey107]; rfl) (by decide) rfl ?_
    refine y_goto (pc := 150) (tgt := 107) C dX10_nextOrder_150 (by decide) ?_
    refine y_sub [3, 1, 0] (lv' := [(0, .ref (ad x0)), (4, .int y106), (5, .int y107)]) rfl ?_
    exact hk107 _ _ _ h
noncomputable def fX10_nextOrder_107 (fu : Nat) (x0 : Nat) : Nat → Int32 → Int32 → St → Option (Int32 × St) := lp (fun k107 => fX10_nextOrder_107b fu k107 x0) (fun _ _ _ => none)
set_option maxHeartbeats 4000000 in
theorem tX10_nextOrder_107 {l : Launch} {D : va_G} {cA : ClassId} {bs : Nat} {ad : Nat → Nat} {p : Program} {e : Env} {s : State} {m : MethodId} {args : Array Value} {below : List Frame} {meth : Method} {c : Code} {fu : Nat} (C : Cx D cA bs ad RX10 cX10_nextOrder 6 (some .boolean) p s m args meth c) {x0 : Nat} {q : Int32 × St} (hx0 : xk x0 = 8)  : ∀ (n : Nat) (x4 : Int32) (x5 : Int32) (σ : St), fX10_nextOrder_107 fu  x0 n x4 x5 σ = some q → Y D cA bs ad p l e (rmY 0 0) s m args below meth c 6 0 0 (QM D cA bs ad below args s (some (.int q.1)) q.2) σ 107 [(0, .ref (ad x0)), (4, .int x4), (5, .int x5)] [] := by
  intro n
  induction n with
  | zero => intro x4 x5 σ h; cases h
  | succ n ih => intro x4 x5 σ h; exact tX10_nextOrder_107b (fu := fu) C hx0 ih h
noncomputable def fX10_nextOrder_47b (fu : Nat) (k47 : Int32 → Int32 → St → Option (Int32 × St)) (x0 : Nat) (x1 : Int32) (x2 : Int32) (σ : St) : Option (Int32 × St) :=
  (ald σ (rf x0 19) 7 x2).bind fun (v101 : Int32) =>
  (ald σ (rf x0 19) 7 x1).bind fun (v102 : Int32) =>
  if v102 ≤ v101 then
    (ald σ (rf x0 19) 7 x1).bind fun (v104 : Int32) =>
    (ald σ (rf x0 19) 7 x2).bind fun (v105 : Int32) =>
    (ast σ (rf x0 19) 7 x1 v105).bind fun (σ106 : St) =>
    (ast σ106 (rf x0 19) 7 x2 v104).bind fun (σ107 : St) =>
    nm ((σ107.1 x0 12) - (1 : Int32)) fun (y108 : Int32) =>
    nm (x1 + (1 : Int32)) fun (y109 : Int32) =>
    fX10_nextOrder_107 fu x0 fu y108 y109 σ107
  else
    nm (x2 + (-1 : Int32)) fun (y110 : Int32) =>
    k47 x1 y110 σ
set_option maxHeartbeats 4000000 in
set_option maxRecDepth 100000 in
theorem tX10_nextOrder_47b {l : Launch} {D : va_G} {cA : ClassId} {bs : Nat} {ad : Nat → Nat} {p : Program} {e : Env} {s : State} {m : MethodId} {args : Array Value} {below : List Frame} {meth : Method} {c : Code} {fu : Nat} (C : Cx D cA bs ad RX10 cX10_nextOrder 6 (some .boolean) p s m args meth c) {k47 : Int32 → Int32 → St → Option (Int32 × St)} {x0 : Nat} {x1 : Int32} {x2 : Int32} {q : Int32 × St} (hx0 : xk x0 = 8) (hk47 : ∀ (x1 : Int32) (x2 : Int32) (σ : St), k47 x1 x2 σ = some q → Y D cA bs ad p l e (rmY 0 0) s m args below meth c 6 0 0 (QM D cA bs ad below args s (some (.int q.1)) q.2) σ 47 [(0, .ref (ad x0)), (1, .int x1), (2, .int x2)] []) {σ : St} (h : fX10_nextOrder_47b fu k47 x0 x1 x2 σ = some q) : Y D cA bs ad p l e (rmY 0 0) s m args below meth c 6 0 0 (QM D cA bs ad below args s (some (.int q.1)) q.2) σ 47 [(0, .ref (ad x0)), (1, .int x1), (2, .int x2)] [] := by
  unfold fX10_nextOrder_47b at h
  refine y_aload_n (pc := 47) (q := 0) C dX10_nextOrder_47 rfl rfl ?_
  refine y_getr (pc := 48) C faX10_31 rfl hx0 dX10_nextOrder_48 ?_
  refine y_iload_n (pc := 51) (q := 2) C dX10_nextOrder_51 rfl rfl ?_
  obtain ⟨v101, ev101, h⟩ := bdS h
  refine y_iald (pc := 52) (n := 7) C (rf_8_19 _ hx0) (by decide) ev101 dX10_nextOrder_52 ?_
  refine y_aload_n (pc := 53) (q := 0) C dX10_nextOrder_53 rfl rfl ?_
  refine y_getr (pc := 54) C faX10_31 rfl hx0 dX10_nextOrder_54 ?_
  refine y_iload_n (pc := 57) (q := 1) C dX10_nextOrder_57 rfl rfl ?_
  obtain ⟨v102, ev102, h⟩ := bdS h
  refine y_iald (pc := 58) (n := 7) C (rf_8_19 _ hx0) (by decide) ev102 dX10_nextOrder_58 ?_
  refine y_icmp_ge (pc := 59) (tgt := 68) C dX10_nextOrder_59 (by decide) (fun c103 => ?_) (fun c103 => ?_)
  · rw [if_pos c103] at h
    refine y_aload_n (pc := 68) (q := 0) C dX10_nextOrder_68 rfl rfl ?_
    refine y_getr (pc := 69) C faX10_31 rfl hx0 dX10_nextOrder_69 ?_
    refine y_iload_n (pc := 72) (q := 1) C dX10_nextOrder_72 rfl rfl ?_
    obtain ⟨v104, ev104, h⟩ := bdS h
    refine y_iald (pc := 73) (n := 7) C (rf_8_19 _ hx0) (by decide) ev104 dX10_nextOrder_73 ?_
    refine y_istore_n (pc := 74) (lv' := [(3, .int v104), (0, .ref (ad x0)), (1, .int x1), (2, .int x2)]) C dX10_nextOrder_74 rfl (by decide) rfl ?_
    refine y_aload_n (pc := 75) (q := 1) C dX10_nextOrder_75 rfl rfl ?_
    refine y_getr (pc := 76) C faX10_31 rfl hx0 dX10_nextOrder_76 ?_
    refine y_iload_n (pc := 79) (q := 2) C dX10_nextOrder_79 rfl rfl ?_
    refine y_aload_n (pc := 80) (q := 1) C dX10_nextOrder_80 rfl rfl ?_
    refine y_getr (pc := 81) C faX10_31 rfl hx0 dX10_nextOrder_81 ?_
    refine y_iload_n (pc := 84) (q := 3) C dX10_nextOrder_84 rfl rfl ?_
    obtain ⟨v105, ev105, h⟩ := bdS h
    refine y_iald (pc := 85) (n := 7) C (rf_8_19 _ hx0) (by decide) ev105 dX10_nextOrder_85 ?_
    obtain ⟨σ106, eσ106, h⟩ := bdS h
    refine y_iast (pc := 86) (n := 7) C (rf_8_19 _ hx0) (by decide) eσ106 dX10_nextOrder_86 ?_
    refine y_aload_n (pc := 87) (q := 1) C dX10_nextOrder_87 rfl rfl ?_
    refine y_getr (pc := 88) C faX10_31 rfl hx0 dX10_nextOrder_88 ?_
    refine y_iload_n (pc := 91) (q := 3) C dX10_nextOrder_91 rfl rfl ?_
    refine y_iload_n (pc := 92) (q := 0) C dX10_nextOrder_92 rfl rfl ?_
    obtain ⟨σ107, eσ107, h⟩ := bdS h
    refine y_iast (pc := 93) (n := 7) C (rf_8_19 _ hx0) (by decide) eσ107 dX10_nextOrder_93 ?_
    refine y_aload_n (pc := 94) (q := 1) C dX10_nextOrder_94 rfl rfl ?_
    refine y_geti (pc := 95) C faX10_105 rfl hx0 dX10_nextOrder_95 ?_
    refine y_iconst (pc := 98) (v := (1 : Int32)) C dX10_nextOrder_98 (by decide) ?_
    refine y_isub (pc := 99) C dX10_nextOrder_99 ?_
    obtain ⟨y108, ey108, h⟩ := nmS h
    refine y_nmI y108 ey108 ?_
    refine y_istore (pc := 100) (lv' := [(4, .int y108), (3, .int v104), (0, .ref (ad x0)), (1, .int x1), (2, .int x2)]) C dX10_nextOrder_100 (by decide) rfl ?_
    refine y_iload_n (pc := 102) (q := 3) C dX10_nextOrder_102 rfl rfl ?_
    refine y_iconst (pc := 103) (v := (1 : Int32)) C dX10_nextOrder_103 (by decide) ?_
    refine y_iadd (pc := 104) C dX10_nextOrder_104 ?_
    obtain ⟨y109, ey109, h⟩ := nmS h
    refine y_nmI y109 ey109 ?_
    refine y_istore (pc := 105) (lv' := [(5, .int y109), (4, .int y108), (3, .int v104), (0, .ref (ad x0)), (1, .int x1), (2, .int x2)]) C dX10_nextOrder_105 (by decide) rfl ?_
    refine y_sub [3, 1, 0] (lv' := [(0, .ref (ad x0)), (4, .int y108), (5, .int y109)]) rfl ?_
    exact tX10_nextOrder_107 (fu := fu) C hx0 fu _ _ _ h
  · rw [if_neg c103] at h
    obtain ⟨y110, ey110, h⟩ := nmS h
    refine y_iinc (pc := 62) (v := y110) (k := 2) (lv' := [(2, .int y110), (0, .ref (ad x0)), (1, .int x1)]) C dX10_nextOrder_62 rfl (by rw [ey110]; rfl) (by decide) rfl ?_
    refine y_goto (pc := 65) (tgt := 47) C dX10_nextOrder_65 (by decide) ?_
    refine y_sub [1, 2, 0] (lv' := [(0, .ref (ad x0)), (1, .int x1), (2, .int y110)]) rfl ?_
    exact hk47 _ _ _ h
noncomputable def fX10_nextOrder_47 (fu : Nat) (x0 : Nat) : Nat → Int32 → Int32 → St → Option (Int32 × St) := lp (fun k47 => fX10_nextOrder_47b fu k47 x0) (fun _ _ _ => none)
set_option maxHeartbeats 4000000 in
theorem tX10_nextOrder_47 {l : Launch} {D : va_G} {cA : ClassId} {bs : Nat} {ad : Nat → Nat} {p : Program} {e : Env} {s : State} {m : MethodId} {args : Array Value} {below : List Frame} {meth : Method} {c : Code} {fu : Nat} (C : Cx D cA bs ad RX10 cX10_nextOrder 6 (some .boolean) p s m args meth c) {x0 : Nat} {q : Int32 × St} (hx0 : xk x0 = 8)  : ∀ (n : Nat) (x1 : Int32) (x2 : Int32) (σ : St), fX10_nextOrder_47 fu  x0 n x1 x2 σ = some q → Y D cA bs ad p l e (rmY 0 0) s m args below meth c 6 0 0 (QM D cA bs ad below args s (some (.int q.1)) q.2) σ 47 [(0, .ref (ad x0)), (1, .int x1), (2, .int x2)] [] := by
  intro n
  induction n with
  | zero => intro x1 x2 σ h; cases h
  | succ n ih => intro x1 x2 σ h; exact tX10_nextOrder_47b (fu := fu) C hx0 ih h
noncomputable def fX10_nextOrder_34 (fu : Nat) (x0 : Nat) (x1 : Int32) (σ : St) : Option (Int32 × St) :=
  if 0 ≤ x1 then
    nm ((σ.1 x0 12) - (1 : Int32)) fun (y102 : Int32) =>
    fX10_nextOrder_47 fu x0 fu x1 y102 σ
  else
    some ((0 : Int32), σ)
set_option maxHeartbeats 4000000 in
set_option maxRecDepth 100000 in
theorem tX10_nextOrder_34 {l : Launch} {D : va_G} {cA : ClassId} {bs : Nat} {ad : Nat → Nat} {p : Program} {e : Env} {s : State} {m : MethodId} {args : Array Value} {below : List Frame} {meth : Method} {c : Code} {fu : Nat} (C : Cx D cA bs ad RX10 cX10_nextOrder 6 (some .boolean) p s m args meth c) {x0 : Nat} {x1 : Int32} {q : Int32 × St} (hx0 : xk x0 = 8) {σ : St} (h : fX10_nextOrder_34 fu x0 x1 σ = some q) : Y D cA bs ad p l e (rmY 0 0) s m args below meth c 6 0 0 (QM D cA bs ad below args s (some (.int q.1)) q.2) σ 34 [(0, .ref (ad x0)), (1, .int x1)] [] := by
  unfold fX10_nextOrder_34 at h
  refine y_iload_n (pc := 34) (q := 1) C dX10_nextOrder_34 rfl rfl ?_
  refine y_if_ge (pc := 35) (tgt := 40) C dX10_nextOrder_35 (by decide) (fun c101 => ?_) (fun c101 => ?_)
  · rw [if_pos c101] at h
    refine y_aload_n (pc := 40) (q := 0) C dX10_nextOrder_40 rfl rfl ?_
    refine y_geti (pc := 41) C faX10_105 rfl hx0 dX10_nextOrder_41 ?_
    refine y_iconst (pc := 44) (v := (1 : Int32)) C dX10_nextOrder_44 (by decide) ?_
    refine y_isub (pc := 45) C dX10_nextOrder_45 ?_
    obtain ⟨y102, ey102, h⟩ := nmS h
    refine y_nmI y102 ey102 ?_
    refine y_istore_n (pc := 46) (lv' := [(2, .int y102), (0, .ref (ad x0)), (1, .int x1)]) C dX10_nextOrder_46 rfl (by decide) rfl ?_
    refine y_sub [1, 2, 0] (lv' := [(0, .ref (ad x0)), (1, .int x1), (2, .int y102)]) rfl ?_
    exact tX10_nextOrder_47 (fu := fu) C hx0 fu _ _ _ h
  · rw [if_neg c101] at h
    refine y_iconst (pc := 38) (v := (0 : Int32)) C dX10_nextOrder_38 (by decide) ?_
    cases h
    exact y_zret (pc := 39) C (Or.inl rfl) dX10_nextOrder_39
noncomputable def fX10_nextOrder_7b (fu : Nat) (k7 : Int32 → St → Option (Int32 × St)) (x0 : Nat) (x1 : Int32) (σ : St) : Option (Int32 × St) :=
  if x1 < 0 then
    fX10_nextOrder_34 fu x0 x1 σ
  else
    (ald σ (rf x0 19) 7 x1).bind fun (v102 : Int32) =>
    (ald σ (rf x0 19) 7 (x1 + (1 : Int32))).bind fun (v103 : Int32) =>
    if v102 ≤ v103 then
      fX10_nextOrder_34 fu x0 x1 σ
    else
      nm (x1 + (-1 : Int32)) fun (y105 : Int32) =>
      k7 y105 σ
set_option maxHeartbeats 4000000 in
set_option maxRecDepth 100000 in
theorem tX10_nextOrder_7b {l : Launch} {D : va_G} {cA : ClassId} {bs : Nat} {ad : Nat → Nat} {p : Program} {e : Env} {s : State} {m : MethodId} {args : Array Value} {below : List Frame} {meth : Method} {c : Code} {fu : Nat} (C : Cx D cA bs ad RX10 cX10_nextOrder 6 (some .boolean) p s m args meth c) {k7 : Int32 → St → Option (Int32 × St)} {x0 : Nat} {x1 : Int32} {q : Int32 × St} (hx0 : xk x0 = 8) (hk7 : ∀ (x1 : Int32) (σ : St), k7 x1 σ = some q → Y D cA bs ad p l e (rmY 0 0) s m args below meth c 6 0 0 (QM D cA bs ad below args s (some (.int q.1)) q.2) σ 7 [(0, .ref (ad x0)), (1, .int x1)] []) {σ : St} (h : fX10_nextOrder_7b fu k7 x0 x1 σ = some q) : Y D cA bs ad p l e (rmY 0 0) s m args below meth c 6 0 0 (QM D cA bs ad below args s (some (.int q.1)) q.2) σ 7 [(0, .ref (ad x0)), (1, .int x1)] [] := by
  unfold fX10_nextOrder_7b at h
  refine y_iload_n (pc := 7) (q := 1) C dX10_nextOrder_7 rfl rfl ?_
  refine y_if_lt (pc := 8) (tgt := 34) C dX10_nextOrder_8 (by decide) (fun c101 => ?_) (fun c101 => ?_)
  · rw [if_pos c101] at h
    exact tX10_nextOrder_34 (fu := fu) C hx0 h
  · rw [if_neg c101] at h
    refine y_aload_n (pc := 11) (q := 0) C dX10_nextOrder_11 rfl rfl ?_
    refine y_getr (pc := 12) C faX10_31 rfl hx0 dX10_nextOrder_12 ?_
    refine y_iload_n (pc := 15) (q := 1) C dX10_nextOrder_15 rfl rfl ?_
    obtain ⟨v102, ev102, h⟩ := bdS h
    refine y_iald (pc := 16) (n := 7) C (rf_8_19 _ hx0) (by decide) ev102 dX10_nextOrder_16 ?_
    refine y_aload_n (pc := 17) (q := 0) C dX10_nextOrder_17 rfl rfl ?_
    refine y_getr (pc := 18) C faX10_31 rfl hx0 dX10_nextOrder_18 ?_
    refine y_iload_n (pc := 21) (q := 1) C dX10_nextOrder_21 rfl rfl ?_
    refine y_iconst (pc := 22) (v := (1 : Int32)) C dX10_nextOrder_22 (by decide) ?_
    refine y_iadd (pc := 23) C dX10_nextOrder_23 ?_
    obtain ⟨v103, ev103, h⟩ := bdS h
    refine y_iald (pc := 24) (n := 7) C (rf_8_19 _ hx0) (by decide) ev103 dX10_nextOrder_24 ?_
    refine y_icmp_le (pc := 25) (tgt := 34) C dX10_nextOrder_25 (by decide) (fun c104 => ?_) (fun c104 => ?_)
    · rw [if_pos c104] at h
      exact tX10_nextOrder_34 (fu := fu) C hx0 h
    · rw [if_neg c104] at h
      obtain ⟨y105, ey105, h⟩ := nmS h
      refine y_iinc (pc := 28) (v := y105) (k := 1) (lv' := [(1, .int y105), (0, .ref (ad x0))]) C dX10_nextOrder_28 rfl (by rw [ey105]; rfl) (by decide) rfl ?_
      refine y_goto (pc := 31) (tgt := 7) C dX10_nextOrder_31 (by decide) ?_
      refine y_sub [1, 0] (lv' := [(0, .ref (ad x0)), (1, .int y105)]) rfl ?_
      exact hk7 _ _ h
noncomputable def fX10_nextOrder_7 (fu : Nat) (x0 : Nat) : Nat → Int32 → St → Option (Int32 × St) := lp (fun k7 => fX10_nextOrder_7b fu k7 x0) (fun _ _ => none)
set_option maxHeartbeats 4000000 in
theorem tX10_nextOrder_7 {l : Launch} {D : va_G} {cA : ClassId} {bs : Nat} {ad : Nat → Nat} {p : Program} {e : Env} {s : State} {m : MethodId} {args : Array Value} {below : List Frame} {meth : Method} {c : Code} {fu : Nat} (C : Cx D cA bs ad RX10 cX10_nextOrder 6 (some .boolean) p s m args meth c) {x0 : Nat} {q : Int32 × St} (hx0 : xk x0 = 8)  : ∀ (n : Nat) (x1 : Int32) (σ : St), fX10_nextOrder_7 fu  x0 n x1 σ = some q → Y D cA bs ad p l e (rmY 0 0) s m args below meth c 6 0 0 (QM D cA bs ad below args s (some (.int q.1)) q.2) σ 7 [(0, .ref (ad x0)), (1, .int x1)] [] := by
  intro n
  induction n with
  | zero => intro x1 σ h; cases h
  | succ n ih => intro x1 σ h; exact tX10_nextOrder_7b (fu := fu) C hx0 ih h
noncomputable def fX10_nextOrder_0 (fu : Nat) (x0 : Nat) (σ : St) : Option (Int32 × St) :=
  nm ((σ.1 x0 12) - (2 : Int32)) fun (y101 : Int32) =>
  fX10_nextOrder_7 fu x0 fu y101 σ
set_option maxHeartbeats 4000000 in
set_option maxRecDepth 100000 in
theorem tX10_nextOrder_0 {l : Launch} {D : va_G} {cA : ClassId} {bs : Nat} {ad : Nat → Nat} {p : Program} {e : Env} {s : State} {m : MethodId} {args : Array Value} {below : List Frame} {meth : Method} {c : Code} {fu : Nat} (C : Cx D cA bs ad RX10 cX10_nextOrder 6 (some .boolean) p s m args meth c) {x0 : Nat} {q : Int32 × St} (hx0 : xk x0 = 8) {σ : St} (h : fX10_nextOrder_0 fu x0 σ = some q) : Y D cA bs ad p l e (rmY 0 0) s m args below meth c 6 0 0 (QM D cA bs ad below args s (some (.int q.1)) q.2) σ 0 [(0, .ref (ad x0))] [] := by
  unfold fX10_nextOrder_0 at h
  refine y_aload_n (pc := 0) (q := 0) C dX10_nextOrder_0 rfl rfl ?_
  refine y_geti (pc := 1) C faX10_105 rfl hx0 dX10_nextOrder_1 ?_
  refine y_iconst (pc := 4) (v := (2 : Int32)) C dX10_nextOrder_4 (by decide) ?_
  refine y_isub (pc := 5) C dX10_nextOrder_5 ?_
  obtain ⟨y101, ey101, h⟩ := nmS h
  refine y_nmI y101 ey101 ?_
  refine y_istore_n (pc := 6) (lv' := [(1, .int y101), (0, .ref (ad x0))]) C dX10_nextOrder_6 rfl (by decide) rfl ?_
  refine y_sub [1, 0] (lv' := [(0, .ref (ad x0)), (1, .int y101)]) rfl ?_
  exact tX10_nextOrder_7 (fu := fu) C hx0 fu _ _ h
noncomputable def fX10_nextOrder (fu : Nat) (x0 : Nat) (σ : St) : Option (Int32 × St) := if xk x0 = 8 then fX10_nextOrder_0 fu x0 σ else none
theorem mX10_nextOrder {l : Launch} {D : va_G} {cA : ClassId} {bs fu : Nat} {ad : Nat → Nat} {x0 : Nat} {σ : St} {q : Int32 × St} (h : fX10_nextOrder fu x0 σ = some q) : Ct l D cA bs ad yX10_nextOrder cX10_nextOrder 6 (some .boolean) 0 0 [.ref (ad x0)] σ (some (.int q.1)) q.2 := by
  unfold fX10_nextOrder at h
  by_cases hx0 : xk x0 = 8
  case neg => rw [if_neg hx0] at h; cases h
  rw [if_pos hx0] at h
  exact Ct.of (by decide) (Nat.le_of_ble_eq_true rfl) (fun p e s m args below meth c C => tX10_nextOrder_0 (fu := fu) C hx0 h)
noncomputable def fX10_size_10 (fu : Nat) (x0 : Int32) (s0 : Int32) (σ : St) : Option (Int32 × St) :=
  some (s0, σ)
set_option maxHeartbeats 4000000 in
set_option maxRecDepth 100000 in
theorem tX10_size_10 {l : Launch} {D : va_G} {cA : ClassId} {bs : Nat} {ad : Nat → Nat} {p : Program} {e : Env} {s : State} {m : MethodId} {args : Array Value} {below : List Frame} {meth : Method} {c : Code} {fu : Nat} (C : Cx D cA bs ad RX10 cX10_size 1 (some .int) p s m args meth c) {x0 : Int32} {s0 : Int32} {q : Int32 × St} {σ : St} (h : fX10_size_10 fu x0 s0 σ = some q) : Y D cA bs ad p l e (rmY 0 0) s m args below meth c 1 0 0 (QM D cA bs ad below args s (some (.int q.1)) q.2) σ 10 [(0, .int x0)] [.int s0] := by
  unfold fX10_size_10 at h
  cases h
  exact y_iret (pc := 10) C dX10_size_10
noncomputable def fX10_size_0 (fu : Nat) (x0 : Int32) (σ : St) : Option (Int32 × St) :=
  if 0 ≤ x0 then
    fX10_size_10 fu x0 x0 σ
  else
    fX10_size_10 fu x0 (-x0) σ
set_option maxHeartbeats 4000000 in
set_option maxRecDepth 100000 in
theorem tX10_size_0 {l : Launch} {D : va_G} {cA : ClassId} {bs : Nat} {ad : Nat → Nat} {p : Program} {e : Env} {s : State} {m : MethodId} {args : Array Value} {below : List Frame} {meth : Method} {c : Code} {fu : Nat} (C : Cx D cA bs ad RX10 cX10_size 1 (some .int) p s m args meth c) {x0 : Int32} {q : Int32 × St} {σ : St} (h : fX10_size_0 fu x0 σ = some q) : Y D cA bs ad p l e (rmY 0 0) s m args below meth c 1 0 0 (QM D cA bs ad below args s (some (.int q.1)) q.2) σ 0 [(0, .int x0)] [] := by
  unfold fX10_size_0 at h
  refine y_iload_n (pc := 0) (q := 0) C dX10_size_0 rfl rfl ?_
  refine y_if_ge (pc := 1) (tgt := 9) C dX10_size_1 (by decide) (fun c101 => ?_) (fun c101 => ?_)
  · rw [if_pos c101] at h
    refine y_iload_n (pc := 9) (q := 0) C dX10_size_9 rfl rfl ?_
    exact tX10_size_10 (fu := fu) C h
  · rw [if_neg c101] at h
    refine y_iload_n (pc := 4) (q := 0) C dX10_size_4 rfl rfl ?_
    refine y_ineg (pc := 5) C dX10_size_5 ?_
    refine y_goto (pc := 6) (tgt := 10) C dX10_size_6 (by decide) ?_
    exact tX10_size_10 (fu := fu) C h
noncomputable def fX10_size (fu : Nat) (x0 : Int32) (σ : St) : Option (Int32 × St) := fX10_size_0 fu x0 σ
theorem mX10_size {l : Launch} {D : va_G} {cA : ClassId} {bs fu : Nat} {ad : Nat → Nat} {x0 : Int32} {σ : St} {q : Int32 × St} (h : fX10_size fu x0 σ = some q) : Ct l D cA bs ad yX10_size cX10_size 1 (some .int) 0 0 [.int x0] σ (some (.int q.1)) q.2 := by
  unfold fX10_size at h
  exact Ct.of (by decide) (Nat.le_of_ble_eq_true rfl) (fun p e s m args below meth c C => tX10_size_0 (fu := fu) C h)
noncomputable def fX10_isLawful_162 (fu : Nat) (k4 : Int32 → Int32 → St → Option (Int32 × St)) (x0 : Nat) (x1 : Nat) (x3 : Int32) (s0 : Int32) (σ : St) : Option (Int32 × St) :=
  nm (x3 + (1 : Int32)) fun (y101 : Int32) =>
  k4 s0 y101 σ
set_option maxHeartbeats 4000000 in
set_option maxRecDepth 100000 in
theorem tX10_isLawful_162 {l : Launch} {D : va_G} {cA : ClassId} {bs : Nat} {ad : Nat → Nat} {p : Program} {e : Env} {s : State} {m : MethodId} {args : Array Value} {below : List Frame} {meth : Method} {c : Code} {fu : Nat} (C : Cx D cA bs ad RX10 cX10_isLawful 6 (some .boolean) p s m args meth c) {k4 : Int32 → Int32 → St → Option (Int32 × St)} {x0 : Nat} {x1 : Nat} {x3 : Int32} {s0 : Int32} {q : Int32 × St} (hx0 : xk x0 = 8) (hx1 : xk x1 = 16) (hk4 : ∀ (x2 : Int32) (x3 : Int32) (σ : St), k4 x2 x3 σ = some q → Y D cA bs ad p l e (rmY 1 20) s m args below meth c 6 0 0 (QM D cA bs ad below args s (some (.int q.1)) q.2) σ 4 [(0, .ref (ad x0)), (1, .ref (ad x1)), (2, .int x2), (3, .int x3)] []) {σ : St} (h : fX10_isLawful_162 fu k4 x0 x1 x3 s0 σ = some q) : Y D cA bs ad p l e (rmY 1 20) s m args below meth c 6 0 0 (QM D cA bs ad below args s (some (.int q.1)) q.2) σ 162 [(0, .ref (ad x0)), (1, .ref (ad x1)), (3, .int x3)] [.int s0] := by
  unfold fX10_isLawful_162 at h
  refine y_istore_n (pc := 162) (lv' := [(2, .int s0), (0, .ref (ad x0)), (1, .ref (ad x1)), (3, .int x3)]) C dX10_isLawful_162 rfl (by decide) rfl ?_
  obtain ⟨y101, ey101, h⟩ := nmS h
  refine y_iinc (pc := 163) (v := y101) (k := 3) (lv' := [(3, .int y101), (2, .int s0), (0, .ref (ad x0)), (1, .ref (ad x1))]) C dX10_isLawful_163 rfl (by rw [ey101]; rfl) (by decide) rfl ?_
  refine y_goto (pc := 166) (tgt := 4) C dX10_isLawful_166 (by decide) ?_
  refine y_sub [2, 3, 1, 0] (lv' := [(0, .ref (ad x0)), (1, .ref (ad x1)), (2, .int s0), (3, .int y101)]) rfl ?_
  exact hk4 _ _ _ h
noncomputable def fX10_isLawful_157 (fu : Nat) (k4 : Int32 → Int32 → St → Option (Int32 × St)) (x0 : Nat) (x1 : Nat) (x3 : Int32) (σ : St) : Option (Int32 × St) :=
  fX10_isLawful_162 fu k4 x0 x1 x3 (1 : Int32) σ
set_option maxHeartbeats 4000000 in
set_option maxRecDepth 100000 in
theorem tX10_isLawful_157 {l : Launch} {D : va_G} {cA : ClassId} {bs : Nat} {ad : Nat → Nat} {p : Program} {e : Env} {s : State} {m : MethodId} {args : Array Value} {below : List Frame} {meth : Method} {c : Code} {fu : Nat} (C : Cx D cA bs ad RX10 cX10_isLawful 6 (some .boolean) p s m args meth c) {k4 : Int32 → Int32 → St → Option (Int32 × St)} {x0 : Nat} {x1 : Nat} {x3 : Int32} {q : Int32 × St} (hx0 : xk x0 = 8) (hx1 : xk x1 = 16) (hk4 : ∀ (x2 : Int32) (x3 : Int32) (σ : St), k4 x2 x3 σ = some q → Y D cA bs ad p l e (rmY 1 20) s m args below meth c 6 0 0 (QM D cA bs ad below args s (some (.int q.1)) q.2) σ 4 [(0, .ref (ad x0)), (1, .ref (ad x1)), (2, .int x2), (3, .int x3)] []) {σ : St} (h : fX10_isLawful_157 fu k4 x0 x1 x3 σ = some q) : Y D cA bs ad p l e (rmY 1 20) s m args below meth c 6 0 0 (QM D cA bs ad below args s (some (.int q.1)) q.2) σ 157 [(0, .ref (ad x0)), (1, .ref (ad x1)), (3, .int x3)] [] := by
  unfold fX10_isLawful_157 at h
  refine y_iconst (pc := 157) (v := (1 : Int32)) C dX10_isLawful_157 (by decide) ?_
  refine y_goto (pc := 158) (tgt := 162) C dX10_isLawful_158 (by decide) ?_
  exact tX10_isLawful_162 (fu := fu) C hx0 hx1 hk4 h
noncomputable def fX10_isLawful_161 (fu : Nat) (k4 : Int32 → Int32 → St → Option (Int32 × St)) (x0 : Nat) (x1 : Nat) (x3 : Int32) (σ : St) : Option (Int32 × St) :=
  fX10_isLawful_162 fu k4 x0 x1 x3 (0 : Int32) σ
set_option maxHeartbeats 4000000 in
set_option maxRecDepth 100000 in
theorem tX10_isLawful_161 {l : Launch} {D : va_G} {cA : ClassId} {bs : Nat} {ad : Nat → Nat} {p : Program} {e : Env} {s : State} {m : MethodId} {args : Array Value} {below : List Frame} {meth : Method} {c : Code} {fu : Nat} (C : Cx D cA bs ad RX10 cX10_isLawful 6 (some .boolean) p s m args meth c) {k4 : Int32 → Int32 → St → Option (Int32 × St)} {x0 : Nat} {x1 : Nat} {x3 : Int32} {q : Int32 × St} (hx0 : xk x0 = 8) (hx1 : xk x1 = 16) (hk4 : ∀ (x2 : Int32) (x3 : Int32) (σ : St), k4 x2 x3 σ = some q → Y D cA bs ad p l e (rmY 1 20) s m args below meth c 6 0 0 (QM D cA bs ad below args s (some (.int q.1)) q.2) σ 4 [(0, .ref (ad x0)), (1, .ref (ad x1)), (2, .int x2), (3, .int x3)] []) {σ : St} (h : fX10_isLawful_161 fu k4 x0 x1 x3 σ = some q) : Y D cA bs ad p l e (rmY 1 20) s m args below meth c 6 0 0 (QM D cA bs ad below args s (some (.int q.1)) q.2) σ 161 [(0, .ref (ad x0)), (1, .ref (ad x1)), (3, .int x3)] [] := by
  unfold fX10_isLawful_161 at h
  refine y_iconst (pc := 161) (v := (0 : Int32)) C dX10_isLawful_161 (by decide) ?_
  exact tX10_isLawful_162 (fu := fu) C hx0 hx1 hk4 h
noncomputable def fX10_isLawful_115 (fu : Nat) (k4 : Int32 → Int32 → St → Option (Int32 × St)) (x0 : Nat) (x1 : Nat) (x3 : Int32) (s0 : Int32) (σ : St) : Option (Int32 × St) :=
  if s0 = 0 then
    fX10_isLawful_161 fu k4 x0 x1 x3 σ
  else
    if (σ.1 x0 2) = 0 then
      fX10_isLawful_157 fu k4 x0 x1 x3 σ
    else
      if x3 = 0 then
        fX10_isLawful_157 fu k4 x0 x1 x3 σ
      else
        (ald σ (rf x0 19) 7 x3).bind fun (v104 : Int32) =>
        (ald σ x1 7 v104).bind fun (v105 : Int32) =>
        (ald σ (rf x0 19) 7 (x3 - (1 : Int32))).bind fun (v106 : Int32) =>
        (ald σ x1 7 v106).bind fun (v107 : Int32) =>
        (fX10_size fu (v105 - v107) σ).bind fun (q108 : Int32 × St) =>
        if q108.1 = (1 : Int32) then
          fX10_isLawful_161 fu k4 x0 x1 x3 q108.2
        else
          fX10_isLawful_157 fu k4 x0 x1 x3 q108.2
set_option maxHeartbeats 4000000 in
set_option maxRecDepth 100000 in
theorem tX10_isLawful_115 {l : Launch} {D : va_G} {cA : ClassId} {bs : Nat} {ad : Nat → Nat} {p : Program} {e : Env} {s : State} {m : MethodId} {args : Array Value} {below : List Frame} {meth : Method} {c : Code} {fu : Nat} (C : Cx D cA bs ad RX10 cX10_isLawful 6 (some .boolean) p s m args meth c) {k4 : Int32 → Int32 → St → Option (Int32 × St)} {x0 : Nat} {x1 : Nat} {x3 : Int32} {s0 : Int32} {q : Int32 × St} (hx0 : xk x0 = 8) (hx1 : xk x1 = 16) (hk4 : ∀ (x2 : Int32) (x3 : Int32) (σ : St), k4 x2 x3 σ = some q → Y D cA bs ad p l e (rmY 1 20) s m args below meth c 6 0 0 (QM D cA bs ad below args s (some (.int q.1)) q.2) σ 4 [(0, .ref (ad x0)), (1, .ref (ad x1)), (2, .int x2), (3, .int x3)] []) {σ : St} (h : fX10_isLawful_115 fu k4 x0 x1 x3 s0 σ = some q) : Y D cA bs ad p l e (rmY 1 20) s m args below meth c 6 0 0 (QM D cA bs ad below args s (some (.int q.1)) q.2) σ 115 [(0, .ref (ad x0)), (1, .ref (ad x1)), (3, .int x3)] [.int s0] := by
  unfold fX10_isLawful_115 at h
  refine y_istore_n (pc := 115) (lv' := [(2, .int s0), (0, .ref (ad x0)), (1, .ref (ad x1)), (3, .int x3)]) C dX10_isLawful_115 rfl (by decide) rfl ?_
  refine y_iload_n (pc := 116) (q := 0) C dX10_isLawful_116 rfl rfl ?_
  refine y_if_eq (pc := 117) (tgt := 161) C dX10_isLawful_117 (by decide) (fun c101 => ?_) (fun c101 => ?_)
  · rw [if_pos c101] at h
    refine y_sub [1, 2, 3] (lv' := [(0, .ref (ad x0)), (1, .ref (ad x1)), (3, .int x3)]) rfl ?_
    exact tX10_isLawful_161 (fu := fu) C hx0 hx1 hk4 h
  · rw [if_neg c101] at h
    refine y_aload_n (pc := 120) (q := 1) C dX10_isLawful_120 rfl rfl ?_
    refine y_geti (pc := 121) C faX10_89 rfl hx0 dX10_isLawful_121 ?_
    refine y_if_eq (pc := 124) (tgt := 157) C dX10_isLawful_124 (by decide) (fun c102 => ?_) (fun c102 => ?_)
    · rw [if_pos c102] at h
      refine y_sub [1, 2, 3] (lv' := [(0, .ref (ad x0)), (1, .ref (ad x1)), (3, .int x3)]) rfl ?_
      exact tX10_isLawful_157 (fu := fu) C hx0 hx1 hk4 h
    · rw [if_neg c102] at h
      refine y_iload_n (pc := 127) (q := 3) C dX10_isLawful_127 rfl rfl ?_
      refine y_if_eq (pc := 128) (tgt := 157) C dX10_isLawful_128 (by decide) (fun c103 => ?_) (fun c103 => ?_)
      · rw [if_pos c103] at h
        refine y_sub [1, 2, 3] (lv' := [(0, .ref (ad x0)), (1, .ref (ad x1)), (3, .int x3)]) rfl ?_
        exact tX10_isLawful_157 (fu := fu) C hx0 hx1 hk4 h
      · rw [if_neg c103] at h
        refine y_aload_n (pc := 131) (q := 2) C dX10_isLawful_131 rfl rfl ?_
        refine y_aload_n (pc := 132) (q := 1) C dX10_isLawful_132 rfl rfl ?_
        refine y_getr (pc := 133) C faX10_31 rfl hx0 dX10_isLawful_133 ?_
        refine y_iload_n (pc := 136) (q := 3) C dX10_isLawful_136 rfl rfl ?_
        obtain ⟨v104, ev104, h⟩ := bdS h
        refine y_iald (pc := 137) (n := 7) C (rf_8_19 _ hx0) (by decide) ev104 dX10_isLawful_137 ?_
        obtain ⟨v105, ev105, h⟩ := bdS h
        refine y_iald (pc := 138) (n := 7) C hx1 (by decide) ev105 dX10_isLawful_138 ?_
        refine y_aload_n (pc := 139) (q := 2) C dX10_isLawful_139 rfl rfl ?_
        refine y_aload_n (pc := 140) (q := 1) C dX10_isLawful_140 rfl rfl ?_
        refine y_getr (pc := 141) C faX10_31 rfl hx0 dX10_isLawful_141 ?_
        refine y_iload_n (pc := 144) (q := 3) C dX10_isLawful_144 rfl rfl ?_
        refine y_iconst (pc := 145) (v := (1 : Int32)) C dX10_isLawful_145 (by decide) ?_
        refine y_isub (pc := 146) C dX10_isLawful_146 ?_
        obtain ⟨v106, ev106, h⟩ := bdS h
        refine y_iald (pc := 147) (n := 7) C (rf_8_19 _ hx0) (by decide) ev106 dX10_isLawful_147 ?_
        obtain ⟨v107, ev107, h⟩ := bdS h
        refine y_iald (pc := 148) (n := 7) C hx1 (by decide) ev107 dX10_isLawful_148 ?_
        refine y_isub (pc := 149) C dX10_isLawful_149 ?_
        obtain ⟨q108, eq108, h⟩ := bdS h
        refine y_callS (pc := 150) (As := [.int (v105 - v107)]) (rest := []) C (mX10_size (fu := fu) eq108) vwX10_130 rfl rfl (Nat.le_of_ble_eq_true rfl) ⟨Nat.le_of_ble_eq_true rfl, Nat.le_of_ble_eq_true rfl⟩ ⟨Nat.le_refl _, Nat.le_refl _⟩ dX10_isLawful_150 ?_
        show Y _ _ _ _ _ _ _ _ _ _ _ _ _ _ _ _ _ _ q108.2 153 [(2, .int s0), (0, .ref (ad x0)), (1, .ref (ad x1)), (3, .int x3)] [.int q108.1]
        refine y_iconst (pc := 153) (v := (1 : Int32)) C dX10_isLawful_153 (by decide) ?_
        refine y_icmp_eq (pc := 154) (tgt := 161) C dX10_isLawful_154 (by decide) (fun c109 => ?_) (fun c109 => ?_)
        · rw [if_pos c109] at h
          refine y_sub [1, 2, 3] (lv' := [(0, .ref (ad x0)), (1, .ref (ad x1)), (3, .int x3)]) rfl ?_
          exact tX10_isLawful_161 (fu := fu) C hx0 hx1 hk4 h
        · rw [if_neg c109] at h
          refine y_sub [1, 2, 3] (lv' := [(0, .ref (ad x0)), (1, .ref (ad x1)), (3, .int x3)]) rfl ?_
          exact tX10_isLawful_157 (fu := fu) C hx0 hx1 hk4 h
noncomputable def fX10_isLawful_110 (fu : Nat) (k4 : Int32 → Int32 → St → Option (Int32 × St)) (x0 : Nat) (x1 : Nat) (x3 : Int32) (σ : St) : Option (Int32 × St) :=
  fX10_isLawful_115 fu k4 x0 x1 x3 (1 : Int32) σ
set_option maxHeartbeats 4000000 in
set_option maxRecDepth 100000 in
theorem tX10_isLawful_110 {l : Launch} {D : va_G} {cA : ClassId} {bs : Nat} {ad : Nat → Nat} {p : Program} {e : Env} {s : State} {m : MethodId} {args : Array Value} {below : List Frame} {meth : Method} {c : Code} {fu : Nat} (C : Cx D cA bs ad RX10 cX10_isLawful 6 (some .boolean) p s m args meth c) {k4 : Int32 → Int32 → St → Option (Int32 × St)} {x0 : Nat} {x1 : Nat} {x3 : Int32} {q : Int32 × St} (hx0 : xk x0 = 8) (hx1 : xk x1 = 16) (hk4 : ∀ (x2 : Int32) (x3 : Int32) (σ : St), k4 x2 x3 σ = some q → Y D cA bs ad p l e (rmY 1 20) s m args below meth c 6 0 0 (QM D cA bs ad below args s (some (.int q.1)) q.2) σ 4 [(0, .ref (ad x0)), (1, .ref (ad x1)), (2, .int x2), (3, .int x3)] []) {σ : St} (h : fX10_isLawful_110 fu k4 x0 x1 x3 σ = some q) : Y D cA bs ad p l e (rmY 1 20) s m args below meth c 6 0 0 (QM D cA bs ad below args s (some (.int q.1)) q.2) σ 110 [(0, .ref (ad x0)), (1, .ref (ad x1)), (3, .int x3)] [] := by
  unfold fX10_isLawful_110 at h
  refine y_iconst (pc := 110) (v := (1 : Int32)) C dX10_isLawful_110 (by decide) ?_
  refine y_goto (pc := 111) (tgt := 115) C dX10_isLawful_111 (by decide) ?_
  exact tX10_isLawful_115 (fu := fu) C hx0 hx1 hk4 h
noncomputable def fX10_isLawful_114 (fu : Nat) (k4 : Int32 → Int32 → St → Option (Int32 × St)) (x0 : Nat) (x1 : Nat) (x3 : Int32) (σ : St) : Option (Int32 × St) :=
  fX10_isLawful_115 fu k4 x0 x1 x3 (0 : Int32) σ
set_option maxHeartbeats 4000000 in
set_option maxRecDepth 100000 in
theorem tX10_isLawful_114 {l : Launch} {D : va_G} {cA : ClassId} {bs : Nat} {ad : Nat → Nat} {p : Program} {e : Env} {s : State} {m : MethodId} {args : Array Value} {below : List Frame} {meth : Method} {c : Code} {fu : Nat} (C : Cx D cA bs ad RX10 cX10_isLawful 6 (some .boolean) p s m args meth c) {k4 : Int32 → Int32 → St → Option (Int32 × St)} {x0 : Nat} {x1 : Nat} {x3 : Int32} {q : Int32 × St} (hx0 : xk x0 = 8) (hx1 : xk x1 = 16) (hk4 : ∀ (x2 : Int32) (x3 : Int32) (σ : St), k4 x2 x3 σ = some q → Y D cA bs ad p l e (rmY 1 20) s m args below meth c 6 0 0 (QM D cA bs ad below args s (some (.int q.1)) q.2) σ 4 [(0, .ref (ad x0)), (1, .ref (ad x1)), (2, .int x2), (3, .int x3)] []) {σ : St} (h : fX10_isLawful_114 fu k4 x0 x1 x3 σ = some q) : Y D cA bs ad p l e (rmY 1 20) s m args below meth c 6 0 0 (QM D cA bs ad below args s (some (.int q.1)) q.2) σ 114 [(0, .ref (ad x0)), (1, .ref (ad x1)), (3, .int x3)] [] := by
  unfold fX10_isLawful_114 at h
  refine y_iconst (pc := 114) (v := (0 : Int32)) C dX10_isLawful_114 (by decide) ?_
  exact tX10_isLawful_115 (fu := fu) C hx0 hx1 hk4 h
noncomputable def fX10_isLawful_72 (fu : Nat) (k4 : Int32 → Int32 → St → Option (Int32 × St)) (x0 : Nat) (x1 : Nat) (x2 : Int32) (x3 : Int32) (x4 : Int32) (s0 : Int32) (σ : St) : Option (Int32 × St) :=
  if x2 = 0 then
    fX10_isLawful_114 fu k4 x0 x1 x3 σ
  else
    if (σ.1 x0 4) = 0 then
      fX10_isLawful_110 fu k4 x0 x1 x3 σ
    else
      (ald σ (rf x0 19) 7 x3).bind fun (v103 : Int32) =>
      (ald σ (rf x0 13) 7 v103).bind fun (v104 : Int32) =>
      if v104 = (3 : Int32) then
        if x4 = 0 then
          if s0 = 0 then
            fX10_isLawful_114 fu k4 x0 x1 x3 σ
          else
            fX10_isLawful_110 fu k4 x0 x1 x3 σ
        else
          fX10_isLawful_110 fu k4 x0 x1 x3 σ
      else
        fX10_isLawful_110 fu k4 x0 x1 x3 σ
set_option maxHeartbeats 4000000 in
set_option maxRecDepth 100000 in
theorem tX10_isLawful_72 {l : Launch} {D : va_G} {cA : ClassId} {bs : Nat} {ad : Nat → Nat} {p : Program} {e : Env} {s : State} {m : MethodId} {args : Array Value} {below : List Frame} {meth : Method} {c : Code} {fu : Nat} (C : Cx D cA bs ad RX10 cX10_isLawful 6 (some .boolean) p s m args meth c) {k4 : Int32 → Int32 → St → Option (Int32 × St)} {x0 : Nat} {x1 : Nat} {x2 : Int32} {x3 : Int32} {x4 : Int32} {s0 : Int32} {q : Int32 × St} (hx0 : xk x0 = 8) (hx1 : xk x1 = 16) (hk4 : ∀ (x2 : Int32) (x3 : Int32) (σ : St), k4 x2 x3 σ = some q → Y D cA bs ad p l e (rmY 1 20) s m args below meth c 6 0 0 (QM D cA bs ad below args s (some (.int q.1)) q.2) σ 4 [(0, .ref (ad x0)), (1, .ref (ad x1)), (2, .int x2), (3, .int x3)] []) {σ : St} (h : fX10_isLawful_72 fu k4 x0 x1 x2 x3 x4 s0 σ = some q) : Y D cA bs ad p l e (rmY 1 20) s m args below meth c 6 0 0 (QM D cA bs ad below args s (some (.int q.1)) q.2) σ 72 [(0, .ref (ad x0)), (1, .ref (ad x1)), (2, .int x2), (3, .int x3), (4, .int x4)] [.int s0] := by
  unfold fX10_isLawful_72 at h
  refine y_istore (pc := 72) (lv' := [(5, .int s0), (0, .ref (ad x0)), (1, .ref (ad x1)), (2, .int x2), (3, .int x3), (4, .int x4)]) C dX10_isLawful_72 (by decide) rfl ?_
  refine y_iload_n (pc := 74) (q := 3) C dX10_isLawful_74 rfl rfl ?_
  refine y_if_eq (pc := 75) (tgt := 114) C dX10_isLawful_75 (by decide) (fun c101 => ?_) (fun c101 => ?_)
  · rw [if_pos c101] at h
    refine y_sub [1, 2, 4] (lv' := [(0, .ref (ad x0)), (1, .ref (ad x1)), (3, .int x3)]) rfl ?_
    exact tX10_isLawful_114 (fu := fu) C hx0 hx1 hk4 h
  · rw [if_neg c101] at h
    refine y_aload_n (pc := 78) (q := 1) C dX10_isLawful_78 rfl rfl ?_
    refine y_geti (pc := 79) C faX10_95 rfl hx0 dX10_isLawful_79 ?_
    refine y_if_eq (pc := 82) (tgt := 110) C dX10_isLawful_82 (by decide) (fun c102 => ?_) (fun c102 => ?_)
    · rw [if_pos c102] at h
      refine y_sub [1, 2, 4] (lv' := [(0, .ref (ad x0)), (1, .ref (ad x1)), (3, .int x3)]) rfl ?_
      exact tX10_isLawful_110 (fu := fu) C hx0 hx1 hk4 h
    · rw [if_neg c102] at h
      refine y_aload_n (pc := 85) (q := 1) C dX10_isLawful_85 rfl rfl ?_
      refine y_getr (pc := 86) C faX10_13 rfl hx0 dX10_isLawful_86 ?_
      refine y_aload_n (pc := 89) (q := 1) C dX10_isLawful_89 rfl rfl ?_
      refine y_getr (pc := 90) C faX10_31 rfl hx0 dX10_isLawful_90 ?_
      refine y_iload_n (pc := 93) (q := 4) C dX10_isLawful_93 rfl rfl ?_
      obtain ⟨v103, ev103, h⟩ := bdS h
      refine y_iald (pc := 94) (n := 7) C (rf_8_19 _ hx0) (by decide) ev103 dX10_isLawful_94 ?_
      obtain ⟨v104, ev104, h⟩ := bdS h
      refine y_iald (pc := 95) (n := 7) C (rf_8_13 _ hx0) (by decide) ev104 dX10_isLawful_95 ?_
      refine y_iconst (pc := 96) (v := (3 : Int32)) C dX10_isLawful_96 (by decide) ?_
      refine y_icmp_ne (pc := 97) (tgt := 110) C dX10_isLawful_97 (by decide) (fun c105 => ?_) (fun c105 => ?_)
      · rw [if_neg c105] at h
        refine y_sub [1, 2, 4] (lv' := [(0, .ref (ad x0)), (1, .ref (ad x1)), (3, .int x3)]) rfl ?_
        exact tX10_isLawful_110 (fu := fu) C hx0 hx1 hk4 h
      · rw [if_pos c105] at h
        refine y_iload (pc := 100) (q := 5) C dX10_isLawful_100 rfl ?_
        refine y_if_ne (pc := 102) (tgt := 110) C dX10_isLawful_102 (by decide) (fun c106 => ?_) (fun c106 => ?_)
        · rw [if_neg c106] at h
          refine y_sub [1, 2, 4] (lv' := [(0, .ref (ad x0)), (1, .ref (ad x1)), (3, .int x3)]) rfl ?_
          exact tX10_isLawful_110 (fu := fu) C hx0 hx1 hk4 h
        · rw [if_pos c106] at h
          refine y_iload (pc := 105) (q := 0) C dX10_isLawful_105 rfl ?_
          refine y_if_eq (pc := 107) (tgt := 114) C dX10_isLawful_107 (by decide) (fun c107 => ?_) (fun c107 => ?_)
          · rw [if_pos c107] at h
            refine y_sub [1, 2, 4] (lv' := [(0, .ref (ad x0)), (1, .ref (ad x1)), (3, .int x3)]) rfl ?_
            exact tX10_isLawful_114 (fu := fu) C hx0 hx1 hk4 h
          · rw [if_neg c107] at h
            refine y_sub [1, 2, 4] (lv' := [(0, .ref (ad x0)), (1, .ref (ad x1)), (3, .int x3)]) rfl ?_
            exact tX10_isLawful_110 (fu := fu) C hx0 hx1 hk4 h
noncomputable def fX10_isLawful_71 (fu : Nat) (k4 : Int32 → Int32 → St → Option (Int32 × St)) (x0 : Nat) (x1 : Nat) (x2 : Int32) (x3 : Int32) (x4 : Int32) (σ : St) : Option (Int32 × St) :=
  fX10_isLawful_72 fu k4 x0 x1 x2 x3 x4 (0 : Int32) σ
set_option maxHeartbeats 4000000 in
set_option maxRecDepth 100000 in
theorem tX10_isLawful_71 {l : Launch} {D : va_G} {cA : ClassId} {bs : Nat} {ad : Nat → Nat} {p : Program} {e : Env} {s : State} {m : MethodId} {args : Array Value} {below : List Frame} {meth : Method} {c : Code} {fu : Nat} (C : Cx D cA bs ad RX10 cX10_isLawful 6 (some .boolean) p s m args meth c) {k4 : Int32 → Int32 → St → Option (Int32 × St)} {x0 : Nat} {x1 : Nat} {x2 : Int32} {x3 : Int32} {x4 : Int32} {q : Int32 × St} (hx0 : xk x0 = 8) (hx1 : xk x1 = 16) (hk4 : ∀ (x2 : Int32) (x3 : Int32) (σ : St), k4 x2 x3 σ = some q → Y D cA bs ad p l e (rmY 1 20) s m args below meth c 6 0 0 (QM D cA bs ad below args s (some (.int q.1)) q.2) σ 4 [(0, .ref (ad x0)), (1, .ref (ad x1)), (2, .int x2), (3, .int x3)] []) {σ : St} (h : fX10_isLawful_71 fu k4 x0 x1 x2 x3 x4 σ = some q) : Y D cA bs ad p l e (rmY 1 20) s m args below meth c 6 0 0 (QM D cA bs ad below args s (some (.int q.1)) q.2) σ 71 [(0, .ref (ad x0)), (1, .ref (ad x1)), (2, .int x2), (3, .int x3), (4, .int x4)] [] := by
  unfold fX10_isLawful_71 at h
  refine y_iconst (pc := 71) (v := (0 : Int32)) C dX10_isLawful_71 (by decide) ?_
  exact tX10_isLawful_72 (fu := fu) C hx0 hx1 hk4 h
noncomputable def fX10_isLawful_38 (fu : Nat) (k4 : Int32 → Int32 → St → Option (Int32 × St)) (x0 : Nat) (x1 : Nat) (x2 : Int32) (x3 : Int32) (s0 : Int32) (σ : St) : Option (Int32 × St) :=
  if ((σ.1 x0 12) - (1 : Int32)) ≤ x3 then
    fX10_isLawful_71 fu k4 x0 x1 x2 x3 s0 σ
  else
    (ald σ (rf x0 19) 7 (x3 + (1 : Int32))).bind fun (v102 : Int32) =>
    (ald σ (rf x0 13) 7 v102).bind fun (v103 : Int32) =>
    if v103 = (3 : Int32) then
      fX10_isLawful_72 fu k4 x0 x1 x2 x3 s0 (1 : Int32) σ
    else
      fX10_isLawful_71 fu k4 x0 x1 x2 x3 s0 σ
set_option maxHeartbeats 4000000 in
set_option maxRecDepth 100000 in
theorem tX10_isLawful_38 {l : Launch} {D : va_G} {cA : ClassId} {bs : Nat} {ad : Nat → Nat} {p : Program} {e : Env} {s : State} {m : MethodId} {args : Array Value} {below : List Frame} {meth : Method} {c : Code} {fu : Nat} (C : Cx D cA bs ad RX10 cX10_isLawful 6 (some .boolean) p s m args meth c) {k4 : Int32 → Int32 → St → Option (Int32 × St)} {x0 : Nat} {x1 : Nat} {x2 : Int32} {x3 : Int32} {s0 : Int32} {q : Int32 × St} (hx0 : xk x0 = 8) (hx1 : xk x1 = 16) (hk4 : ∀ (x2 : Int32) (x3 : Int32) (σ : St), k4 x2 x3 σ = some q → Y D cA bs ad p l e (rmY 1 20) s m args below meth c 6 0 0 (QM D cA bs ad below args s (some (.int q.1)) q.2) σ 4 [(0, .ref (ad x0)), (1, .ref (ad x1)), (2, .int x2), (3, .int x3)] []) {σ : St} (h : fX10_isLawful_38 fu k4 x0 x1 x2 x3 s0 σ = some q) : Y D cA bs ad p l e (rmY 1 20) s m args below meth c 6 0 0 (QM D cA bs ad below args s (some (.int q.1)) q.2) σ 38 [(0, .ref (ad x0)), (1, .ref (ad x1)), (2, .int x2), (3, .int x3)] [.int s0] := by
  unfold fX10_isLawful_38 at h
  refine y_istore (pc := 38) (lv' := [(4, .int s0), (0, .ref (ad x0)), (1, .ref (ad x1)), (2, .int x2), (3, .int x3)]) C dX10_isLawful_38 (by decide) rfl ?_
  refine y_iload_n (pc := 40) (q := 4) C dX10_isLawful_40 rfl rfl ?_
  refine y_aload_n (pc := 41) (q := 1) C dX10_isLawful_41 rfl rfl ?_
  refine y_geti (pc := 42) C faX10_105 rfl hx0 dX10_isLawful_42 ?_
  refine y_iconst (pc := 45) (v := (1 : Int32)) C dX10_isLawful_45 (by decide) ?_
  refine y_isub (pc := 46) C dX10_isLawful_46 ?_
  refine y_icmp_ge (pc := 47) (tgt := 71) C dX10_isLawful_47 (by decide) (fun c101 => ?_) (fun c101 => ?_)
  · rw [if_pos c101] at h
    refine y_sub [1, 2, 3, 4, 0] (lv' := [(0, .ref (ad x0)), (1, .ref (ad x1)), (2, .int x2), (3, .int x3), (4, .int s0)]) rfl ?_
    exact tX10_isLawful_71 (fu := fu) C hx0 hx1 hk4 h
  · rw [if_neg c101] at h
    refine y_aload_n (pc := 50) (q := 1) C dX10_isLawful_50 rfl rfl ?_
    refine y_getr (pc := 51) C faX10_13 rfl hx0 dX10_isLawful_51 ?_
    refine y_aload_n (pc := 54) (q := 1) C dX10_isLawful_54 rfl rfl ?_
    refine y_getr (pc := 55) C faX10_31 rfl hx0 dX10_isLawful_55 ?_
    refine y_iload_n (pc := 58) (q := 4) C dX10_isLawful_58 rfl rfl ?_
    refine y_iconst (pc := 59) (v := (1 : Int32)) C dX10_isLawful_59 (by decide) ?_
    refine y_iadd (pc := 60) C dX10_isLawful_60 ?_
    obtain ⟨v102, ev102, h⟩ := bdS h
    refine y_iald (pc := 61) (n := 7) C (rf_8_19 _ hx0) (by decide) ev102 dX10_isLawful_61 ?_
    obtain ⟨v103, ev103, h⟩ := bdS h
    refine y_iald (pc := 62) (n := 7) C (rf_8_13 _ hx0) (by decide) ev103 dX10_isLawful_62 ?_
    refine y_iconst (pc := 63) (v := (3 : Int32)) C dX10_isLawful_63 (by decide) ?_
    refine y_icmp_ne (pc := 64) (tgt := 71) C dX10_isLawful_64 (by decide) (fun c104 => ?_) (fun c104 => ?_)
    · rw [if_neg c104] at h
      refine y_sub [1, 2, 3, 4, 0] (lv' := [(0, .ref (ad x0)), (1, .ref (ad x1)), (2, .int x2), (3, .int x3), (4, .int s0)]) rfl ?_
      exact tX10_isLawful_71 (fu := fu) C hx0 hx1 hk4 h
    · rw [if_pos c104] at h
      refine y_iconst (pc := 67) (v := (1 : Int32)) C dX10_isLawful_67 (by decide) ?_
      refine y_goto (pc := 68) (tgt := 72) C dX10_isLawful_68 (by decide) ?_
      refine y_sub [1, 2, 3, 4, 0] (lv' := [(0, .ref (ad x0)), (1, .ref (ad x1)), (2, .int x2), (3, .int x3), (4, .int s0)]) rfl ?_
      exact tX10_isLawful_72 (fu := fu) C hx0 hx1 hk4 h
noncomputable def fX10_isLawful_37 (fu : Nat) (k4 : Int32 → Int32 → St → Option (Int32 × St)) (x0 : Nat) (x1 : Nat) (x2 : Int32) (x3 : Int32) (σ : St) : Option (Int32 × St) :=
  fX10_isLawful_38 fu k4 x0 x1 x2 x3 (0 : Int32) σ
set_option maxHeartbeats 4000000 in
set_option maxRecDepth 100000 in
theorem tX10_isLawful_37 {l : Launch} {D : va_G} {cA : ClassId} {bs : Nat} {ad : Nat → Nat} {p : Program} {e : Env} {s : State} {m : MethodId} {args : Array Value} {below : List Frame} {meth : Method} {c : Code} {fu : Nat} (C : Cx D cA bs ad RX10 cX10_isLawful 6 (some .boolean) p s m args meth c) {k4 : Int32 → Int32 → St → Option (Int32 × St)} {x0 : Nat} {x1 : Nat} {x2 : Int32} {x3 : Int32} {q : Int32 × St} (hx0 : xk x0 = 8) (hx1 : xk x1 = 16) (hk4 : ∀ (x2 : Int32) (x3 : Int32) (σ : St), k4 x2 x3 σ = some q → Y D cA bs ad p l e (rmY 1 20) s m args below meth c 6 0 0 (QM D cA bs ad below args s (some (.int q.1)) q.2) σ 4 [(0, .ref (ad x0)), (1, .ref (ad x1)), (2, .int x2), (3, .int x3)] []) {σ : St} (h : fX10_isLawful_37 fu k4 x0 x1 x2 x3 σ = some q) : Y D cA bs ad p l e (rmY 1 20) s m args below meth c 6 0 0 (QM D cA bs ad below args s (some (.int q.1)) q.2) σ 37 [(0, .ref (ad x0)), (1, .ref (ad x1)), (2, .int x2), (3, .int x3)] [] := by
  unfold fX10_isLawful_37 at h
  refine y_iconst (pc := 37) (v := (0 : Int32)) C dX10_isLawful_37 (by decide) ?_
  exact tX10_isLawful_38 (fu := fu) C hx0 hx1 hk4 h
noncomputable def fX10_isLawful_4b (fu : Nat) (k4 : Int32 → Int32 → St → Option (Int32 × St)) (x0 : Nat) (x1 : Nat) (x2 : Int32) (x3 : Int32) (σ : St) : Option (Int32 × St) :=
  if (σ.1 x0 12) ≤ x3 then
    if x2 = 0 ∨ x2 = 1 then some (x2, σ) else none
  else
    if x3 ≤ 0 then
      fX10_isLawful_37 fu k4 x0 x1 x2 x3 σ
    else
      (ald σ (rf x0 19) 7 (x3 - (1 : Int32))).bind fun (v104 : Int32) =>
      (ald σ (rf x0 13) 7 v104).bind fun (v105 : Int32) =>
      if v105 = (3 : Int32) then
        fX10_isLawful_38 fu k4 x0 x1 x2 x3 (1 : Int32) σ
      else
        fX10_isLawful_37 fu k4 x0 x1 x2 x3 σ
set_option maxHeartbeats 4000000 in
set_option maxRecDepth 100000 in
theorem tX10_isLawful_4b {l : Launch} {D : va_G} {cA : ClassId} {bs : Nat} {ad : Nat → Nat} {p : Program} {e : Env} {s : State} {m : MethodId} {args : Array Value} {below : List Frame} {meth : Method} {c : Code} {fu : Nat} (C : Cx D cA bs ad RX10 cX10_isLawful 6 (some .boolean) p s m args meth c) {k4 : Int32 → Int32 → St → Option (Int32 × St)} {x0 : Nat} {x1 : Nat} {x2 : Int32} {x3 : Int32} {q : Int32 × St} (hx0 : xk x0 = 8) (hx1 : xk x1 = 16) (hk4 : ∀ (x2 : Int32) (x3 : Int32) (σ : St), k4 x2 x3 σ = some q → Y D cA bs ad p l e (rmY 1 20) s m args below meth c 6 0 0 (QM D cA bs ad below args s (some (.int q.1)) q.2) σ 4 [(0, .ref (ad x0)), (1, .ref (ad x1)), (2, .int x2), (3, .int x3)] []) {σ : St} (h : fX10_isLawful_4b fu k4 x0 x1 x2 x3 σ = some q) : Y D cA bs ad p l e (rmY 1 20) s m args below meth c 6 0 0 (QM D cA bs ad below args s (some (.int q.1)) q.2) σ 4 [(0, .ref (ad x0)), (1, .ref (ad x1)), (2, .int x2), (3, .int x3)] [] := by
  unfold fX10_isLawful_4b at h
  refine y_iload_n (pc := 4) (q := 3) C dX10_isLawful_4 rfl rfl ?_
  refine y_aload_n (pc := 5) (q := 0) C dX10_isLawful_5 rfl rfl ?_
  refine y_geti (pc := 6) C faX10_105 rfl hx0 dX10_isLawful_6 ?_
  refine y_icmp_ge (pc := 9) (tgt := 169) C dX10_isLawful_9 (by decide) (fun c101 => ?_) (fun c101 => ?_)
  · rw [if_pos c101] at h
    refine y_iload_n (pc := 169) (q := 2) C dX10_isLawful_169 rfl rfl ?_
    by_cases c102 : x2 = 0 ∨ x2 = 1
    case neg => rw [if_neg c102] at h; cases h
    rw [if_pos c102] at h
    cases h
    exact y_zret (pc := 170) C c102 dX10_isLawful_170
  · rw [if_neg c101] at h
    refine y_iload_n (pc := 12) (q := 3) C dX10_isLawful_12 rfl rfl ?_
    refine y_if_le (pc := 13) (tgt := 37) C dX10_isLawful_13 (by decide) (fun c103 => ?_) (fun c103 => ?_)
    · rw [if_pos c103] at h
      exact tX10_isLawful_37 (fu := fu) C hx0 hx1 hk4 h
    · rw [if_neg c103] at h
      refine y_aload_n (pc := 16) (q := 0) C dX10_isLawful_16 rfl rfl ?_
      refine y_getr (pc := 17) C faX10_13 rfl hx0 dX10_isLawful_17 ?_
      refine y_aload_n (pc := 20) (q := 0) C dX10_isLawful_20 rfl rfl ?_
      refine y_getr (pc := 21) C faX10_31 rfl hx0 dX10_isLawful_21 ?_
      refine y_iload_n (pc := 24) (q := 3) C dX10_isLawful_24 rfl rfl ?_
      refine y_iconst (pc := 25) (v := (1 : Int32)) C dX10_isLawful_25 (by decide) ?_
      refine y_isub (pc := 26) C dX10_isLawful_26 ?_
      obtain ⟨v104, ev104, h⟩ := bdS h
      refine y_iald (pc := 27) (n := 7) C (rf_8_19 _ hx0) (by decide) ev104 dX10_isLawful_27 ?_
      obtain ⟨v105, ev105, h⟩ := bdS h
      refine y_iald (pc := 28) (n := 7) C (rf_8_13 _ hx0) (by decide) ev105 dX10_isLawful_28 ?_
      refine y_iconst (pc := 29) (v := (3 : Int32)) C dX10_isLawful_29 (by decide) ?_
      refine y_icmp_ne (pc := 30) (tgt := 37) C dX10_isLawful_30 (by decide) (fun c106 => ?_) (fun c106 => ?_)
      · rw [if_neg c106] at h
        exact tX10_isLawful_37 (fu := fu) C hx0 hx1 hk4 h
      · rw [if_pos c106] at h
        refine y_iconst (pc := 33) (v := (1 : Int32)) C dX10_isLawful_33 (by decide) ?_
        refine y_goto (pc := 34) (tgt := 38) C dX10_isLawful_34 (by decide) ?_
        exact tX10_isLawful_38 (fu := fu) C hx0 hx1 hk4 h
noncomputable def fX10_isLawful_4 (fu : Nat) (x0 : Nat) (x1 : Nat) : Nat → Int32 → Int32 → St → Option (Int32 × St) := lp (fun k4 => fX10_isLawful_4b fu k4 x0 x1) (fun _ _ _ => none)
set_option maxHeartbeats 4000000 in
theorem tX10_isLawful_4 {l : Launch} {D : va_G} {cA : ClassId} {bs : Nat} {ad : Nat → Nat} {p : Program} {e : Env} {s : State} {m : MethodId} {args : Array Value} {below : List Frame} {meth : Method} {c : Code} {fu : Nat} (C : Cx D cA bs ad RX10 cX10_isLawful 6 (some .boolean) p s m args meth c) {x0 : Nat} {x1 : Nat} {q : Int32 × St} (hx0 : xk x0 = 8) (hx1 : xk x1 = 16)  : ∀ (n : Nat) (x2 : Int32) (x3 : Int32) (σ : St), fX10_isLawful_4 fu  x0 x1 n x2 x3 σ = some q → Y D cA bs ad p l e (rmY 1 20) s m args below meth c 6 0 0 (QM D cA bs ad below args s (some (.int q.1)) q.2) σ 4 [(0, .ref (ad x0)), (1, .ref (ad x1)), (2, .int x2), (3, .int x3)] [] := by
  intro n
  induction n with
  | zero => intro x2 x3 σ h; cases h
  | succ n ih => intro x2 x3 σ h; exact tX10_isLawful_4b (fu := fu) C hx0 hx1 ih h
noncomputable def fX10_isLawful_0 (fu : Nat) (x0 : Nat) (x1 : Nat) (σ : St) : Option (Int32 × St) :=
  fX10_isLawful_4 fu x0 x1 fu (1 : Int32) (0 : Int32) σ
set_option maxHeartbeats 4000000 in
set_option maxRecDepth 100000 in
theorem tX10_isLawful_0 {l : Launch} {D : va_G} {cA : ClassId} {bs : Nat} {ad : Nat → Nat} {p : Program} {e : Env} {s : State} {m : MethodId} {args : Array Value} {below : List Frame} {meth : Method} {c : Code} {fu : Nat} (C : Cx D cA bs ad RX10 cX10_isLawful 6 (some .boolean) p s m args meth c) {x0 : Nat} {x1 : Nat} {q : Int32 × St} (hx0 : xk x0 = 8) (hx1 : xk x1 = 16) {σ : St} (h : fX10_isLawful_0 fu x0 x1 σ = some q) : Y D cA bs ad p l e (rmY 1 20) s m args below meth c 6 0 0 (QM D cA bs ad below args s (some (.int q.1)) q.2) σ 0 [(0, .ref (ad x0)), (1, .ref (ad x1))] [] := by
  unfold fX10_isLawful_0 at h
  refine y_iconst (pc := 0) (v := (1 : Int32)) C dX10_isLawful_0 (by decide) ?_
  refine y_istore_n (pc := 1) (lv' := [(2, .int (1 : Int32)), (0, .ref (ad x0)), (1, .ref (ad x1))]) C dX10_isLawful_1 rfl (by decide) rfl ?_
  refine y_iconst (pc := 2) (v := (0 : Int32)) C dX10_isLawful_2 (by decide) ?_
  refine y_istore_n (pc := 3) (lv' := [(3, .int (0 : Int32)), (2, .int (1 : Int32)), (0, .ref (ad x0)), (1, .ref (ad x1))]) C dX10_isLawful_3 rfl (by decide) rfl ?_
  refine y_sub [2, 3, 1, 0] (lv' := [(0, .ref (ad x0)), (1, .ref (ad x1)), (2, .int (1 : Int32)), (3, .int (0 : Int32))]) rfl ?_
  exact tX10_isLawful_4 (fu := fu) C hx0 hx1 fu _ _ _ h
noncomputable def fX10_isLawful (fu : Nat) (x0 : Nat) (x1 : Nat) (σ : St) : Option (Int32 × St) := if xk x0 = 8 then if xk x1 = 16 then fX10_isLawful_0 fu x0 x1 σ else none else none
theorem mX10_isLawful {l : Launch} {D : va_G} {cA : ClassId} {bs fu : Nat} {ad : Nat → Nat} {x0 : Nat} {x1 : Nat} {σ : St} {q : Int32 × St} (h : fX10_isLawful fu x0 x1 σ = some q) : Ct l D cA bs ad yX10_isLawful cX10_isLawful 6 (some .boolean) 1 20 [.ref (ad x0), .ref (ad x1)] σ (some (.int q.1)) q.2 := by
  unfold fX10_isLawful at h
  by_cases hx0 : xk x0 = 8
  case neg => rw [if_neg hx0] at h; cases h
  rw [if_pos hx0] at h
  by_cases hx1 : xk x1 = 16
  case neg => rw [if_neg hx1] at h; cases h
  rw [if_pos hx1] at h
  exact Ct.of (by decide) (Nat.le_of_ble_eq_true rfl) (fun p e s m args below meth c C => tX10_isLawful_0 (fu := fu) C hx0 hx1 h)
noncomputable def fX10_worn_49 (fu : Nat) (x0 : Int32) (x1 : Int32) (x2 : Int32) (s0 : Int32) (σ : St) : Option (Int32 × St) :=
  some (s0, σ)
set_option maxHeartbeats 4000000 in
set_option maxRecDepth 100000 in
theorem tX10_worn_49 {l : Launch} {D : va_G} {cA : ClassId} {bs : Nat} {ad : Nat → Nat} {p : Program} {e : Env} {s : State} {m : MethodId} {args : Array Value} {below : List Frame} {meth : Method} {c : Code} {fu : Nat} (C : Cx D cA bs ad RX10 cX10_worn 4 (some .int) p s m args meth c) {x0 : Int32} {x1 : Int32} {x2 : Int32} {s0 : Int32} {q : Int32 × St} {σ : St} (h : fX10_worn_49 fu x0 x1 x2 s0 σ = some q) : Y D cA bs ad p l e (rmY 0 0) s m args below meth c 4 0 0 (QM D cA bs ad below args s (some (.int q.1)) q.2) σ 49 [(0, .int x0), (1, .int x1), (2, .int x2)] [.int s0] := by
  unfold fX10_worn_49 at h
  cases h
  exact y_iret (pc := 49) C dX10_worn_49
noncomputable def fX10_worn_30 (fu : Nat) (x0 : Int32) (x1 : Int32) (x2 : Int32) (s0 : Int32) (σ : St) : Option (Int32 × St) :=
  if (x1 + s0) ≤ (999 : Int32) then
    fX10_worn_49 fu x0 x1 x2 (x1 + s0) σ
  else
    fX10_worn_49 fu x0 x1 x2 (999 : Int32) σ
set_option maxHeartbeats 4000000 in
set_option maxRecDepth 100000 in
theorem tX10_worn_30 {l : Launch} {D : va_G} {cA : ClassId} {bs : Nat} {ad : Nat → Nat} {p : Program} {e : Env} {s : State} {m : MethodId} {args : Array Value} {below : List Frame} {meth : Method} {c : Code} {fu : Nat} (C : Cx D cA bs ad RX10 cX10_worn 4 (some .int) p s m args meth c) {x0 : Int32} {x1 : Int32} {x2 : Int32} {s0 : Int32} {q : Int32 × St} {σ : St} (h : fX10_worn_30 fu x0 x1 x2 s0 σ = some q) : Y D cA bs ad p l e (rmY 0 0) s m args below meth c 4 0 0 (QM D cA bs ad below args s (some (.int q.1)) q.2) σ 30 [(0, .int x0), (1, .int x1), (2, .int x2)] [.int s0] := by
  unfold fX10_worn_30 at h
  refine y_istore_n (pc := 30) (lv' := [(3, .int s0), (0, .int x0), (1, .int x1), (2, .int x2)]) C dX10_worn_30 rfl (by decide) rfl ?_
  refine y_iload_n (pc := 31) (q := 2) C dX10_worn_31 rfl rfl ?_
  refine y_iload_n (pc := 32) (q := 0) C dX10_worn_32 rfl rfl ?_
  refine y_iadd (pc := 33) C dX10_worn_33 ?_
  refine y_sipush (pc := 34) (v := (999 : Int32)) C dX10_worn_34 (by decide) ?_
  refine y_icmp_le (pc := 37) (tgt := 46) C dX10_worn_37 (by decide) (fun c101 => ?_) (fun c101 => ?_)
  · rw [if_pos c101] at h
    refine y_iload_n (pc := 46) (q := 2) C dX10_worn_46 rfl rfl ?_
    refine y_iload_n (pc := 47) (q := 0) C dX10_worn_47 rfl rfl ?_
    refine y_iadd (pc := 48) C dX10_worn_48 ?_
    refine y_sub [1, 2, 3] (lv' := [(0, .int x0), (1, .int x1), (2, .int x2)]) rfl ?_
    exact tX10_worn_49 (fu := fu) C h
  · rw [if_neg c101] at h
    refine y_sipush (pc := 40) (v := (999 : Int32)) C dX10_worn_40 (by decide) ?_
    refine y_goto (pc := 43) (tgt := 49) C dX10_worn_43 (by decide) ?_
    refine y_sub [1, 2, 3] (lv' := [(0, .int x0), (1, .int x1), (2, .int x2)]) rfl ?_
    exact tX10_worn_49 (fu := fu) C h
noncomputable def fX10_worn_10 (fu : Nat) (x0 : Int32) (x1 : Int32) (x2 : Int32) (σ : St) : Option (Int32 × St) :=
  fX10_worn_30 fu x0 x1 x2 ((x2 + (1 : Int32)) / (2 : Int32)) σ
set_option maxHeartbeats 4000000 in
set_option maxRecDepth 100000 in
theorem tX10_worn_10 {l : Launch} {D : va_G} {cA : ClassId} {bs : Nat} {ad : Nat → Nat} {p : Program} {e : Env} {s : State} {m : MethodId} {args : Array Value} {below : List Frame} {meth : Method} {c : Code} {fu : Nat} (C : Cx D cA bs ad RX10 cX10_worn 4 (some .int) p s m args meth c) {x0 : Int32} {x1 : Int32} {x2 : Int32} {q : Int32 × St} {σ : St} (h : fX10_worn_10 fu x0 x1 x2 σ = some q) : Y D cA bs ad p l e (rmY 0 0) s m args below meth c 4 0 0 (QM D cA bs ad below args s (some (.int q.1)) q.2) σ 10 [(0, .int x0), (1, .int x1), (2, .int x2)] [] := by
  unfold fX10_worn_10 at h
  refine y_iload_n (pc := 10) (q := 2) C dX10_worn_10 rfl rfl ?_
  refine y_iconst (pc := 11) (v := (1 : Int32)) C dX10_worn_11 (by decide) ?_
  refine y_iadd (pc := 12) C dX10_worn_12 ?_
  refine y_iconst (pc := 13) (v := (2 : Int32)) C dX10_worn_13 (by decide) ?_
  refine y_idiv (pc := 14) C dX10_worn_14 (by decide) ?_
  refine y_goto (pc := 15) (tgt := 30) C dX10_worn_15 (by decide) ?_
  exact tX10_worn_30 (fu := fu) C h
noncomputable def fX10_worn_0 (fu : Nat) (x0 : Int32) (x1 : Int32) (x2 : Int32) (σ : St) : Option (Int32 × St) :=
  if x0 = (1 : Int32) then
    fX10_worn_10 fu x0 x1 x2 σ
  else
    if x0 = (4 : Int32) then
      fX10_worn_10 fu x0 x1 x2 σ
    else
      if x0 = (2 : Int32) then
        fX10_worn_30 fu x0 x1 x2 ((2 : Int32) * x2) σ
      else
        fX10_worn_30 fu x0 x1 x2 x2 σ
set_option maxHeartbeats 4000000 in
set_option maxRecDepth 100000 in
theorem tX10_worn_0 {l : Launch} {D : va_G} {cA : ClassId} {bs : Nat} {ad : Nat → Nat} {p : Program} {e : Env} {s : State} {m : MethodId} {args : Array Value} {below : List Frame} {meth : Method} {c : Code} {fu : Nat} (C : Cx D cA bs ad RX10 cX10_worn 4 (some .int) p s m args meth c) {x0 : Int32} {x1 : Int32} {x2 : Int32} {q : Int32 × St} {σ : St} (h : fX10_worn_0 fu x0 x1 x2 σ = some q) : Y D cA bs ad p l e (rmY 0 0) s m args below meth c 4 0 0 (QM D cA bs ad below args s (some (.int q.1)) q.2) σ 0 [(0, .int x0), (1, .int x1), (2, .int x2)] [] := by
  unfold fX10_worn_0 at h
  refine y_iload_n (pc := 0) (q := 0) C dX10_worn_0 rfl rfl ?_
  refine y_iconst (pc := 1) (v := (1 : Int32)) C dX10_worn_1 (by decide) ?_
  refine y_icmp_eq (pc := 2) (tgt := 10) C dX10_worn_2 (by decide) (fun c101 => ?_) (fun c101 => ?_)
  · rw [if_pos c101] at h
    exact tX10_worn_10 (fu := fu) C h
  · rw [if_neg c101] at h
    refine y_iload_n (pc := 5) (q := 0) C dX10_worn_5 rfl rfl ?_
    refine y_iconst (pc := 6) (v := (4 : Int32)) C dX10_worn_6 (by decide) ?_
    refine y_icmp_ne (pc := 7) (tgt := 18) C dX10_worn_7 (by decide) (fun c102 => ?_) (fun c102 => ?_)
    · rw [if_neg c102] at h
      refine y_iload_n (pc := 18) (q := 0) C dX10_worn_18 rfl rfl ?_
      refine y_iconst (pc := 19) (v := (2 : Int32)) C dX10_worn_19 (by decide) ?_
      refine y_icmp_ne (pc := 20) (tgt := 29) C dX10_worn_20 (by decide) (fun c103 => ?_) (fun c103 => ?_)
      · rw [if_neg c103] at h
        refine y_iload_n (pc := 29) (q := 2) C dX10_worn_29 rfl rfl ?_
        exact tX10_worn_30 (fu := fu) C h
      · rw [if_pos c103] at h
        refine y_iconst (pc := 23) (v := (2 : Int32)) C dX10_worn_23 (by decide) ?_
        refine y_iload_n (pc := 24) (q := 2) C dX10_worn_24 rfl rfl ?_
        refine y_imul (pc := 25) C dX10_worn_25 ?_
        refine y_goto (pc := 26) (tgt := 30) C dX10_worn_26 (by decide) ?_
        exact tX10_worn_30 (fu := fu) C h
    · rw [if_pos c102] at h
      exact tX10_worn_10 (fu := fu) C h
noncomputable def fX10_worn (fu : Nat) (x0 : Int32) (x1 : Int32) (x2 : Int32) (σ : St) : Option (Int32 × St) := fX10_worn_0 fu x0 x1 x2 σ
theorem mX10_worn {l : Launch} {D : va_G} {cA : ClassId} {bs fu : Nat} {ad : Nat → Nat} {x0 : Int32} {x1 : Int32} {x2 : Int32} {σ : St} {q : Int32 × St} (h : fX10_worn fu x0 x1 x2 σ = some q) : Ct l D cA bs ad yX10_worn cX10_worn 4 (some .int) 0 0 [.int x0, .int x1, .int x2] σ (some (.int q.1)) q.2 := by
  unfold fX10_worn at h
  exact Ct.of (by decide) (Nat.le_of_ble_eq_true rfl) (fun p e s m args below meth c C => tX10_worn_0 (fu := fu) C h)
noncomputable def fX10_worstOf_26 (fu : Nat) (k4 : Int32 → Int32 → St → Option (Int32 × St)) (x0 : Nat) (x1 : Nat) (x3 : Int32) (s0 : Int32) (σ : St) : Option (Int32 × St) :=
  nm (x3 + (1 : Int32)) fun (y101 : Int32) =>
  k4 s0 y101 σ
set_option maxHeartbeats 4000000 in
set_option maxRecDepth 100000 in
theorem tX10_worstOf_26 {l : Launch} {D : va_G} {cA : ClassId} {bs : Nat} {ad : Nat → Nat} {p : Program} {e : Env} {s : State} {m : MethodId} {args : Array Value} {below : List Frame} {meth : Method} {c : Code} {fu : Nat} (C : Cx D cA bs ad RX10 cX10_worstOf 4 (some .int) p s m args meth c) {k4 : Int32 → Int32 → St → Option (Int32 × St)} {x0 : Nat} {x1 : Nat} {x3 : Int32} {s0 : Int32} {q : Int32 × St} (hx0 : xk x0 = 8) (hx1 : xk x1 = 16) (hk4 : ∀ (x2 : Int32) (x3 : Int32) (σ : St), k4 x2 x3 σ = some q → Y D cA bs ad p l e (rmY 0 0) s m args below meth c 4 0 0 (QM D cA bs ad below args s (some (.int q.1)) q.2) σ 4 [(0, .ref (ad x0)), (1, .ref (ad x1)), (2, .int x2), (3, .int x3)] []) {σ : St} (h : fX10_worstOf_26 fu k4 x0 x1 x3 s0 σ = some q) : Y D cA bs ad p l e (rmY 0 0) s m args below meth c 4 0 0 (QM D cA bs ad below args s (some (.int q.1)) q.2) σ 26 [(0, .ref (ad x0)), (1, .ref (ad x1)), (3, .int x3)] [.int s0] := by
  unfold fX10_worstOf_26 at h
  refine y_istore_n (pc := 26) (lv' := [(2, .int s0), (0, .ref (ad x0)), (1, .ref (ad x1)), (3, .int x3)]) C dX10_worstOf_26 rfl (by decide) rfl ?_
  obtain ⟨y101, ey101, h⟩ := nmS h
  refine y_iinc (pc := 27) (v := y101) (k := 3) (lv' := [(3, .int y101), (2, .int s0), (0, .ref (ad x0)), (1, .ref (ad x1))]) C dX10_worstOf_27 rfl (by rw [ey101]; rfl) (by decide) rfl ?_
  refine y_goto (pc := 30) (tgt := 4) C dX10_worstOf_30 (by decide) ?_
  refine y_sub [2, 3, 1, 0] (lv' := [(0, .ref (ad x0)), (1, .ref (ad x1)), (2, .int s0), (3, .int y101)]) rfl ?_
  exact hk4 _ _ _ h
noncomputable def fX10_worstOf_4b (fu : Nat) (k4 : Int32 → Int32 → St → Option (Int32 × St)) (x0 : Nat) (x1 : Nat) (x2 : Int32) (x3 : Int32) (σ : St) : Option (Int32 × St) :=
  if (σ.1 x0 12) ≤ x3 then
    some (x2, σ)
  else
    (ald σ x1 7 x3).bind fun (v102 : Int32) =>
    if v102 ≤ x2 then
      fX10_worstOf_26 fu k4 x0 x1 x3 x2 σ
    else
      (ald σ x1 7 x3).bind fun (v104 : Int32) =>
      fX10_worstOf_26 fu k4 x0 x1 x3 v104 σ
set_option maxHeartbeats 4000000 in
set_option maxRecDepth 100000 in
theorem tX10_worstOf_4b {l : Launch} {D : va_G} {cA : ClassId} {bs : Nat} {ad : Nat → Nat} {p : Program} {e : Env} {s : State} {m : MethodId} {args : Array Value} {below : List Frame} {meth : Method} {c : Code} {fu : Nat} (C : Cx D cA bs ad RX10 cX10_worstOf 4 (some .int) p s m args meth c) {k4 : Int32 → Int32 → St → Option (Int32 × St)} {x0 : Nat} {x1 : Nat} {x2 : Int32} {x3 : Int32} {q : Int32 × St} (hx0 : xk x0 = 8) (hx1 : xk x1 = 16) (hk4 : ∀ (x2 : Int32) (x3 : Int32) (σ : St), k4 x2 x3 σ = some q → Y D cA bs ad p l e (rmY 0 0) s m args below meth c 4 0 0 (QM D cA bs ad below args s (some (.int q.1)) q.2) σ 4 [(0, .ref (ad x0)), (1, .ref (ad x1)), (2, .int x2), (3, .int x3)] []) {σ : St} (h : fX10_worstOf_4b fu k4 x0 x1 x2 x3 σ = some q) : Y D cA bs ad p l e (rmY 0 0) s m args below meth c 4 0 0 (QM D cA bs ad below args s (some (.int q.1)) q.2) σ 4 [(0, .ref (ad x0)), (1, .ref (ad x1)), (2, .int x2), (3, .int x3)] [] := by
  unfold fX10_worstOf_4b at h
  refine y_iload_n (pc := 4) (q := 3) C dX10_worstOf_4 rfl rfl ?_
  refine y_aload_n (pc := 5) (q := 0) C dX10_worstOf_5 rfl rfl ?_
  refine y_geti (pc := 6) C faX10_105 rfl hx0 dX10_worstOf_6 ?_
  refine y_icmp_ge (pc := 9) (tgt := 33) C dX10_worstOf_9 (by decide) (fun c101 => ?_) (fun c101 => ?_)
  · rw [if_pos c101] at h
    refine y_iload_n (pc := 33) (q := 2) C dX10_worstOf_33 rfl rfl ?_
    cases h
    exact y_iret (pc := 34) C dX10_worstOf_34
  · rw [if_neg c101] at h
    refine y_aload_n (pc := 12) (q := 1) C dX10_worstOf_12 rfl rfl ?_
    refine y_iload_n (pc := 13) (q := 3) C dX10_worstOf_13 rfl rfl ?_
    obtain ⟨v102, ev102, h⟩ := bdS h
    refine y_iald (pc := 14) (n := 7) C hx1 (by decide) ev102 dX10_worstOf_14 ?_
    refine y_iload_n (pc := 15) (q := 2) C dX10_worstOf_15 rfl rfl ?_
    refine y_icmp_le (pc := 16) (tgt := 25) C dX10_worstOf_16 (by decide) (fun c103 => ?_) (fun c103 => ?_)
    · rw [if_pos c103] at h
      refine y_iload_n (pc := 25) (q := 2) C dX10_worstOf_25 rfl rfl ?_
      refine y_sub [0, 1, 3] (lv' := [(0, .ref (ad x0)), (1, .ref (ad x1)), (3, .int x3)]) rfl ?_
      exact tX10_worstOf_26 (fu := fu) C hx0 hx1 hk4 h
    · rw [if_neg c103] at h
      refine y_aload_n (pc := 19) (q := 1) C dX10_worstOf_19 rfl rfl ?_
      refine y_iload_n (pc := 20) (q := 3) C dX10_worstOf_20 rfl rfl ?_
      obtain ⟨v104, ev104, h⟩ := bdS h
      refine y_iald (pc := 21) (n := 7) C hx1 (by decide) ev104 dX10_worstOf_21 ?_
      refine y_goto (pc := 22) (tgt := 26) C dX10_worstOf_22 (by decide) ?_
      refine y_sub [0, 1, 3] (lv' := [(0, .ref (ad x0)), (1, .ref (ad x1)), (3, .int x3)]) rfl ?_
      exact tX10_worstOf_26 (fu := fu) C hx0 hx1 hk4 h
noncomputable def fX10_worstOf_4 (fu : Nat) (x0 : Nat) (x1 : Nat) : Nat → Int32 → Int32 → St → Option (Int32 × St) := lp (fun k4 => fX10_worstOf_4b fu k4 x0 x1) (fun _ _ _ => none)
set_option maxHeartbeats 4000000 in
theorem tX10_worstOf_4 {l : Launch} {D : va_G} {cA : ClassId} {bs : Nat} {ad : Nat → Nat} {p : Program} {e : Env} {s : State} {m : MethodId} {args : Array Value} {below : List Frame} {meth : Method} {c : Code} {fu : Nat} (C : Cx D cA bs ad RX10 cX10_worstOf 4 (some .int) p s m args meth c) {x0 : Nat} {x1 : Nat} {q : Int32 × St} (hx0 : xk x0 = 8) (hx1 : xk x1 = 16)  : ∀ (n : Nat) (x2 : Int32) (x3 : Int32) (σ : St), fX10_worstOf_4 fu  x0 x1 n x2 x3 σ = some q → Y D cA bs ad p l e (rmY 0 0) s m args below meth c 4 0 0 (QM D cA bs ad below args s (some (.int q.1)) q.2) σ 4 [(0, .ref (ad x0)), (1, .ref (ad x1)), (2, .int x2), (3, .int x3)] [] := by
  intro n
  induction n with
  | zero => intro x2 x3 σ h; cases h
  | succ n ih => intro x2 x3 σ h; exact tX10_worstOf_4b (fu := fu) C hx0 hx1 ih h
noncomputable def fX10_worstOf_0 (fu : Nat) (x0 : Nat) (x1 : Nat) (σ : St) : Option (Int32 × St) :=
  fX10_worstOf_4 fu x0 x1 fu (0 : Int32) (0 : Int32) σ
set_option maxHeartbeats 4000000 in
set_option maxRecDepth 100000 in
theorem tX10_worstOf_0 {l : Launch} {D : va_G} {cA : ClassId} {bs : Nat} {ad : Nat → Nat} {p : Program} {e : Env} {s : State} {m : MethodId} {args : Array Value} {below : List Frame} {meth : Method} {c : Code} {fu : Nat} (C : Cx D cA bs ad RX10 cX10_worstOf 4 (some .int) p s m args meth c) {x0 : Nat} {x1 : Nat} {q : Int32 × St} (hx0 : xk x0 = 8) (hx1 : xk x1 = 16) {σ : St} (h : fX10_worstOf_0 fu x0 x1 σ = some q) : Y D cA bs ad p l e (rmY 0 0) s m args below meth c 4 0 0 (QM D cA bs ad below args s (some (.int q.1)) q.2) σ 0 [(0, .ref (ad x0)), (1, .ref (ad x1))] [] := by
  unfold fX10_worstOf_0 at h
  refine y_iconst (pc := 0) (v := (0 : Int32)) C dX10_worstOf_0 (by decide) ?_
  refine y_istore_n (pc := 1) (lv' := [(2, .int (0 : Int32)), (0, .ref (ad x0)), (1, .ref (ad x1))]) C dX10_worstOf_1 rfl (by decide) rfl ?_
  refine y_iconst (pc := 2) (v := (0 : Int32)) C dX10_worstOf_2 (by decide) ?_
  refine y_istore_n (pc := 3) (lv' := [(3, .int (0 : Int32)), (2, .int (0 : Int32)), (0, .ref (ad x0)), (1, .ref (ad x1))]) C dX10_worstOf_3 rfl (by decide) rfl ?_
  refine y_sub [2, 3, 1, 0] (lv' := [(0, .ref (ad x0)), (1, .ref (ad x1)), (2, .int (0 : Int32)), (3, .int (0 : Int32))]) rfl ?_
  exact tX10_worstOf_4 (fu := fu) C hx0 hx1 fu _ _ _ h
noncomputable def fX10_worstOf (fu : Nat) (x0 : Nat) (x1 : Nat) (σ : St) : Option (Int32 × St) := if xk x0 = 8 then if xk x1 = 16 then fX10_worstOf_0 fu x0 x1 σ else none else none
theorem mX10_worstOf {l : Launch} {D : va_G} {cA : ClassId} {bs fu : Nat} {ad : Nat → Nat} {x0 : Nat} {x1 : Nat} {σ : St} {q : Int32 × St} (h : fX10_worstOf fu x0 x1 σ = some q) : Ct l D cA bs ad yX10_worstOf cX10_worstOf 4 (some .int) 0 0 [.ref (ad x0), .ref (ad x1)] σ (some (.int q.1)) q.2 := by
  unfold fX10_worstOf at h
  by_cases hx0 : xk x0 = 8
  case neg => rw [if_neg hx0] at h; cases h
  rw [if_pos hx0] at h
  by_cases hx1 : xk x1 = 16
  case neg => rw [if_neg hx1] at h; cases h
  rw [if_pos hx1] at h
  exact Ct.of (by decide) (Nat.le_of_ble_eq_true rfl) (fun p e s m args below meth c C => tX10_worstOf_0 (fu := fu) C hx0 hx1 h)
