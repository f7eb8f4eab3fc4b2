/-! THE MAKING: worlds that grow -/
def nws : List Cond := [.methodLinkNest RX9 9 yX7_init RX9, .methodLinkNest RX9 18 yX4_init RX9, .methodLinkNest RX9 35 yX6_init RX9, .methodLinkNest RX9 42 yX5_init RX9, .methodLinkNest RX5 26 yX6_init RX9, .methodLinkNest RX9 49 yX3_init RX9, .methodLinkNest RX3 20 yX6_init RX9, .methodLinkNest RX9 56 yX2_init RX9, .methodLinkNest RX7 27 yX9_isWithin RX9]
theorem nws_form : ∀ w ∈ nws, ∃ a i x h, w = Cond.methodLinkNest a i x h := by
  intro w hw
  simp only [nws, List.mem_cons, List.not_mem_nil, or_false] at hw
  rcases hw with rfl | rfl | rfl | rfl | rfl | rfl | rfl | rfl | rfl <;> exact ⟨_, _, _, _, rfl⟩
theorem nws_warm {s U : State} (hW : s.WarmedH U.vm) (h : ∀ w ∈ nws, va_Nw w s) : ∀ w ∈ nws, va_Nw w U := by
  intro w hw
  have h1 := h w hw
  obtain ⟨a, i, x, k, rfl⟩ := nws_form w hw
  exact va_Nw.warmM hW h1
theorem nws_same {u U : State} (he : u.vm = U.vm) (h : ∀ w ∈ nws, va_Nw w u) : ∀ w ∈ nws, va_Nw w U := by
  intro w hw
  have h1 := h w hw
  obtain ⟨a, i, x, k, rfl⟩ := nws_form w hw
  exact va_Nw.same rfl he h1
def Cz (D : va_G) (cA : ClassId) (bs : Nat) (own : String) (cc : ByteArray) (nL : Nat) (p : Program) (s : State) (m : MethodId) (args : Array Value) (meth : Method) (c : Code) : Prop :=
  p.tables.exec = Jvm.exec ∧ c.code = cc ∧ c.maxLocals = nL ∧ s.vm.findClass own = some m.cls ∧ (∀ w ∈ gwt, w.before args s = true) ∧ meth.locks = false ∧ va_K D vwCl [(cA, .int)] s ∧ bs ≤ s.heap.size ∧ ∀ w ∈ nws, va_Nw w s
def Zj (D : va_G) (cA : ClassId) (bs : Nat) (p : Program) (l : Launch) (e : Env) (R : Room) (s : State) (m : MethodId) (args : Array Value) (below : List Frame) (meth : Method) (c : Code) (nL : Nat) (Q : State → Prop) (ce sk : Nat) (pre ow : va_W) (pc : Nat) (lv : List (Nat × Value)) (st : List Value) : Prop :=
  ∀ (H : Heap) (locs : List Loc) (ls : Array Slot), va_P D vwCl (pre ++ ow) H → va_D (fun q => bs ≤ q) (pre ++ ow) → va_S (fun q => bs ≤ q) s.heap H locs → lv_has ls nL lv → W p l e R s m args below meth c H locs ce sk Q (F0 m pc ls st)
def PZ (D : va_G) (cA : ClassId) (bs : Nat) (pre ow : va_W) (U : State) : Prop := va_P D vwCl (pre ++ ow) U.heap ∧ va_D (fun q => bs ≤ q) (pre ++ ow) ∧ va_K D vwCl [(cA, .int)] U ∧ bs ≤ U.heap.size ∧ ∀ w ∈ nws, va_Nw w U
def QZ (D : va_G) (bs : Nat) (pre : va_W) (sh : va_W → Prop) : Array Value → State → Outcome → State → Prop := va_Qv sh (fun w t => va_P D vwCl (pre ++ w) t.heap ∧ va_D (fun q => bs ≤ q) (pre ++ w)) (fun q => bs ≤ q)
abbrev rmZ (fr ce sk lo : Nat) : Room := { frames := fr, cells := ce, slots := sk, locals := lo }
def CtI (l : Launch) (D : va_G) (cA : ClassId) (bs : Nat) (y : MethodName) (cc : ByteArray) (nL fr lo mc ms : Nat) (pre : va_W) (h : Nat) (ow : va_W) (sh : va_W → Prop) : Prop :=
  Met l y (.code y cc nL none :: gwt) (rmZ fr mc ms lo) (va_Pc [.ref h] (PZ D cA bs pre ow)) (QZ D bs pre sh) mc ms (fun q => bs ≤ q)
theorem CtI.of {l : Launch} {D : va_G} {cA : ClassId} {bs : Nat} {y : MethodName} {cc : ByteArray} {nL fr lo mc ms : Nat} {pre : va_W} {h : Nat} {ow : va_W} {sh : va_W → Prop} (hy : plainName y.cls = true) (hyn : y.name = "<init>") (hl : (lg_sl [.ref h]).length ≤ nL)
    (body : ∀ p e s m args below meth c, Cz D cA bs y.cls cc nL p s m args meth c → meth.name = "<init>" → meth.sig.returnType = none → Zj D cA bs p l e (rmZ fr mc ms lo) s m args below meth c nL (MQ below (QZ D bs pre sh) args s mc ms (fun q => bs ≤ q)) 0 0 pre ow 0 [(0, .ref h)] []) : CtI l D cA bs y cc nL fr lo mc ms pre h ow sh := by
  refine Met.ofW (cc := cc) (maxL := nL) (ret := none) hy rfl ?_
  intro p e s m args below meth c s₁ B hml hv
  obtain ⟨rfl, hP, hD, hK, hbs, hN⟩ := hv
  have hts := atoms_spec (ws := .code y cc nL none :: gwt) B.pre
  have hle := lv_entry [Value.ref h] (n := nL) hl
  rw [lg_entry_eq]
  exact body p e s m _ below meth c ⟨B.exec, B.bytes, hml, findClass_of_methodNamed B.named, fun w hw => hts w (List.mem_cons_of_mem _ hw), B.notSynchronized, hK, hbs, hN⟩ ((name_of_methodNamed B.named B.method).1.trans hyn) B.returns _ _ _ hP hD va_S.rf hle
theorem zat {pre ow : va_W} {j : Nat} : (pre ++ ow)[pre.length + j]? = ow[j]? := by
  rw [List.getElem?_append_right (by omega), Nat.add_sub_cancel_left]
theorem zset {pre ow : va_W} {j : Nat} {x : Nat × va_E} : (pre ++ ow).set (pre.length + j) x = pre ++ ow.set j x := by
  rw [List.set_append_right _ _ (by omega), Nat.add_sub_cancel_left]
section ZR
variable {D : va_G} {cA : ClassId} {bs : Nat} {p : Program} {l : Launch} {e : Env} {R : Room} {s : State} {m : MethodId} {args : Array Value} {below : List Frame} {meth : Method} {c : Code} {nL : Nat} {Q : State → Prop} {ce sk : Nat} {pre ow ow' : va_W} {pc : Nat} {lv lv' : List (Nat × Value)} {st : List Value} {own : String} {cc : ByteArray}
theorem z_iconst (C : Cz D cA bs own cc nL p s m args meth c) {n : Int} {v : Int32} (hd : decode cc pc = .ok (.iconst n, 1)) (hv : Int32.ofInt n = v) (kk : Zj D cA bs p l e R s m args below meth c nL Q ce sk pre ow (pc + 1) lv (.int v :: st)) : Zj D cA bs p l e R s m args below meth c nL Q ce sk pre ow pc lv (st) := fun H locs ls h2 h3 h4 h5 => lv_iconst C.1 C.2.1 hd hv (kk H locs ls h2 h3 h4 h5)
theorem z_bipush (C : Cz D cA bs own cc nL p s m args meth c) {n : Int} {v : Int32} (hd : decode cc pc = .ok (.bipush n, 2)) (hv : (Int8.ofInt n).toInt32 = v) (kk : Zj D cA bs p l e R s m args below meth c nL Q ce sk pre ow (pc + 2) lv (.int v :: st)) : Zj D cA bs p l e R s m args below meth c nL Q ce sk pre ow pc lv (st) := fun H locs ls h2 h3 h4 h5 => lv_bipush C.1 C.2.1 hd hv (kk H locs ls h2 h3 h4 h5)
theorem z_sipush (C : Cz D cA bs own cc nL p s m args meth c) {n : Int} {v : Int32} (hd : decode cc pc = .ok (.sipush n, 3)) (hv : (Int16.ofInt n).toInt32 = v) (kk : Zj D cA bs p l e R s m args below meth c nL Q ce sk pre ow (pc + 3) lv (.int v :: st)) : Zj D cA bs p l e R s m args below meth c nL Q ce sk pre ow pc lv (st) := fun H locs ls h2 h3 h4 h5 => lv_sipush C.1 C.2.1 hd hv (kk H locs ls h2 h3 h4 h5)
theorem z_dup (C : Cz D cA bs own cc nL p s m args meth c) {va : Value} (hd : decode cc pc = .ok (.dup, 1)) (hva : va.category = 1) (kk : Zj D cA bs p l e R s m args below meth c nL Q ce sk pre ow (pc + 1) lv (va :: va :: st)) : Zj D cA bs p l e R s m args below meth c nL Q ce sk pre ow pc lv (va :: st) := fun H locs ls h2 h3 h4 h5 => lv_dup C.1 C.2.1 hd hva (kk H locs ls h2 h3 h4 h5)
theorem z_iload_n (C : Cz D cA bs own cc nL p s m args meth c) {k : Fin 4} {i q : Nat} {x : Int32} (hd : decode cc pc = .ok (.iload_n k, 1)) (hi : (k : Nat) = i) (hq : lv[q]? = some (i, .int x)) (kk : Zj D cA bs p l e R s m args below meth c nL Q ce sk pre ow (pc + 1) lv (.int x :: st)) : Zj D cA bs p l e R s m args below meth c nL Q ce sk pre ow pc lv st := fun H locs ls h2 h3 h4 h5 => lv_iload_n C.1 C.2.1 hd hi (lv_at h5 q hq) (kk H locs ls h2 h3 h4 h5)
theorem z_istore_n (C : Cz D cA bs own cc nL p s m args meth c) {k : Fin 4} {i : Nat} {x : Int32} (hd : decode cc pc = .ok (.istore_n k, 1)) (hi : (k : Nat) = i) (hn : i < nL) (hl : (i, Value.int x) :: lv.filter (fun q => !(q.1 == i) && !(q.1 + 1 == i && q.2.category == 2)) = lv') (kk : Zj D cA bs p l e R s m args below meth c nL Q ce sk pre ow (pc + 1) lv' st) : Zj D cA bs p l e R s m args below meth c nL Q ce sk pre ow pc lv (.int x :: st) := fun H locs ls h2 h3 h4 h5 => lv_istore_n C.1 C.2.1 hd hi h5 hn hl (fun ls' h6 => kk H locs ls' h2 h3 h4 h6)
theorem z_aload_n (C : Cz D cA bs own cc nL p s m args meth c) {k : Fin 4} {i q : Nat} {x : Nat} (hd : decode cc pc = .ok (.aload_n k, 1)) (hi : (k : Nat) = i) (hq : lv[q]? = some (i, .ref x)) (kk : Zj D cA bs p l e R s m args below meth c nL Q ce sk pre ow (pc + 1) lv (.ref x :: st)) : Zj D cA bs p l e R s m args below meth c nL Q ce sk pre ow pc lv st := fun H locs ls h2 h3 h4 h5 => lv_aload_n C.1 C.2.1 hd hi (lv_at h5 q hq) (kk H locs ls h2 h3 h4 h5)
theorem z_astore_n (C : Cz D cA bs own cc nL p s m args meth c) {k : Fin 4} {i : Nat} {x : Nat} (hd : decode cc pc = .ok (.astore_n k, 1)) (hi : (k : Nat) = i) (hn : i < nL) (hl : (i, Value.ref x) :: lv.filter (fun q => !(q.1 == i) && !(q.1 + 1 == i && q.2.category == 2)) = lv') (kk : Zj D cA bs p l e R s m args below meth c nL Q ce sk pre ow (pc + 1) lv' st) : Zj D cA bs p l e R s m args below meth c nL Q ce sk pre ow pc lv (.ref x :: st) := fun H locs ls h2 h3 h4 h5 => lv_astore_n C.1 C.2.1 hd hi h5 hn hl (fun ls' h6 => kk H locs ls' h2 h3 h4 h6)
theorem z_iinc (C : Cz D cA bs own cc nL p s m args meth c) {i k : Nat} {n : Int} {x v : Int32} (hd : decode cc pc = .ok (.iinc i n, 3)) (hk : lv[k]? = some (i, .int x)) (hv : x + Int32.ofInt n = v) (hn : i < nL) (hl : (i, Value.int v) :: lv.filter (fun q => !(q.1 == i) && !(q.1 + 1 == i && q.2.category == 2)) = lv') (kk : Zj D cA bs p l e R s m args below meth c nL Q ce sk pre ow (pc + 3) lv' st) : Zj D cA bs p l e R s m args below meth c nL Q ce sk pre ow pc lv st := fun H locs ls h2 h3 h4 h5 => lv_iinc C.1 C.2.1 hd h5 hk hv hn hl (fun ls' h6 => kk H locs ls' h2 h3 h4 h6)
theorem z_goto (C : Cz D cA bs own cc nL p s m args meth c) {off : Int} {tgt : Nat} (hd : decode cc pc = .ok (.goto off, 3)) (ht : (pc : Int) + off = (tgt : Int)) (kk : Zj D cA bs p l e R s m args below meth c nL Q ce sk pre ow tgt lv st) : Zj D cA bs p l e R s m args below meth c nL Q ce sk pre ow pc lv st := fun H locs ls h2 h3 h4 h5 => lv_goto C.1 C.2.1 hd ht (kk H locs ls h2 h3 h4 h5)
theorem z_icmp_ge (C : Cz D cA bs own cc nL p s m args meth c) {x y : Int32} {off : Int} {tgt : Nat} (hd : decode cc pc = .ok (.if_icmp .ge off, 3)) (ht : (pc : Int) + off = (tgt : Int)) (kt : y ≤ x → Zj D cA bs p l e R s m args below meth c nL Q ce sk pre ow tgt lv st) (kf : ¬ y ≤ x → Zj D cA bs p l e R s m args below meth c nL Q ce sk pre ow (pc + 3) lv st) : Zj D cA bs p l e R s m args below meth c nL Q ce sk pre ow pc lv (.int y :: .int x :: st) := fun H locs ls h2 h3 h4 h5 => lv_icmp_ge C.1 C.2.1 hd ht (fun q => kt q H locs ls h2 h3 h4 h5) (fun q => kf q H locs ls h2 h3 h4 h5)
theorem z_obj (C : Cz D cA bs own cc nL p s m args meth c) {idx a : Nat} (hw : Cond.methodLink own idx Lib.objectInit ∈ gwt ∧ Cond.instanceMethod Lib.objectInit ∈ gwt ∧ Cond.code Lib.objectInit ⟨#[0xb1]⟩ 1 none ∈ gwt) (hd : decode cc pc = .ok (.invokespecial idx, 3)) (hfr : 1 ≤ R.frames) (hlo : (st.map fun v => v.category).sum + 12 ≤ R.locals) (kk : Zj D cA bs p l e R s m args below meth c nL Q ce sk pre ow (pc + 3) lv st) : Zj D cA bs p l e R s m args below meth c nL Q ce sk pre ow pc lv (.ref a :: st) := fun H locs ls h2 h3 h4 h5 => W.objInit C.1 C.2.1 C.2.2.2.1 (C.2.2.2.2.1 _ hw.1) (C.2.2.2.2.1 _ hw.2.1) (C.2.2.2.2.1 _ hw.2.2) rfl (by rw [C.2.2.1]; exact h5.1) rfl hd hfr (by show 2 * 0 + _ + 12 ≤ _; omega) (kk H locs ls h2 h3 h4 h5)
def NWd (own : String) (index ci : Nat) (Cn : String) (T : u_T) (N : Nat) (ty : Nat → FieldType) : Prop := vwCl[ci]? = some (Cn, T, N) ∧ (∀ w ∈ u_ws Cn T N, w ∈ gwt) ∧ (∀ k, k < N → parseFieldDescriptor (T k).2.2.1 = some (ty k)) ∧ Cond.classLink own index Cn ∈ gwt ∧ Cond.instantiable Cn N ∈ gwt ∧ Cond.initialized Cn ∈ gwt
theorem z_new (C : Cz D cA bs own cc nL p s m args meth c) {index ci N : Nat} {Cn : String} {T : u_T} {ty : Nat → FieldType} {fs : List Value} (hw : NWd own index ci Cn T N ty) (hfs : ∀ j, j < N → defaultValue (ty j) = vp_V fs j) (hd : decode cc pc = .ok (.new index, 3)) (hR : ce + 1 ≤ R.cells ∧ sk + N ≤ R.slots) (kk : ∀ q : Nat, Zj D cA bs p l e R s m args below meth c nL Q (ce + 1) (sk + N) pre (ow ++ [(q, .inr (ci, fs))]) (pc + 3) lv (.ref q :: st)) : Zj D cA bs p l e R s m args below meth c nL Q ce sk pre ow pc lv st := by
  intro H locs ls h2 h3 h4 h5
  obtain ⟨g1, g2, g3, g4, g5, g6⟩ := hw
  refine va_new C.1 C.2.1 C.2.2.2.2.1 g2 ty g3 C.2.2.2.1 (C.2.2.2.2.1 _ g4) (C.2.2.2.2.1 _ g5) (C.2.2.2.2.1 _ g6) C.2.2.2.2.2.2.1 h2 h3 h4 (fun q hq => Nat.le_trans C.2.2.2.2.2.2.2.1 hq) g1 hfs hR.1 hR.2 hd (fun q H1 hP hD hS => ?_)
  rw [List.append_assoc] at hP hD
  exact kk q H1 locs ls hP hD hS h5
theorem z_newa (C : Cz D cA bs own cc nL p s m args meth c) {n : Int32} {N : Nat} (ha : Cond.arrayClass .int ∈ gwt) (hn : ¬ n < 0) (hN : n.toNatClampNeg = N) (hb : N * componentBytes .int ≤ 536870912) (hd : decode cc pc = .ok (.newarray .int, 2)) (hR : ce + 1 ≤ R.cells ∧ sk + N ≤ R.slots) (kk : ∀ q : Nat, Zj D cA bs p l e R s m args below meth c nL Q (ce + 1) (sk + N) pre (ow ++ [(q, .inl (cA, N, .inl (fun _ => 0)))]) (pc + 2) lv (.ref q :: st)) : Zj D cA bs p l e R s m args below meth c nL Q ce sk pre ow pc lv (.int n :: st) := by
  intro H locs ls h2 h3 h4 h5
  refine va_newa (atype := .int) (ty := .int) (a0 := (N, .inl (fun _ => 0))) C.1 C.2.1 (C.2.2.2.2.1 _ ha) rfl C.2.2.2.2.2.2.1 h2 h3 h4 (fun q hq => Nat.le_trans C.2.2.2.2.2.2.2.1 hq) (fun _ => rfl) hn hN hb hR.1 hR.2 hd (fun q cA' H1 hK hP hD hS => ?_)
  have hcA : cA' = cA := by
    have h7 : s.vm.findClass ("[" ++ FieldType.int.toString) = some cA := (C.2.2.2.2.2.2.1.2 0 _ rfl).2
    have h8 : s.vm.findClass ("[" ++ FieldType.int.toString) = some cA' := (hK.2 1 _ rfl).2
    exact Option.some.inj (h8.symm.trans h7)
  subst hcA
  rw [List.append_assoc] at hP hD
  exact kk q H1 locs ls hP hD hS h5
def FF (own : String) (index ci k : Nat) (ty : FieldType) : Prop := ∃ (Cn : String) (T : u_T) (N : Nat) (ty0 : Nat → FieldType), (vwCl[ci]? = some (Cn, T, N) ∧ (∀ w ∈ u_ws Cn T N, w ∈ gwt) ∧ k < N ∧ nf ci = N ∧ Cond.fieldLink own index (T k).1 (T k).2.1 (T k).2.2.1 ∈ gwt ∧ ci < 9 ∧ (∀ k, k < N → parseFieldDescriptor (T k).2.2.1 = some (ty0 k)) ∧ (∀ a, a < N → ∀ b, b < N → a ≠ b → (T a).2.1 ≠ (T b).2.1)) ∧ (T k).2.2.2 = true ∧ parseFieldDescriptor (T k).2.2.1 = some ty ∧ (T k).1 = own
theorem z_putF (C : Cz D cA bs own cc nL p s m args meth c) (hin : meth.name = "<init>") {index ci k a : Nat} (j : Nat) {fs : List Value} {ty : FieldType} {v : Value} (hf : FF own index ci k ty) (he : ow[j]? = some (a, .inr (ci, fs))) (hn : narrow ty v = v) (hfit : fits ty v = true) (hl : k < fs.length) (hd : decode cc pc = .ok (.putfield index, 3)) (ho : ow.set j (a, .inr (ci, fs.set k v)) = ow') (kk : Zj D cA bs p l e R s m args below meth c nL Q ce sk pre ow' (pc + 3) lv st) : Zj D cA bs p l e R s m args below meth c nL Q ce sk pre ow pc lv (v :: .ref a :: st) := by
  intro H locs ls h2 h3 h4 h5
  obtain ⟨Cn, T, N, ty0, ⟨g1, g2, g3, g4, g5, g6, g7, g8⟩, g9, g10, g11⟩ := hf
  subst ho
  refine va_putF C.1 C.2.1 C.2.2.2.2.1 g2 ty0 g7 g8 C.2.2.2.1 C.2.2.2.2.2.2.1 h2 h3 h4 (pre.length + j) (zat.trans he) g1 k g3 (C.2.2.2.2.1 _ g5) (fun _ q => q) g9 hin g11 g10 hn hfit hl hd (fun H1 locs1 hP hD hS => ?_)
  rw [zset] at hP hD
  exact kk H1 locs1 ls hP hD hS h5
theorem z_put (C : Cz D cA bs own cc nL p s m args meth c) {index ci k a : Nat} (j : Nat) {fs : List Value} {ty : FieldType} {v : Value} (hf : FP own index ci k ty) (he : ow[j]? = some (a, .inr (ci, fs))) (hn : narrow ty v = v) (hfit : fits ty v = true) (hl : k < fs.length) (hd : decode cc pc = .ok (.putfield index, 3)) (ho : ow.set j (a, .inr (ci, fs.set k v)) = ow') (kk : Zj D cA bs p l e R s m args below meth c nL Q ce sk pre ow' (pc + 3) lv st) : Zj D cA bs p l e R s m args below meth c nL Q ce sk pre ow pc lv (v :: .ref a :: st) := by
  intro H locs ls h2 h3 h4 h5
  obtain ⟨Cn, T, N, ty0, ⟨g1, g2, g3, g4, g5, g6, g7, g8⟩, g9, g10⟩ := hf
  subst ho
  refine va_put C.1 C.2.1 C.2.2.2.2.1 g2 ty0 g7 g8 C.2.2.2.1 C.2.2.2.2.2.2.1 h2 h3 h4 (pre.length + j) (zat.trans he) g1 k g3 (C.2.2.2.2.1 _ g5) (fun _ q => q) g9 g10 hn hfit hl hd (fun H1 locs1 hP hD hS => ?_)
  rw [zset] at hP hD
  exact kk H1 locs1 ls hP hD hS h5
theorem z_get (C : Cz D cA bs own cc nL p s m args meth c) {index ci k a : Nat} (j : Nat) {fs : List Value} {v : Value} (hf : FA own index ci k) (he : ow[j]? = some (a, .inr (ci, fs))) (hv : fs[k]? = some v) (hd : decode cc pc = .ok (.getfield index, 3)) (kk : Zj D cA bs p l e R s m args below meth c nL Q ce sk pre ow (pc + 3) lv (v :: st)) : Zj D cA bs p l e R s m args below meth c nL Q ce sk pre ow pc lv (.ref a :: st) := by
  intro H locs ls h2 h3 h4 h5
  obtain ⟨Cn, T, N, ty0, g1, g2, g3, g4, g5, g6, g7, g8⟩ := hf
  exact va_get C.1 C.2.1 C.2.2.2.2.1 g2 C.2.2.2.1 C.2.2.2.2.2.2.1 h2 (pre.length + j) (zat.trans he) g1 k g3 (C.2.2.2.2.1 _ g5) (fun _ q => q) hv hd (kk H locs ls h2 h3 h4 h5)
theorem z_iast (C : Cz D cA bs own cc nL p s m args meth c) {a n : Nat} (j : Nat) {i x : Int32} {f : Nat → Int32} (he : ow[j]? = some (a, .inl (cA, n, .inl f))) (hi : vp_in i n) (hd : decode cc pc = .ok (.iastore, 1)) (ho : ow.set j (a, .inl (cA, n, .inl (upd f i.toNatClampNeg x))) = ow') (kk : Zj D cA bs p l e R s m args below meth c nL Q ce sk pre ow' (pc + 1) lv st) : Zj D cA bs p l e R s m args below meth c nL Q ce sk pre ow pc lv (.int x :: .int i :: .ref a :: st) := by
  intro H locs ls h2 h3 h4 h5
  subst ho
  refine va_iast C.1 C.2.1 C.2.2.2.2.2.2.1 h2 h3 h4 (pre.length + j) 0 (zat.trans he) rfl hi hd (fun H1 locs1 hP hD hS => ?_)
  rw [zset] at hP hD
  exact kk H1 locs1 ls hP hD hS h5
theorem zt_blind {h : Nat} : FrameBlind (va_Pc [Value.ref h] (PZ D cA bs pre ow)) := fun a U g mk q => by
  obtain ⟨q0, qP, qD, qK, qb, qN⟩ := q
  exact ⟨q0, qP, qD, va_K.moved (u := U) (U := U.calling g mk a) (Vm.Alike.refl U.vm) qK, qb, nws_same (u := U) (U := U.calling g mk a) rfl qN⟩
def IW (y : MethodName) (bytes : ByteArray) (maxL : Nat) : Prop := Cond.instanceMethod y ∈ gwt ∧ Cond.initialized y.cls ∈ gwt ∧ Cond.code y bytes maxL none ∈ gwt ∧ y.name = "<init>" ∧ y.cls ≠ "java/lang/invoke/MethodHandle" ∧ y.cls ≠ "java/lang/invoke/VarHandle" ∧ (parseMethodDescriptor y.desc).map (fun d => d.parameters.length) = some 0
theorem z_after {ow1 : va_W} {h mc ms : Nat} {sh : va_W → Prop} (hr : ∀ (H : Heap) (locs : List Loc) (ls : Array Slot), va_P D vwCl (pre ++ ow) H → va_D (fun q => bs ≤ q) (pre ++ ow) → va_S (fun q => bs ≤ q) s.heap H locs → lv_has ls nL lv → va_Run p l e R s m args below meth c H locs ce sk mc ms (F0 m pc ls (.ref h :: st)) st (QZ D bs (pre ++ ow1) sh [Value.ref h].toArray) (fun q => bs ≤ q)) (kk : ∀ w, sh w → Zj D cA bs p l e R s m args below meth c nL Q (ce + mc) (sk + ms) pre (ow1 ++ w) (pc + 3) lv st) : Zj D cA bs p l e R s m args below meth c nL Q ce sk pre ow pc lv (.ref h :: st) := by
  intro H locs ls h2 h3 h4 h5
  refine va_callv (hr H locs ls h2 h3 h4 h5) h4 (fun _ _ q => q) (fun _ q => q) (fun u t H1 locs1 ht hvm hw hB hz1 hk1 hS => ?_)
  obtain ⟨hP, hD⟩ := hB
  rw [ht, List.append_assoc] at hP
  rw [List.append_assoc] at hD
  exact kk u hw H1 locs1 ls hP hD hS h5
theorem z_callI (C : Cz D cA bs own cc nL p s m args meth c) {index maxL fr lo mc ms h : Nat} {y : MethodName} {bytes : ByteArray} {ow1 : va_W} {x : Nat × va_E} {sh : va_W → Prop} (hM : CtI l D cA bs y bytes maxL fr lo mc ms (pre ++ ow1) h [x] sh) (hw : IW y bytes maxL) (hlk : Cond.methodLink own index y ∈ gwt) (ho : ow = ow1 ++ [x]) (hrest : (st.map fun v => v.category).sum ≤ 8) (hR : fr + 1 ≤ R.frames ∧ 8 + (maxL + 11) + lo ≤ R.locals) (hce : ce + mc ≤ R.cells ∧ sk + ms ≤ R.slots) (hd : decode cc pc = .ok (.invokespecial index, 3)) (kk : ∀ w, sh w → Zj D cA bs p l e R s m args below meth c nL Q (ce + mc) (sk + ms) pre (ow1 ++ w) (pc + 3) lv st) : Zj D cA bs p l e R s m args below meth c nL Q ce sk pre ow pc lv (.ref h :: st) := by
  obtain ⟨hx, hb, hml, hown, hts, hlk', hK, hbs, hN⟩ := C
  obtain ⟨w2, w4, w5, w7, w6⟩ := hw
  refine z_after (ow1 := ow1) (fun H locs ls h2 h3 h4 h5 => ?_) kk
  exact va_runI (As := []) (rest := st) ⟨hx, hb, hml, hown, hts⟩ hM ⟨callB_of 0 hts (good_cons w5) rfl rfl rfl (hts _ w4) (hts _ hlk) w6 hR, w7, hts _ w2⟩ ⟨zt_blind, fun U hU hW => ⟨rfl, by rw [hU, List.append_assoc, ← ho]; exact h2, by rw [List.append_assoc, ← ho]; exact h3, va_K.moved hW.alike hK, by rw [hU]; exact Nat.le_trans hbs h4.1, nws_warm hW hN⟩⟩ rfl rfl h5.1 rfl (lv_room hrest) hd hce
theorem z_callIN (C : Cz D cA bs own cc nL p s m args meth c) {index maxL fr lo mc ms h : Nat} {host : String} {y : MethodName} {bytes : ByteArray} {ow1 : va_W} {x : Nat × va_E} {sh : va_W → Prop} (hM : CtI l D cA bs y bytes maxL fr lo mc ms (pre ++ ow1) h [x] sh) (hw : IW y bytes maxL) (hlk : Cond.methodLinkNest own index y host ∈ nws) (ho : ow = ow1 ++ [x]) (hrest : (st.map fun v => v.category).sum ≤ 8) (hR : fr + 1 ≤ R.frames ∧ 8 + (maxL + 11) + lo ≤ R.locals) (hce : ce + mc ≤ R.cells ∧ sk + ms ≤ R.slots) (hd : decode cc pc = .ok (.invokespecial index, 3)) (kk : ∀ w, sh w → Zj D cA bs p l e R s m args below meth c nL Q (ce + mc) (sk + ms) pre (ow1 ++ w) (pc + 3) lv st) : Zj D cA bs p l e R s m args below meth c nL Q ce sk pre ow pc lv (.ref h :: st) := by
  obtain ⟨hx, hb, hml, hown, hts, hlk', hK, hbs, hN⟩ := C
  obtain ⟨w2, w4, w5, w7, w6⟩ := hw
  refine z_after (ow1 := ow1) (fun H locs ls h2 h3 h4 h5 => ?_) kk
  exact va_runIN (As := []) (rest := st) (host := host) ⟨hx, hb, hml, hown, hts⟩ hM ⟨va_cnB 0 hts (good_cons w5) rfl rfl rfl (hN _ hlk) (hts _ w4) w6 hR, w7, hts _ w2⟩ ⟨zt_blind, fun U hU hW => ⟨rfl, by rw [hU, List.append_assoc, ← ho]; exact h2, by rw [List.append_assoc, ← ho]; exact h3, va_K.moved hW.alike hK, by rw [hU]; exact Nat.le_trans hbs h4.1, nws_warm hW hN⟩⟩ rfl rfl h5.1 rfl (lv_room hrest) hd hce
theorem z_vret (C : Cz D cA bs own cc nL p s m args meth c) (hr : meth.sig.returnType = none) {sh : va_W → Prop} (hs : sh ow) (hd : decode cc pc = .ok (.return_, 1)) : Zj D cA bs p l e R s m args below meth c nL (MQ below (QZ D bs pre sh) args s ce sk (fun q => bs ≤ q)) ce sk pre ow pc lv [] := fun H locs ls h2 h3 h4 h5 => W.vret C.1 C.2.1 hr (fun t ht hW => ⟨⟨ow, rfl, hs, by rw [ht]; exact h2, h3⟩, h4.F ht⟩) h4.2.2 hd C.2.2.2.2.2.1
end ZR
