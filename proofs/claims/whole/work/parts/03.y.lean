/-! THE SHAPE OF THE SYSTEM'S HEAP: 56 cells in the order in which the constructors make them; references never change behind the constructors, so a state is the ints of all cells, and one long -/
abbrev St : Type := (Nat → Nat → Int32) × Int64
/-- what a cell is: the number of its class in vwCl, or 9 and the length of an int array -/
def xk (i : Nat) : Nat := [7, 5, 25, 2, 6, 16, 16, 16, 16, 16, 16, 16, 6, 16, 16, 16, 16, 16, 16, 16, 4, 16, 3, 2057, 2057, 58, 17, 4, 16, 1, 137, 16, 4, 16, 0, 6, 16, 16, 16, 16, 16, 16, 16, 8, 25, 16, 16, 16, 16, 16, 16, 16, 16, 16, 16, 51].getD i 9
/-- how many fields a class has -/
def nf (c : Nat) : Nat := [3, 4, 4, 7, 2, 2, 8, 13, 32].getD c 0
/-- what a field is: 0 an int, 1 a reference, 2 a long -/
def kd (c k : Nat) : Nat := ([[1, 0, 0], [1, 1, 1, 0], [0, 0, 0, 0], [1, 1, 1, 1, 1, 0, 0], [1, 0], [1, 0], [1, 1, 1, 1, 1, 1, 1, 0], [1, 1, 1, 1, 1, 1, 1, 1, 0, 0, 0, 0, 0], [1, 0, 0, 0, 0, 0, 0, 0, 0, 0, 0, 0, 0, 1, 1, 1, 1, 1, 1, 1, 1, 1, 1, 0, 0, 0, 0, 0, 0, 0, 1, 2]].getD c []).getD k 0
/-- where a reference leads -/
def rf (i k : Nat) : Nat := match i with
  | 0 => [1, 3, 4, 12, 20, 22, 29, 34].getD k 0
  | 1 => 2
  | 20 => 21
  | 22 => 23 + k
  | 27 => 28
  | 29 => 30 + k
  | 32 => 33
  | 34 => 35
  | 43 => [44, 0, 0, 0, 0, 0, 0, 0, 0, 0, 0, 0, 0, 45, 46, 47, 48, 49, 50, 51, 52, 53, 54, 0, 0, 0, 0, 0, 0, 0, 55, 0].getD k 0
  | i => i + 1 + k
def vl (ad : Nat → Nat) (σ : St) (i k : Nat) : Value := if kd (xk i) k = 1 then .ref (ad (rf i k)) else if kd (xk i) k = 2 then .long σ.2 else .int (σ.1 i k)
def cel (ad : Nat → Nat) (cA : ClassId) (σ : St) (i : Nat) : va_E := if 9 < xk i then .inl (cA, xk i - 9, .inl (σ.1 i)) else .inr (xk i, (List.range (nf (xk i))).map (vl ad σ i))
def wld (ad : Nat → Nat) (cA : ClassId) (σ : St) : va_W := (List.range 56).map (fun i => (ad i, cel ad cA σ i))
theorem xk_lt {i : Nat} (h : xk i ≠ 9) : i < 56 := by
  rcases Nat.lt_or_ge i 56 with q | q
  · exact q
  · exfalso
    apply h
    unfold xk
    rw [List.getD_eq_getElem?_getD, List.getElem?_eq_none (by simpa using q)]
    rfl
theorem wld_at {ad : Nat → Nat} {cA : ClassId} {σ : St} {i : Nat} (h : i < 56) : (wld ad cA σ)[i]? = some (ad i, cel ad cA σ i) := by
  simp [wld, h]
def AdOK (bs : Nat) (ad : Nat → Nat) : Prop := (∀ i j, i < 56 → j < 56 → ad i = ad j → i = j) ∧ ∀ i, i < 56 → bs ≤ ad i
theorem wld_D {bs : Nat} {ad : Nat → Nat} {cA : ClassId} {σ : St} (hA : AdOK bs ad) : va_D (fun q => bs ≤ q) (wld ad cA σ) := by
  refine ⟨fun i j p q hp hq e => ?_, fun k q hq => ?_⟩
  · have hi : i < 56 := by have := (List.getElem?_eq_some_iff.mp hp).1; simpa [wld] using this
    have hj : j < 56 := by have := (List.getElem?_eq_some_iff.mp hq).1; simpa [wld] using this
    rw [wld_at hi] at hp
    rw [wld_at hj] at hq
    cases hp; cases hq
    exact hA.1 i j hi hj e
  · have hk : k < 56 := by have := (List.getElem?_eq_some_iff.mp hq).1; simpa [wld] using this
    rw [wld_at hk] at hq
    cases hq
    exact hA.2 k hk
theorem wld_set {ad : Nat → Nat} {cA : ClassId} {σ σ' : St} {i : Nat} {e : va_E} (he : cel ad cA σ' i = e) (ho : ∀ j, j ≠ i → cel ad cA σ' j = cel ad cA σ j) : (wld ad cA σ).set i (ad i, e) = wld ad cA σ' := by
  apply List.ext_getElem?
  intro k
  by_cases hk : k < 56
  · rw [wld_at hk]
    by_cases hki : k = i
    · subst hki
      rw [List.getElem?_set_self (by simpa [wld] using hk), he]
    · rw [List.getElem?_set_ne (fun q => hki q.symm), wld_at hk, ho k hki]
  · rw [List.getElem?_eq_none (by simpa [wld] using Nat.not_lt.mp hk), List.getElem?_eq_none (by simpa [wld] using Nat.not_lt.mp hk)]
/-! the state's changes -/
def si (σ : St) (a k : Nat) (v : Int32) : St := (fun i => if i = a then upd (σ.1 a) k v else σ.1 i, σ.2)
def sl (σ : St) (v : Int64) : St := (σ.1, v)
def sc (σ : St) (a : Nat) (f : Nat → Int32) : St := (fun i => if i = a then f else σ.1 i, σ.2)
def ald (σ : St) (a n : Nat) (i : Int32) : Option Int32 := if i < 0 ∨ n ≤ i.toNatClampNeg then none else some (σ.1 a i.toNatClampNeg)
def ast (σ : St) (a n : Nat) (i x : Int32) : Option St := if i < 0 ∨ n ≤ i.toNatClampNeg then none else some (si σ a i.toNatClampNeg x)
def nm {α β : Type} (e : α) (f : α → β) : β := f e
def lp {α : Type} (b : α → α) (z : α) : Nat → α
  | 0 => z
  | n + 1 => b (lp b z n)
theorem bdS {α β : Type} {o : Option α} {f : α → Option β} {x : β} (h : o.bind f = some x) : ∃ v, o = some v ∧ f v = some x := by
  cases o with
  | none => cases h
  | some v => exact ⟨v, rfl, h⟩
theorem nmS {α β : Type} {e : α} {f : α → Option β} {x : β} (h : nm e f = some x) : ∃ v, v = e ∧ f v = some x := ⟨e, rfl, h⟩
theorem cel_si_ne {ad : Nat → Nat} {cA : ClassId} {σ : St} {a k : Nat} {v : Int32} {j : Nat} (h : j ≠ a) : cel ad cA (si σ a k v) j = cel ad cA σ j := by
  unfold cel
  by_cases q : 9 < xk j
  · rw [if_pos q, if_pos q]
    simp [si, h]
  · rw [if_neg q, if_neg q]
    congr 2
    exact List.map_congr_left (fun x _ => by simp [vl, si, h])
theorem cel_sc_ne {ad : Nat → Nat} {cA : ClassId} {σ : St} {a : Nat} {f : Nat → Int32} {j : Nat} (h : j ≠ a) : cel ad cA (sc σ a f) j = cel ad cA σ j := by
  unfold cel
  by_cases q : 9 < xk j
  · rw [if_pos q, if_pos q]
    simp [sc, h]
  · rw [if_neg q, if_neg q]
    congr 2
    exact List.map_congr_left (fun x _ => by simp [vl, sc, h])
theorem cel_arr {ad : Nat → Nat} {cA : ClassId} {σ : St} {a n : Nat} (h : xk a = n + 9) (hn : 0 < n) : cel ad cA σ a = .inl (cA, n, .inl (σ.1 a)) := by
  unfold cel
  rw [if_pos (by omega), h, Nat.add_sub_cancel]
theorem cel_obj {ad : Nat → Nat} {cA : ClassId} {σ : St} {a ci : Nat} (h : xk a = ci) (hc : ci < 9) : cel ad cA σ a = .inr (ci, (List.range (nf ci)).map (vl ad σ a)) := by
  unfold cel
  rw [if_neg (by omega), h]
theorem rfx (ci k v : Nat) (h : (List.range 56).all (fun a => xk a != ci || xk (rf a k) == v) = true) (hc : ci ≠ 9) : ∀ a, xk a = ci → xk (rf a k) = v := by
  intro a ha
  have hl : a < 56 := xk_lt (by omega)
  have h1 := List.all_eq_true.mp h a (List.mem_range.mpr hl)
  simp only [Bool.or_eq_true, bne_iff_ne, beq_iff_eq] at h1
  rcases h1 with h1 | h1
  · exact absurd ha h1
  · exact h1
/-! THE WORDS: every method's contract takes all the tables' words -/
def gwt : List Cond := lw_tbl.filter goodWord
theorem gw_of {w : Cond} (i : Nat) (h : lw_tbl[i]? = some w) (hg : goodWord w = true) : w ∈ gwt := List.mem_filter.mpr ⟨List.mem_of_getElem? h, hg⟩
theorem good_in : GoodIn gwt gwt := fun w hw => ⟨hw, good_of_word (List.mem_filter.mp hw).2⟩
abbrev nwW : Cond := .methodLinkNest RX7 27 yX9_isWithin RX9
theorem good_cons {w : Cond} (h : w ∈ gwt) : GoodIn gwt (w :: gwt) := fun v hv => by
  rcases List.mem_cons.mp hv with rfl | hv
  · exact good_in _ h
  · exact good_in _ hv
/-- what a method's body knows: the machine, its code, the tables' words, the classes -/
def Cx (D : va_G) (cA : ClassId) (bs : Nat) (ad : Nat → Nat) (own : String) (cc : ByteArray) (nL : Nat) (ret : Option FieldType) (p : Program) (s : State) (m : MethodId) (args : Array Value) (meth : Method) (c : Code) : Prop :=
  p.tables.exec = Jvm.exec ∧ c.code = cc ∧ c.maxLocals = nL ∧ s.vm.findClass own = some m.cls ∧ (∀ w ∈ gwt, w.before args s = true) ∧ meth.locks = false ∧ va_K D vwCl [(cA, .int)] s ∧ meth.sig.returnType = ret ∧ va_Nw nwW s ∧ AdOK bs ad
/-- the machine at pc, with locals and stack, the system's state σ: it comes to Q -/
def Y (D : va_G) (cA : ClassId) (bs : Nat) (ad : Nat → Nat) (p : Program) (l : Launch) (e : Env) (R : Room) (s : State) (m : MethodId) (args : Array Value) (below : List Frame) (meth : Method) (c : Code) (nL ce sk : Nat) (Q : State → Prop) (σ : St) (pc : Nat) (lv : List (Nat × Value)) (st : List Value) : Prop :=
  ∀ (H : Heap) (locs : List Loc) (ls : Array Slot), va_P D vwCl (wld ad cA σ) H → va_S (fun q => bs ≤ q) s.heap H locs → lv_has ls nL lv → W p l e R s m args below meth c H locs ce sk Q (F0 m pc ls st)
def QC (D : va_G) (cA : ClassId) (bs : Nat) (ad : Nat → Nat) (r : Option Value) (σ : St) : Array Value → State → Outcome → State → Prop := fun _ st oc t => (oc = .returned r ∧ va_P D vwCl (wld ad cA σ) t.heap ∧ va_K D vwCl [(cA, .int)] t) ∧ va_F (fun q => bs ≤ q) st t
abbrev rmY (fr lo : Nat) : Room := { frames := fr, cells := 0, slots := 0, locals := lo }
/-- a method's contract: from σ, with these arguments, it answers r and leaves σ' -/
def Ct (l : Launch) (D : va_G) (cA : ClassId) (bs : Nat) (ad : Nat → Nat) (y : MethodName) (cc : ByteArray) (nL : Nat) (ret : Option FieldType) (fr lo : Nat) (As : List Value) (σ : St) (r : Option Value) (σ' : St) : Prop :=
  Met l y (.code y cc nL ret :: gwt) (rmY fr lo) (va_Pc As (fun U => va_P D vwCl (wld ad cA σ) U.heap ∧ va_K D vwCl [(cA, .int)] U ∧ va_Nw nwW U ∧ AdOK bs ad)) (QC D cA bs ad r σ') 0 0 (fun q => bs ≤ q)
abbrev QM (D : va_G) (cA : ClassId) (bs : Nat) (ad : Nat → Nat) (below : List Frame) (args : Array Value) (s : State) (r : Option Value) (σ : St) : State → Prop := MQ below (QC D cA bs ad r σ) args s 0 0 (fun q => bs ≤ q)
theorem Ct.of {l : Launch} {D : va_G} {cA : ClassId} {bs : Nat} {ad : Nat → Nat} {y : MethodName} {cc : ByteArray} {nL : Nat} {ret : Option FieldType} {fr lo : Nat} {As : List Value} {σ : St} {r : Option Value} {σ' : St} (hy : plainName y.cls = true) (hl : (lg_sl As).length ≤ nL)
    (body : ∀ p e s m args below meth c, Cx D cA bs ad y.cls cc nL ret p s m args meth c → Y D cA bs ad p l e (rmY fr lo) s m args below meth c nL 0 0 (QM D cA bs ad below args s r σ') σ 0 (lv_args 0 As) []) : Ct l D cA bs ad y cc nL ret fr lo As σ r σ' := by
  refine Met.ofW (cc := cc) (maxL := nL) (ret := ret) hy rfl ?_
  intro p e s m args below meth c s₁ B hml hv
  obtain ⟨rfl, hP, hK, hNw, hAd⟩ := hv
  have hts := atoms_spec (ws := .code y cc nL ret :: gwt) B.pre
  have hle := lv_entry As (n := nL) hl
  rw [lg_entry_eq]
  exact body p e s m As.toArray below meth c ⟨B.exec, B.bytes, hml, findClass_of_methodNamed B.named, fun w hw => hts w (List.mem_cons_of_mem _ hw), B.notSynchronized, hK, B.returns, hNw, hAd⟩ _ _ _ hP va_S.rf hle
section YR
variable {D : va_G} {cA : ClassId} {bs : Nat} {ad : Nat → Nat} {p : Program} {l : Launch} {e : Env} {R : Room} {s : State} {m : MethodId} {args : Array Value} {below : List Frame} {meth : Method} {c : Code} {nL ce sk : Nat} {Q : State → Prop} {σ : St} {pc : Nat} {lv : List (Nat × Value)} {st : List Value} {own : String} {cc : ByteArray} {ret : Option FieldType}
theorem y_iconst (C : Cx D cA bs ad own cc nL ret p s m args meth c) {n : Int} {v : Int32} (hd : decode cc pc = .ok (.iconst n, 1)) (hv : Int32.ofInt n = v) (kk : Y D cA bs ad p l e R s m args below meth c nL ce sk Q σ (pc + 1) lv (.int v :: st)) : Y D cA bs ad p l e R s m args below meth c nL ce sk Q σ pc lv (st) := fun H locs ls h1 h2 h3 => lv_iconst C.1 C.2.1 hd hv (kk H locs ls h1 h2 h3)
theorem y_bipush (C : Cx D cA bs ad own cc nL ret p s m args meth c) {n : Int} {v : Int32} (hd : decode cc pc = .ok (.bipush n, 2)) (hv : (Int8.ofInt n).toInt32 = v) (kk : Y D cA bs ad p l e R s m args below meth c nL ce sk Q σ (pc + 2) lv (.int v :: st)) : Y D cA bs ad p l e R s m args below meth c nL ce sk Q σ pc lv (st) := fun H locs ls h1 h2 h3 => lv_bipush C.1 C.2.1 hd hv (kk H locs ls h1 h2 h3)
theorem y_sipush (C : Cx D cA bs ad own cc nL ret p s m args meth c) {n : Int} {v : Int32} (hd : decode cc pc = .ok (.sipush n, 3)) (hv : (Int16.ofInt n).toInt32 = v) (kk : Y D cA bs ad p l e R s m args below meth c nL ce sk Q σ (pc + 3) lv (.int v :: st)) : Y D cA bs ad p l e R s m args below meth c nL ce sk Q σ pc lv (st) := fun H locs ls h1 h2 h3 => lv_sipush C.1 C.2.1 hd hv (kk H locs ls h1 h2 h3)
theorem y_lconst (C : Cx D cA bs ad own cc nL ret p s m args meth c) {n : Fin 2} {v : Int64} (hd : decode cc pc = .ok (.lconst n, 1)) (hv : Int64.ofNat (n : Nat) = v) (kk : Y D cA bs ad p l e R s m args below meth c nL ce sk Q σ (pc + 1) lv (.long v :: st)) : Y D cA bs ad p l e R s m args below meth c nL ce sk Q σ pc lv (st) := fun H locs ls h1 h2 h3 => lv_lconst C.1 C.2.1 hd hv (kk H locs ls h1 h2 h3)
theorem y_ldc (C : Cx D cA bs ad own cc nL ret p s m args meth c) {index : Nat} {v : Int32} (hd : decode cc pc = .ok (.ldc index, 2)) (hw : Cond.constant own index v ∈ gwt) (kk : Y D cA bs ad p l e R s m args below meth c nL ce sk Q σ (pc + 2) lv (.int v :: st)) : Y D cA bs ad p l e R s m args below meth c nL ce sk Q σ pc lv st := fun H locs ls h1 h2 h3 => lv_ldc C.1 C.2.1 C.2.2.2.1 (C.2.2.2.2.1 _ hw) hd (kk H locs ls h1 h2 h3)
theorem y_ldcw (C : Cx D cA bs ad own cc nL ret p s m args meth c) {index : Nat} {v : Int32} (hd : decode cc pc = .ok (.ldc_w index, 3)) (hw : Cond.constant own index v ∈ gwt) (kk : Y D cA bs ad p l e R s m args below meth c nL ce sk Q σ (pc + 3) lv (.int v :: st)) : Y D cA bs ad p l e R s m args below meth c nL ce sk Q σ pc lv st := fun H locs ls h1 h2 h3 => lv_ldcw C.1 C.2.1 C.2.2.2.1 (C.2.2.2.2.1 _ hw) hd (kk H locs ls h1 h2 h3)
theorem y_ldc2 (C : Cx D cA bs ad own cc nL ret p s m args meth c) {index : Nat} {v : Int64} (hd : decode cc pc = .ok (.ldc2_w index, 3)) (hw : Cond.constantLong own index v ∈ gwt) (kk : Y D cA bs ad p l e R s m args below meth c nL ce sk Q σ (pc + 3) lv (.long v :: st)) : Y D cA bs ad p l e R s m args below meth c nL ce sk Q σ pc lv st := fun H locs ls h1 h2 h3 => lv_ldc2 C.1 C.2.1 C.2.2.2.1 (C.2.2.2.2.1 _ hw) hd (kk H locs ls h1 h2 h3)
theorem y_iload_n (C : Cx D cA bs ad own cc nL ret p s m args meth c) {k : Fin 4} {i q : Nat} {x : Int32} (hd : decode cc pc = .ok (.iload_n k, 1)) (hi : (k : Nat) = i) (hq : lv[q]? = some (i, .int x)) (kk : Y D cA bs ad p l e R s m args below meth c nL ce sk Q σ (pc + 1) lv (.int x :: st)) : Y D cA bs ad p l e R s m args below meth c nL ce sk Q σ pc lv st := fun H locs ls h1 h2 h3 => lv_iload_n C.1 C.2.1 hd hi (lv_at h3 q hq) (kk H locs ls h1 h2 h3)
theorem y_iload (C : Cx D cA bs ad own cc nL ret p s m args meth c) {i q : Nat} {x : Int32} (hd : decode cc pc = .ok (.iload i, 2)) (hq : lv[q]? = some (i, .int x)) (kk : Y D cA bs ad p l e R s m args below meth c nL ce sk Q σ (pc + 2) lv (.int x :: st)) : Y D cA bs ad p l e R s m args below meth c nL ce sk Q σ pc lv st := fun H locs ls h1 h2 h3 => lv_iload C.1 C.2.1 hd (lv_at h3 q hq) (kk H locs ls h1 h2 h3)
theorem y_istore_n (C : Cx D cA bs ad own cc nL ret p s m args meth c) {k : Fin 4} {i : Nat} {x : Int32} {lv' : List (Nat × Value)} (hd : decode cc pc = .ok (.istore_n k, 1)) (hi : (k : Nat) = i) (hn : i < nL) (hl : (i, Value.int x) :: lv.filter (fun q => !(q.1 == i) && !(q.1 + 1 == i && q.2.category == 2)) = lv') (kk : Y D cA bs ad p l e R s m args below meth c nL ce sk Q σ (pc + 1) lv' st) : Y D cA bs ad p l e R s m args below meth c nL ce sk Q σ pc lv (.int x :: st) := fun H locs ls h1 h2 h3 => lv_istore_n C.1 C.2.1 hd hi h3 hn hl (fun ls' h4 => kk H locs ls' h1 h2 h4)
theorem y_istore (C : Cx D cA bs ad own cc nL ret p s m args meth c) {i : Nat} {x : Int32} {lv' : List (Nat × Value)} (hd : decode cc pc = .ok (.istore i, 2)) (hn : i < nL) (hl : (i, Value.int x) :: lv.filter (fun q => !(q.1 == i) && !(q.1 + 1 == i && q.2.category == 2)) = lv') (kk : Y D cA bs ad p l e R s m args below meth c nL ce sk Q σ (pc + 2) lv' st) : Y D cA bs ad p l e R s m args below meth c nL ce sk Q σ pc lv (.int x :: st) := fun H locs ls h1 h2 h3 => lv_istore C.1 C.2.1 hd h3 hn hl (fun ls' h4 => kk H locs ls' h1 h2 h4)
theorem y_lload_n (C : Cx D cA bs ad own cc nL ret p s m args meth c) {k : Fin 4} {i q : Nat} {x : Int64} (hd : decode cc pc = .ok (.lload_n k, 1)) (hi : (k : Nat) = i) (hq : lv[q]? = some (i, .long x)) (kk : Y D cA bs ad p l e R s m args below meth c nL ce sk Q σ (pc + 1) lv (.long x :: st)) : Y D cA bs ad p l e R s m args below meth c nL ce sk Q σ pc lv st := fun H locs ls h1 h2 h3 => lv_lload_n C.1 C.2.1 hd hi (lv_at h3 q hq) (kk H locs ls h1 h2 h3)
theorem y_lload (C : Cx D cA bs ad own cc nL ret p s m args meth c) {i q : Nat} {x : Int64} (hd : decode cc pc = .ok (.lload i, 2)) (hq : lv[q]? = some (i, .long x)) (kk : Y D cA bs ad p l e R s m args below meth c nL ce sk Q σ (pc + 2) lv (.long x :: st)) : Y D cA bs ad p l e R s m args below meth c nL ce sk Q σ pc lv st := fun H locs ls h1 h2 h3 => lv_lload C.1 C.2.1 hd (lv_at h3 q hq) (kk H locs ls h1 h2 h3)
theorem y_lstore_n (C : Cx D cA bs ad own cc nL ret p s m args meth c) {k : Fin 4} {i : Nat} {x : Int64} {lv' : List (Nat × Value)} (hd : decode cc pc = .ok (.lstore_n k, 1)) (hi : (k : Nat) = i) (hn : i + 1 < nL) (hl : (i, Value.long x) :: lv.filter (fun q => !(q.1 == i) && (!(q.1 == i + 1) && !(q.1 + 1 == i && q.2.category == 2))) = lv') (kk : Y D cA bs ad p l e R s m args below meth c nL ce sk Q σ (pc + 1) lv' st) : Y D cA bs ad p l e R s m args below meth c nL ce sk Q σ pc lv (.long x :: st) := fun H locs ls h1 h2 h3 => lv_lstore_n C.1 C.2.1 hd hi h3 hn hl (fun ls' h4 => kk H locs ls' h1 h2 h4)
theorem y_lstore (C : Cx D cA bs ad own cc nL ret p s m args meth c) {i : Nat} {x : Int64} {lv' : List (Nat × Value)} (hd : decode cc pc = .ok (.lstore i, 2)) (hn : i + 1 < nL) (hl : (i, Value.long x) :: lv.filter (fun q => !(q.1 == i) && (!(q.1 == i + 1) && !(q.1 + 1 == i && q.2.category == 2))) = lv') (kk : Y D cA bs ad p l e R s m args below meth c nL ce sk Q σ (pc + 2) lv' st) : Y D cA bs ad p l e R s m args below meth c nL ce sk Q σ pc lv (.long x :: st) := fun H locs ls h1 h2 h3 => lv_lstore C.1 C.2.1 hd h3 hn hl (fun ls' h4 => kk H locs ls' h1 h2 h4)
theorem y_aload_n (C : Cx D cA bs ad own cc nL ret p s m args meth c) {k : Fin 4} {i q : Nat} {x : Nat} (hd : decode cc pc = .ok (.aload_n k, 1)) (hi : (k : Nat) = i) (hq : lv[q]? = some (i, .ref x)) (kk : Y D cA bs ad p l e R s m args below meth c nL ce sk Q σ (pc + 1) lv (.ref x :: st)) : Y D cA bs ad p l e R s m args below meth c nL ce sk Q σ pc lv st := fun H locs ls h1 h2 h3 => lv_aload_n C.1 C.2.1 hd hi (lv_at h3 q hq) (kk H locs ls h1 h2 h3)
theorem y_aload (C : Cx D cA bs ad own cc nL ret p s m args meth c) {i q : Nat} {x : Nat} (hd : decode cc pc = .ok (.aload i, 2)) (hq : lv[q]? = some (i, .ref x)) (kk : Y D cA bs ad p l e R s m args below meth c nL ce sk Q σ (pc + 2) lv (.ref x :: st)) : Y D cA bs ad p l e R s m args below meth c nL ce sk Q σ pc lv st := fun H locs ls h1 h2 h3 => lv_aload C.1 C.2.1 hd (lv_at h3 q hq) (kk H locs ls h1 h2 h3)
theorem y_astore_n (C : Cx D cA bs ad own cc nL ret p s m args meth c) {k : Fin 4} {i : Nat} {x : Nat} {lv' : List (Nat × Value)} (hd : decode cc pc = .ok (.astore_n k, 1)) (hi : (k : Nat) = i) (hn : i < nL) (hl : (i, Value.ref x) :: lv.filter (fun q => !(q.1 == i) && !(q.1 + 1 == i && q.2.category == 2)) = lv') (kk : Y D cA bs ad p l e R s m args below meth c nL ce sk Q σ (pc + 1) lv' st) : Y D cA bs ad p l e R s m args below meth c nL ce sk Q σ pc lv (.ref x :: st) := fun H locs ls h1 h2 h3 => lv_astore_n C.1 C.2.1 hd hi h3 hn hl (fun ls' h4 => kk H locs ls' h1 h2 h4)
theorem y_astore (C : Cx D cA bs ad own cc nL ret p s m args meth c) {i : Nat} {x : Nat} {lv' : List (Nat × Value)} (hd : decode cc pc = .ok (.astore i, 2)) (hn : i < nL) (hl : (i, Value.ref x) :: lv.filter (fun q => !(q.1 == i) && !(q.1 + 1 == i && q.2.category == 2)) = lv') (kk : Y D cA bs ad p l e R s m args below meth c nL ce sk Q σ (pc + 2) lv' st) : Y D cA bs ad p l e R s m args below meth c nL ce sk Q σ pc lv (.ref x :: st) := fun H locs ls h1 h2 h3 => lv_astore C.1 C.2.1 hd h3 hn hl (fun ls' h4 => kk H locs ls' h1 h2 h4)
theorem y_iinc (C : Cx D cA bs ad own cc nL ret p s m args meth c) {i k : Nat} {n : Int} {x v : Int32} {lv' : List (Nat × Value)} (hd : decode cc pc = .ok (.iinc i n, 3)) (hk : lv[k]? = some (i, .int x)) (hv : x + Int32.ofInt n = v) (hn : i < nL) (hl : (i, Value.int v) :: lv.filter (fun q => !(q.1 == i) && !(q.1 + 1 == i && q.2.category == 2)) = lv') (kk : Y D cA bs ad p l e R s m args below meth c nL ce sk Q σ (pc + 3) lv' st) : Y D cA bs ad p l e R s m args below meth c nL ce sk Q σ pc lv st := fun H locs ls h1 h2 h3 => lv_iinc C.1 C.2.1 hd h3 hk hv hn hl (fun ls' h4 => kk H locs ls' h1 h2 h4)
theorem y_sub (ks : List Nat) {lv' : List (Nat × Value)} (hl : lv_pick lv ks = lv') (kk : Y D cA bs ad p l e R s m args below meth c nL ce sk Q σ pc lv' st) : Y D cA bs ad p l e R s m args below meth c nL ce sk Q σ pc lv st := fun H locs ls h1 h2 h3 => kk H locs ls h1 h2 (lv_sub h3 ks hl)
theorem y_iadd (C : Cx D cA bs ad own cc nL ret p s m args meth c) {x y : Int32} (hd : decode cc pc = .ok (.iadd, 1)) (kk : Y D cA bs ad p l e R s m args below meth c nL ce sk Q σ (pc + 1) lv (.int (x + y) :: st)) : Y D cA bs ad p l e R s m args below meth c nL ce sk Q σ pc lv (.int y :: .int x :: st) := fun H locs ls h1 h2 h3 => lv_iadd C.1 C.2.1 hd  (kk H locs ls h1 h2 h3)
theorem y_isub (C : Cx D cA bs ad own cc nL ret p s m args meth c) {x y : Int32} (hd : decode cc pc = .ok (.isub, 1)) (kk : Y D cA bs ad p l e R s m args below meth c nL ce sk Q σ (pc + 1) lv (.int (x - y) :: st)) : Y D cA bs ad p l e R s m args below meth c nL ce sk Q σ pc lv (.int y :: .int x :: st) := fun H locs ls h1 h2 h3 => lv_isub C.1 C.2.1 hd  (kk H locs ls h1 h2 h3)
theorem y_imul (C : Cx D cA bs ad own cc nL ret p s m args meth c) {x y : Int32} (hd : decode cc pc = .ok (.imul, 1)) (kk : Y D cA bs ad p l e R s m args below meth c nL ce sk Q σ (pc + 1) lv (.int (x * y) :: st)) : Y D cA bs ad p l e R s m args below meth c nL ce sk Q σ pc lv (.int y :: .int x :: st) := fun H locs ls h1 h2 h3 => lv_imul C.1 C.2.1 hd  (kk H locs ls h1 h2 h3)
theorem y_iand (C : Cx D cA bs ad own cc nL ret p s m args meth c) {x y : Int32} (hd : decode cc pc = .ok (.iand, 1)) (kk : Y D cA bs ad p l e R s m args below meth c nL ce sk Q σ (pc + 1) lv (.int (x &&& y) :: st)) : Y D cA bs ad p l e R s m args below meth c nL ce sk Q σ pc lv (.int y :: .int x :: st) := fun H locs ls h1 h2 h3 => lv_iand C.1 C.2.1 hd  (kk H locs ls h1 h2 h3)
theorem y_ior (C : Cx D cA bs ad own cc nL ret p s m args meth c) {x y : Int32} (hd : decode cc pc = .ok (.ior, 1)) (kk : Y D cA bs ad p l e R s m args below meth c nL ce sk Q σ (pc + 1) lv (.int (x ||| y) :: st)) : Y D cA bs ad p l e R s m args below meth c nL ce sk Q σ pc lv (.int y :: .int x :: st) := fun H locs ls h1 h2 h3 => lv_ior C.1 C.2.1 hd  (kk H locs ls h1 h2 h3)
theorem y_ixor (C : Cx D cA bs ad own cc nL ret p s m args meth c) {x y : Int32} (hd : decode cc pc = .ok (.ixor, 1)) (kk : Y D cA bs ad p l e R s m args below meth c nL ce sk Q σ (pc + 1) lv (.int (x ^^^ y) :: st)) : Y D cA bs ad p l e R s m args below meth c nL ce sk Q σ pc lv (.int y :: .int x :: st) := fun H locs ls h1 h2 h3 => lv_ixor C.1 C.2.1 hd  (kk H locs ls h1 h2 h3)
theorem y_ishl (C : Cx D cA bs ad own cc nL ret p s m args meth c) {x y : Int32} (hd : decode cc pc = .ok (.ishl, 1)) (kk : Y D cA bs ad p l e R s m args below meth c nL ce sk Q σ (pc + 1) lv (.int (x <<< (y &&& 31)) :: st)) : Y D cA bs ad p l e R s m args below meth c nL ce sk Q σ pc lv (.int y :: .int x :: st) := fun H locs ls h1 h2 h3 => lv_ishl C.1 C.2.1 hd  (kk H locs ls h1 h2 h3)
theorem y_ishr (C : Cx D cA bs ad own cc nL ret p s m args meth c) {x y : Int32} (hd : decode cc pc = .ok (.ishr, 1)) (kk : Y D cA bs ad p l e R s m args below meth c nL ce sk Q σ (pc + 1) lv (.int (x >>> (y &&& 31)) :: st)) : Y D cA bs ad p l e R s m args below meth c nL ce sk Q σ pc lv (.int y :: .int x :: st) := fun H locs ls h1 h2 h3 => lv_ishr C.1 C.2.1 hd  (kk H locs ls h1 h2 h3)
theorem y_idiv (C : Cx D cA bs ad own cc nL ret p s m args meth c) {x y : Int32} (hd : decode cc pc = .ok (.idiv, 1)) (hne : ¬ y = 0) (kk : Y D cA bs ad p l e R s m args below meth c nL ce sk Q σ (pc + 1) lv (.int (x / y) :: st)) : Y D cA bs ad p l e R s m args below meth c nL ce sk Q σ pc lv (.int y :: .int x :: st) := fun H locs ls h1 h2 h3 => lv_idiv C.1 C.2.1 hd hne (kk H locs ls h1 h2 h3)
theorem y_irem (C : Cx D cA bs ad own cc nL ret p s m args meth c) {x y : Int32} (hd : decode cc pc = .ok (.irem, 1)) (hne : ¬ y = 0) (kk : Y D cA bs ad p l e R s m args below meth c nL ce sk Q σ (pc + 1) lv (.int (x - x / y * y) :: st)) : Y D cA bs ad p l e R s m args below meth c nL ce sk Q σ pc lv (.int y :: .int x :: st) := fun H locs ls h1 h2 h3 => lv_irem C.1 C.2.1 hd hne (kk H locs ls h1 h2 h3)
theorem y_ineg (C : Cx D cA bs ad own cc nL ret p s m args meth c) {x : Int32} (hd : decode cc pc = .ok (.ineg, 1)) (kk : Y D cA bs ad p l e R s m args below meth c nL ce sk Q σ (pc + 1) lv (.int (-x) :: st)) : Y D cA bs ad p l e R s m args below meth c nL ce sk Q σ pc lv (.int x :: st) := fun H locs ls h1 h2 h3 => lv_ineg C.1 C.2.1 hd  (kk H locs ls h1 h2 h3)
theorem y_ladd (C : Cx D cA bs ad own cc nL ret p s m args meth c) {x y : Int64} (hd : decode cc pc = .ok (.ladd, 1)) (kk : Y D cA bs ad p l e R s m args below meth c nL ce sk Q σ (pc + 1) lv (.long (x + y) :: st)) : Y D cA bs ad p l e R s m args below meth c nL ce sk Q σ pc lv (.long y :: .long x :: st) := fun H locs ls h1 h2 h3 => lv_ladd C.1 C.2.1 hd  (kk H locs ls h1 h2 h3)
theorem y_lmul (C : Cx D cA bs ad own cc nL ret p s m args meth c) {x y : Int64} (hd : decode cc pc = .ok (.lmul, 1)) (kk : Y D cA bs ad p l e R s m args below meth c nL ce sk Q σ (pc + 1) lv (.long (x * y) :: st)) : Y D cA bs ad p l e R s m args below meth c nL ce sk Q σ pc lv (.long y :: .long x :: st) := fun H locs ls h1 h2 h3 => lv_lmul C.1 C.2.1 hd  (kk H locs ls h1 h2 h3)
theorem y_land (C : Cx D cA bs ad own cc nL ret p s m args meth c) {x y : Int64} (hd : decode cc pc = .ok (.land, 1)) (kk : Y D cA bs ad p l e R s m args below meth c nL ce sk Q σ (pc + 1) lv (.long (x &&& y) :: st)) : Y D cA bs ad p l e R s m args below meth c nL ce sk Q σ pc lv (.long y :: .long x :: st) := fun H locs ls h1 h2 h3 => lv_land C.1 C.2.1 hd  (kk H locs ls h1 h2 h3)
theorem y_lor (C : Cx D cA bs ad own cc nL ret p s m args meth c) {x y : Int64} (hd : decode cc pc = .ok (.lor, 1)) (kk : Y D cA bs ad p l e R s m args below meth c nL ce sk Q σ (pc + 1) lv (.long (x ||| y) :: st)) : Y D cA bs ad p l e R s m args below meth c nL ce sk Q σ pc lv (.long y :: .long x :: st) := fun H locs ls h1 h2 h3 => lv_lor C.1 C.2.1 hd  (kk H locs ls h1 h2 h3)
theorem y_i2l (C : Cx D cA bs ad own cc nL ret p s m args meth c) {x : Int32} (hd : decode cc pc = .ok (.i2l, 1)) (kk : Y D cA bs ad p l e R s m args below meth c nL ce sk Q σ (pc + 1) lv (.long x.toInt64 :: st)) : Y D cA bs ad p l e R s m args below meth c nL ce sk Q σ pc lv (.int x :: st) := fun H locs ls h1 h2 h3 => lv_i2l C.1 C.2.1 hd rfl (kk H locs ls h1 h2 h3)
theorem y_l2i (C : Cx D cA bs ad own cc nL ret p s m args meth c) {x : Int64} (hd : decode cc pc = .ok (.l2i, 1)) (kk : Y D cA bs ad p l e R s m args below meth c nL ce sk Q σ (pc + 1) lv (.int x.toInt32 :: st)) : Y D cA bs ad p l e R s m args below meth c nL ce sk Q σ pc lv (.long x :: st) := fun H locs ls h1 h2 h3 => lv_l2i C.1 C.2.1 hd rfl (kk H locs ls h1 h2 h3)
theorem y_iushr (C : Cx D cA bs ad own cc nL ret p s m args meth c) {x y : Int32} (hd : decode cc pc = .ok (.iushr, 1)) (kk : Y D cA bs ad p l e R s m args below meth c nL ce sk Q σ (pc + 1) lv (.int (x.toUInt32 >>> (y.toUInt32 &&& Int32.toUInt32 31)).toInt32 :: st)) : Y D cA bs ad p l e R s m args below meth c nL ce sk Q σ pc lv (.int y :: .int x :: st) := fun H locs ls h1 h2 h3 => lv_iushr C.1 C.2.1 hd rfl (kk H locs ls h1 h2 h3)
theorem y_lushr (C : Cx D cA bs ad own cc nL ret p s m args meth c) {x : Int64} {y : Int32} (hd : decode cc pc = .ok (.lushr, 1)) (kk : Y D cA bs ad p l e R s m args below meth c nL ce sk Q σ (pc + 1) lv (.long (x.toUInt64 >>> (y.toInt64.toUInt64 &&& Int64.toUInt64 63)).toInt64 :: st)) : Y D cA bs ad p l e R s m args below meth c nL ce sk Q σ pc lv (.int y :: .long x :: st) := fun H locs ls h1 h2 h3 => lv_lushr C.1 C.2.1 hd rfl (kk H locs ls h1 h2 h3)
theorem y_lshl (C : Cx D cA bs ad own cc nL ret p s m args meth c) {x : Int64} {y : Int32} (hd : decode cc pc = .ok (.lshl, 1)) (kk : Y D cA bs ad p l e R s m args below meth c nL ce sk Q σ (pc + 1) lv (.long (x <<< (y.toInt64 &&& 63)) :: st)) : Y D cA bs ad p l e R s m args below meth c nL ce sk Q σ pc lv (.int y :: .long x :: st) := fun H locs ls h1 h2 h3 => lv_lshl C.1 C.2.1 hd rfl (kk H locs ls h1 h2 h3)
theorem y_lcmp (C : Cx D cA bs ad own cc nL ret p s m args meth c) {x y : Int64} (hd : decode cc pc = .ok (.lcmp, 1)) (kk : Y D cA bs ad p l e R s m args below meth c nL ce sk Q σ (pc + 1) lv (.int (lg_cmp x y) :: st)) : Y D cA bs ad p l e R s m args below meth c nL ce sk Q σ pc lv (.long y :: .long x :: st) := fun H locs ls h1 h2 h3 => W.lcmp C.1 C.2.1 hd  (kk H locs ls h1 h2 h3)
theorem y_dup (C : Cx D cA bs ad own cc nL ret p s m args meth c) {va : Value} (hd : decode cc pc = .ok (.dup, 1)) (hva : va.category = 1) (kk : Y D cA bs ad p l e R s m args below meth c nL ce sk Q σ (pc + 1) lv (va :: va :: st)) : Y D cA bs ad p l e R s m args below meth c nL ce sk Q σ pc lv (va :: st) := fun H locs ls h1 h2 h3 => lv_dup C.1 C.2.1 hd hva (kk H locs ls h1 h2 h3)
theorem y_dup2 (C : Cx D cA bs ad own cc nL ret p s m args meth c) {va vb : Value} (hd : decode cc pc = .ok (.dup2, 1)) (hva : va.category = 1) (hvb : vb.category = 1) (kk : Y D cA bs ad p l e R s m args below meth c nL ce sk Q σ (pc + 1) lv (va :: vb :: va :: vb :: st)) : Y D cA bs ad p l e R s m args below meth c nL ce sk Q σ pc lv (va :: vb :: st) := fun H locs ls h1 h2 h3 => lv_dup2_11 C.1 C.2.1 hd hva hvb (kk H locs ls h1 h2 h3)
theorem y_if_eq (C : Cx D cA bs ad own cc nL ret p s m args meth c) {x : Int32} {off : Int} {tgt : Nat} (hd : decode cc pc = .ok (.ifCond .eq off, 3)) (ht : (pc : Int) + off = (tgt : Int)) (kt : x = 0 → Y D cA bs ad p l e R s m args below meth c nL ce sk Q σ tgt lv st) (kf : ¬ x = 0 → Y D cA bs ad p l e R s m args below meth c nL ce sk Q σ (pc + 3) lv st) : Y D cA bs ad p l e R s m args below meth c nL ce sk Q σ pc lv (.int x :: st) := fun H locs ls h1 h2 h3 => lv_if_eq C.1 C.2.1 hd ht (fun q => kt q H locs ls h1 h2 h3) (fun q => kf q H locs ls h1 h2 h3)
theorem y_if_ne (C : Cx D cA bs ad own cc nL ret p s m args meth c) {x : Int32} {off : Int} {tgt : Nat} (hd : decode cc pc = .ok (.ifCond .ne off, 3)) (ht : (pc : Int) + off = (tgt : Int)) (kt : ¬ x = 0 → Y D cA bs ad p l e R s m args below meth c nL ce sk Q σ tgt lv st) (kf : x = 0 → Y D cA bs ad p l e R s m args below meth c nL ce sk Q σ (pc + 3) lv st) : Y D cA bs ad p l e R s m args below meth c nL ce sk Q σ pc lv (.int x :: st) := fun H locs ls h1 h2 h3 => lv_if_ne C.1 C.2.1 hd ht (fun q => kt q H locs ls h1 h2 h3) (fun q => kf q H locs ls h1 h2 h3)
theorem y_if_lt (C : Cx D cA bs ad own cc nL ret p s m args meth c) {x : Int32} {off : Int} {tgt : Nat} (hd : decode cc pc = .ok (.ifCond .lt off, 3)) (ht : (pc : Int) + off = (tgt : Int)) (kt : x < 0 → Y D cA bs ad p l e R s m args below meth c nL ce sk Q σ tgt lv st) (kf : ¬ x < 0 → Y D cA bs ad p l e R s m args below meth c nL ce sk Q σ (pc + 3) lv st) : Y D cA bs ad p l e R s m args below meth c nL ce sk Q σ pc lv (.int x :: st) := fun H locs ls h1 h2 h3 => lv_if_lt C.1 C.2.1 hd ht (fun q => kt q H locs ls h1 h2 h3) (fun q => kf q H locs ls h1 h2 h3)
theorem y_if_ge (C : Cx D cA bs ad own cc nL ret p s m args meth c) {x : Int32} {off : Int} {tgt : Nat} (hd : decode cc pc = .ok (.ifCond .ge off, 3)) (ht : (pc : Int) + off = (tgt : Int)) (kt : 0 ≤ x → Y D cA bs ad p l e R s m args below meth c nL ce sk Q σ tgt lv st) (kf : ¬ 0 ≤ x → Y D cA bs ad p l e R s m args below meth c nL ce sk Q σ (pc + 3) lv st) : Y D cA bs ad p l e R s m args below meth c nL ce sk Q σ pc lv (.int x :: st) := fun H locs ls h1 h2 h3 => lv_if_ge C.1 C.2.1 hd ht (fun q => kt q H locs ls h1 h2 h3) (fun q => kf q H locs ls h1 h2 h3)
theorem y_if_gt (C : Cx D cA bs ad own cc nL ret p s m args meth c) {x : Int32} {off : Int} {tgt : Nat} (hd : decode cc pc = .ok (.ifCond .gt off, 3)) (ht : (pc : Int) + off = (tgt : Int)) (kt : 0 < x → Y D cA bs ad p l e R s m args below meth c nL ce sk Q σ tgt lv st) (kf : ¬ 0 < x → Y D cA bs ad p l e R s m args below meth c nL ce sk Q σ (pc + 3) lv st) : Y D cA bs ad p l e R s m args below meth c nL ce sk Q σ pc lv (.int x :: st) := fun H locs ls h1 h2 h3 => lv_if_gt C.1 C.2.1 hd ht (fun q => kt q H locs ls h1 h2 h3) (fun q => kf q H locs ls h1 h2 h3)
theorem y_if_le (C : Cx D cA bs ad own cc nL ret p s m args meth c) {x : Int32} {off : Int} {tgt : Nat} (hd : decode cc pc = .ok (.ifCond .le off, 3)) (ht : (pc : Int) + off = (tgt : Int)) (kt : x ≤ 0 → Y D cA bs ad p l e R s m args below meth c nL ce sk Q σ tgt lv st) (kf : ¬ x ≤ 0 → Y D cA bs ad p l e R s m args below meth c nL ce sk Q σ (pc + 3) lv st) : Y D cA bs ad p l e R s m args below meth c nL ce sk Q σ pc lv (.int x :: st) := fun H locs ls h1 h2 h3 => lv_if_le C.1 C.2.1 hd ht (fun q => kt q H locs ls h1 h2 h3) (fun q => kf q H locs ls h1 h2 h3)
theorem y_icmp_eq (C : Cx D cA bs ad own cc nL ret p s m args meth c) {x y : Int32} {off : Int} {tgt : Nat} (hd : decode cc pc = .ok (.if_icmp .eq off, 3)) (ht : (pc : Int) + off = (tgt : Int)) (kt : x = y → Y D cA bs ad p l e R s m args below meth c nL ce sk Q σ tgt lv st) (kf : ¬ x = y → Y D cA bs ad p l e R s m args below meth c nL ce sk Q σ (pc + 3) lv st) : Y D cA bs ad p l e R s m args below meth c nL ce sk Q σ pc lv (.int y :: .int x :: st) := fun H locs ls h1 h2 h3 => lv_icmp_eq C.1 C.2.1 hd ht (fun q => kt q H locs ls h1 h2 h3) (fun q => kf q H locs ls h1 h2 h3)
theorem y_icmp_ne (C : Cx D cA bs ad own cc nL ret p s m args meth c) {x y : Int32} {off : Int} {tgt : Nat} (hd : decode cc pc = .ok (.if_icmp .ne off, 3)) (ht : (pc : Int) + off = (tgt : Int)) (kt : ¬ x = y → Y D cA bs ad p l e R s m args below meth c nL ce sk Q σ tgt lv st) (kf : x = y → Y D cA bs ad p l e R s m args below meth c nL ce sk Q σ (pc + 3) lv st) : Y D cA bs ad p l e R s m args below meth c nL ce sk Q σ pc lv (.int y :: .int x :: st) := fun H locs ls h1 h2 h3 => lv_icmp_ne C.1 C.2.1 hd ht (fun q => kt q H locs ls h1 h2 h3) (fun q => kf q H locs ls h1 h2 h3)
theorem y_icmp_lt (C : Cx D cA bs ad own cc nL ret p s m args meth c) {x y : Int32} {off : Int} {tgt : Nat} (hd : decode cc pc = .ok (.if_icmp .lt off, 3)) (ht : (pc : Int) + off = (tgt : Int)) (kt : x < y → Y D cA bs ad p l e R s m args below meth c nL ce sk Q σ tgt lv st) (kf : ¬ x < y → Y D cA bs ad p l e R s m args below meth c nL ce sk Q σ (pc + 3) lv st) : Y D cA bs ad p l e R s m args below meth c nL ce sk Q σ pc lv (.int y :: .int x :: st) := fun H locs ls h1 h2 h3 => lv_icmp_lt C.1 C.2.1 hd ht (fun q => kt q H locs ls h1 h2 h3) (fun q => kf q H locs ls h1 h2 h3)
theorem y_icmp_ge (C : Cx D cA bs ad own cc nL ret p s m args meth c) {x y : Int32} {off : Int} {tgt : Nat} (hd : decode cc pc = .ok (.if_icmp .ge off, 3)) (ht : (pc : Int) + off = (tgt : Int)) (kt : y ≤ x → Y D cA bs ad p l e R s m args below meth c nL ce sk Q σ tgt lv st) (kf : ¬ y ≤ x → Y D cA bs ad p l e R s m args below meth c nL ce sk Q σ (pc + 3) lv st) : Y D cA bs ad p l e R s m args below meth c nL ce sk Q σ pc lv (.int y :: .int x :: st) := fun H locs ls h1 h2 h3 => lv_icmp_ge C.1 C.2.1 hd ht (fun q => kt q H locs ls h1 h2 h3) (fun q => kf q H locs ls h1 h2 h3)
theorem y_icmp_gt (C : Cx D cA bs ad own cc nL ret p s m args meth c) {x y : Int32} {off : Int} {tgt : Nat} (hd : decode cc pc = .ok (.if_icmp .gt off, 3)) (ht : (pc : Int) + off = (tgt : Int)) (kt : y < x → Y D cA bs ad p l e R s m args below meth c nL ce sk Q σ tgt lv st) (kf : ¬ y < x → Y D cA bs ad p l e R s m args below meth c nL ce sk Q σ (pc + 3) lv st) : Y D cA bs ad p l e R s m args below meth c nL ce sk Q σ pc lv (.int y :: .int x :: st) := fun H locs ls h1 h2 h3 => lv_icmp_gt C.1 C.2.1 hd ht (fun q => kt q H locs ls h1 h2 h3) (fun q => kf q H locs ls h1 h2 h3)
theorem y_icmp_le (C : Cx D cA bs ad own cc nL ret p s m args meth c) {x y : Int32} {off : Int} {tgt : Nat} (hd : decode cc pc = .ok (.if_icmp .le off, 3)) (ht : (pc : Int) + off = (tgt : Int)) (kt : x ≤ y → Y D cA bs ad p l e R s m args below meth c nL ce sk Q σ tgt lv st) (kf : ¬ x ≤ y → Y D cA bs ad p l e R s m args below meth c nL ce sk Q σ (pc + 3) lv st) : Y D cA bs ad p l e R s m args below meth c nL ce sk Q σ pc lv (.int y :: .int x :: st) := fun H locs ls h1 h2 h3 => lv_icmp_le C.1 C.2.1 hd ht (fun q => kt q H locs ls h1 h2 h3) (fun q => kf q H locs ls h1 h2 h3)
theorem y_goto (C : Cx D cA bs ad own cc nL ret p s m args meth c) {off : Int} {tgt : Nat} (hd : decode cc pc = .ok (.goto off, 3)) (ht : (pc : Int) + off = (tgt : Int)) (kk : Y D cA bs ad p l e R s m args below meth c nL ce sk Q σ tgt lv st) : Y D cA bs ad p l e R s m args below meth c nL ce sk Q σ pc lv st := fun H locs ls h1 h2 h3 => lv_goto C.1 C.2.1 hd ht (kk H locs ls h1 h2 h3)
theorem y_look (C : Cx D cA bs ad own cc nL ret p s m args meth c) {dflt : Int} {ps : Array (Int × Int)} {len : Nat} {x : Int32} {off : Int} {tgt : Nat} (hd : decode cc pc = .ok (.lookupswitch dflt ps, len)) (hp : (ps.toList.zip (ps.toList.drop 1)).all (fun (a, next) => a.1 < next.1) = true) (ho : Op.lookupswitch.offset ps.toList dflt x.toInt = off) (ht : (pc : Int) + off = (tgt : Int)) (kk : Y D cA bs ad p l e R s m args below meth c nL ce sk Q σ tgt lv st) : Y D cA bs ad p l e R s m args below meth c nL ce sk Q σ pc lv (.int x :: st) := fun H locs ls h1 h2 h3 => lv_lookup C.1 C.2.1 hd hp ho ht (kk H locs ls h1 h2 h3)
theorem y_tabO (C : Cx D cA bs ad own cc nL ret p s m args meth c) {dflt lo hi : Int} {offs : Array Int} {len : Nat} {x : Int32} {tgt : Nat} (hd : decode cc pc = .ok (.tableswitch dflt lo hi offs, len)) (h : x.toInt < lo ∨ hi < x.toInt) (ht : (pc : Int) + dflt = (tgt : Int)) (kk : Y D cA bs ad p l e R s m args below meth c nL ce sk Q σ tgt lv st) : Y D cA bs ad p l e R s m args below meth c nL ce sk Q σ pc lv (.int x :: st) := fun H locs ls h1 h2 h3 => lv_tableOut C.1 C.2.1 hd h ht (kk H locs ls h1 h2 h3)
theorem y_tabI (C : Cx D cA bs ad own cc nL ret p s m args meth c) {dflt lo hi : Int} {offs : Array Int} {len : Nat} {x : Int32} {off : Int} {tgt : Nat} (hd : decode cc pc = .ok (.tableswitch dflt lo hi offs, len)) (g1 : ¬ x.toInt < lo) (g2 : ¬ hi < x.toInt) (ho : offs[(x.toInt - lo).toNat]? = some off) (ht : (pc : Int) + off = (tgt : Int)) (kk : Y D cA bs ad p l e R s m args below meth c nL ce sk Q σ tgt lv st) : Y D cA bs ad p l e R s m args below meth c nL ce sk Q σ pc lv (.int x :: st) := fun H locs ls h1 h2 h3 => lv_tableIn C.1 C.2.1 hd g1 g2 ho ht (kk H locs ls h1 h2 h3)
/-- a field that the tables link -/
def FA (own : String) (index ci k : Nat) : Prop := ∃ (Cn : String) (T : u_T) (N : Nat) (ty0 : Nat → FieldType), vwCl[ci]? = some (Cn, T, N) ∧ (∀ w ∈ u_ws Cn T N, w ∈ gwt) ∧ k < N ∧ nf ci = N ∧ Cond.fieldLink own index (T k).1 (T k).2.1 (T k).2.2.1 ∈ gwt ∧ ci < 9 ∧ (∀ k, k < N → parseFieldDescriptor (T k).2.2.1 = some (ty0 k)) ∧ (∀ a, a < N → ∀ b, b < N → a ≠ b → (T a).2.1 ≠ (T b).2.1)
def FP (own : String) (index ci k : Nat) (ty : FieldType) : Prop := ∃ (Cn : String) (T : u_T) (N : Nat) (ty0 : Nat → FieldType), (vwCl[ci]? = some (Cn, T, N) ∧ (∀ w ∈ u_ws Cn T N, w ∈ gwt) ∧ k < N ∧ nf ci = N ∧ Cond.fieldLink own index (T k).1 (T k).2.1 (T k).2.2.1 ∈ gwt ∧ ci < 9 ∧ (∀ k, k < N → parseFieldDescriptor (T k).2.2.1 = some (ty0 k)) ∧ (∀ a, a < N → ∀ b, b < N → a ≠ b → (T a).2.1 ≠ (T b).2.1)) ∧ (T k).2.2.2 = false ∧ parseFieldDescriptor (T k).2.2.1 = some ty
theorem vl_at {ad : Nat → Nat} {σ : St} {a n k : Nat} (h : k < n) : ((List.range n).map (vl ad σ a))[k]? = some (vl ad σ a k) := by simp [h]
theorem vl_set {ad : Nat → Nat} {σ σ' : St} {a n k : Nat} {v : Value} (hk : k < n) (hv : vl ad σ' a k = v) (ho : ∀ j, j ≠ k → vl ad σ' a j = vl ad σ a j) : ((List.range n).map (vl ad σ a)).set k v = (List.range n).map (vl ad σ' a) := by
  apply List.ext_getElem?
  intro j
  by_cases hj : j < n
  · rw [vl_at hj]
    by_cases hjk : j = k
    · subst hjk
      rw [List.getElem?_set_self (by simpa using hj), hv]
    · rw [List.getElem?_set_ne (fun q => hjk q.symm), vl_at hj, ho j hjk]
  · rw [List.getElem?_eq_none (by simpa using Nat.not_lt.mp hj), List.getElem?_eq_none (by simpa using Nat.not_lt.mp hj)]
theorem y_geti (C : Cx D cA bs ad own cc nL ret p s m args meth c) {index ci k a : Nat} (hf : FA own index ci k) (hkd : kd ci k = 0) (ha : xk a = ci) (hd : decode cc pc = .ok (.getfield index, 3)) (kk : Y D cA bs ad p l e R s m args below meth c nL ce sk Q σ (pc + 3) lv (.int (σ.1 a k) :: st)) : Y D cA bs ad p l e R s m args below meth c nL ce sk Q σ pc lv (.ref (ad a) :: st) := by
  intro H locs ls h1 h2 h3
  obtain ⟨Cn, T, N, ty0, g1, g2, g3, g4, g5, g6, g7, g8⟩ := hf
  have hl : a < 56 := xk_lt (by omega)
  have he : (wld ad cA σ)[a]? = some (ad a, .inr (ci, (List.range (nf ci)).map (vl ad σ a))) := by rw [wld_at hl, cel_obj ha g6]
  refine va_get C.1 C.2.1 C.2.2.2.2.1 g2 C.2.2.2.1 C.2.2.2.2.2.2.1 h1 a he g1 k g3 (C.2.2.2.2.1 _ g5) (fun _ q => q) (v := .int (σ.1 a k)) ?_ hd (kk H locs ls h1 h2 h3)
  rw [vl_at (by omega)]
  simp [vl, ha, hkd]
theorem y_getr (C : Cx D cA bs ad own cc nL ret p s m args meth c) {index ci k a : Nat} (hf : FA own index ci k) (hkd : kd ci k = 1) (ha : xk a = ci) (hd : decode cc pc = .ok (.getfield index, 3)) (kk : Y D cA bs ad p l e R s m args below meth c nL ce sk Q σ (pc + 3) lv (.ref (ad (rf a k)) :: st)) : Y D cA bs ad p l e R s m args below meth c nL ce sk Q σ pc lv (.ref (ad a) :: st) := by
  intro H locs ls h1 h2 h3
  obtain ⟨Cn, T, N, ty0, g1, g2, g3, g4, g5, g6, g7, g8⟩ := hf
  have hl : a < 56 := xk_lt (by omega)
  have he : (wld ad cA σ)[a]? = some (ad a, .inr (ci, (List.range (nf ci)).map (vl ad σ a))) := by rw [wld_at hl, cel_obj ha g6]
  refine va_get C.1 C.2.1 C.2.2.2.2.1 g2 C.2.2.2.1 C.2.2.2.2.2.2.1 h1 a he g1 k g3 (C.2.2.2.2.1 _ g5) (fun _ q => q) (v := .ref (ad (rf a k))) ?_ hd (kk H locs ls h1 h2 h3)
  rw [vl_at (by omega)]
  simp [vl, ha, hkd]
theorem y_getl (C : Cx D cA bs ad own cc nL ret p s m args meth c) {index ci k a : Nat} (hf : FA own index ci k) (hkd : kd ci k = 2) (ha : xk a = ci) (hd : decode cc pc = .ok (.getfield index, 3)) (kk : Y D cA bs ad p l e R s m args below meth c nL ce sk Q σ (pc + 3) lv (.long σ.2 :: st)) : Y D cA bs ad p l e R s m args below meth c nL ce sk Q σ pc lv (.ref (ad a) :: st) := by
  intro H locs ls h1 h2 h3
  obtain ⟨Cn, T, N, ty0, g1, g2, g3, g4, g5, g6, g7, g8⟩ := hf
  have hl : a < 56 := xk_lt (by omega)
  have he : (wld ad cA σ)[a]? = some (ad a, .inr (ci, (List.range (nf ci)).map (vl ad σ a))) := by rw [wld_at hl, cel_obj ha g6]
  refine va_get C.1 C.2.1 C.2.2.2.2.1 g2 C.2.2.2.1 C.2.2.2.2.2.2.1 h1 a he g1 k g3 (C.2.2.2.2.1 _ g5) (fun _ q => q) (v := .long σ.2) ?_ hd (kk H locs ls h1 h2 h3)
  rw [vl_at (by omega)]
  simp [vl, ha, hkd]
theorem y_puti (C : Cx D cA bs ad own cc nL ret p s m args meth c) {index ci k a : Nat} {ty : FieldType} {v : Int32} (hf : FP own index ci k ty) (hkd : kd ci k = 0) (ha : xk a = ci) (hn : narrow ty (.int v) = .int v) (hfit : fits ty (.int v) = true) (hd : decode cc pc = .ok (.putfield index, 3)) (kk : Y D cA bs ad p l e R s m args below meth c nL ce sk Q (si σ a k v) (pc + 3) lv st) : Y D cA bs ad p l e R s m args below meth c nL ce sk Q σ pc lv (.int v :: .ref (ad a) :: st) := by
  intro H locs ls h1 h2 h3
  obtain ⟨Cn, T, N, ty0, ⟨g1, g2, g3, g4, g5, g6, g7, g8⟩, g9, g10⟩ := hf
  have hl : a < 56 := xk_lt (by omega)
  have he : (wld ad cA σ)[a]? = some (ad a, .inr (ci, (List.range (nf ci)).map (vl ad σ a))) := by rw [wld_at hl, cel_obj ha g6]
  refine va_put C.1 C.2.1 C.2.2.2.2.1 g2 ty0 g7 g8 C.2.2.2.1 C.2.2.2.2.2.2.1 h1 (wld_D C.2.2.2.2.2.2.2.2.2) h2 a he g1 k g3 (C.2.2.2.2.1 _ g5) (fun _ q => q) g9 g10 hn hfit (by simp; omega) hd (fun H1 locs1 hP hD hS => kk H1 locs1 ls ?_ hS h3)
  rw [vl_set (σ' := si σ a k v) (by omega) (by simp [vl, ha, hkd, si, upd]) (fun j hj => by simp [vl, si, upd, hj]), wld_set (σ' := si σ a k v) (by rw [cel_obj ha g6]) (fun j hj => cel_si_ne hj)] at hP
  exact hP
theorem y_putl (C : Cx D cA bs ad own cc nL ret p s m args meth c) {index k a : Nat} {v : Int64} (hf : FP own index 8 k .long) (hkd : kd 8 k = 2) (hko : ∀ i j, kd (xk i) j = 2 → i = 43 ∧ j = k) (ha : xk a = 8) (hd : decode cc pc = .ok (.putfield index, 3)) (kk : Y D cA bs ad p l e R s m args below meth c nL ce sk Q (sl σ v) (pc + 3) lv st) : Y D cA bs ad p l e R s m args below meth c nL ce sk Q σ pc lv (.long v :: .ref (ad a) :: st) := by
  intro H locs ls h1 h2 h3
  obtain ⟨Cn, T, N, ty0, ⟨g1, g2, g3, g4, g5, g6, g7, g8⟩, g9, g10⟩ := hf
  have hl : a < 56 := xk_lt (by omega)
  have ha43 : a = 43 := (hko a k (by rw [ha]; exact hkd)).1
  have he : (wld ad cA σ)[a]? = some (ad a, .inr (8, (List.range (nf 8)).map (vl ad σ a))) := by rw [wld_at hl, cel_obj ha g6]
  refine va_put C.1 C.2.1 C.2.2.2.2.1 g2 ty0 g7 g8 C.2.2.2.1 C.2.2.2.2.2.2.1 h1 (wld_D C.2.2.2.2.2.2.2.2.2) h2 a he g1 k g3 (C.2.2.2.2.1 _ g5) (fun _ q => q) g9 g10 rfl rfl (by simp; omega) hd (fun H1 locs1 hP hD hS => kk H1 locs1 ls ?_ hS h3)
  have hv : ∀ i j, (i ≠ a ∨ j ≠ k) → vl ad (sl σ v) i j = vl ad σ i j := by
    intro i j hij
    unfold vl
    by_cases q1 : kd (xk i) j = 1
    · rw [if_pos q1, if_pos q1]
    · rw [if_neg q1, if_neg q1]
      by_cases q2 : kd (xk i) j = 2
      · have := hko i j q2
        omega
      · rw [if_neg q2, if_neg q2]
        rfl
  rw [vl_set (σ' := sl σ v) (by omega) (by simp [vl, ha, hkd, sl]) (fun j hj => hv a j (Or.inr hj)), wld_set (σ' := sl σ v) (by rw [cel_obj ha g6]) (fun j hj => by
    unfold cel
    by_cases q : 9 < xk j
    · rw [if_pos q, if_pos q]
      rfl
    · rw [if_neg q, if_neg q]
      congr 2
      exact List.map_congr_left (fun x _ => hv j x (Or.inl hj)))] at hP
  exact hP
theorem y_iald (C : Cx D cA bs ad own cc nL ret p s m args meth c) {a n : Nat} {i v : Int32} (ha : xk a = n + 9) (hn : 0 < n) (hv : ald σ a n i = some v) (hd : decode cc pc = .ok (.iaload, 1)) (kk : Y D cA bs ad p l e R s m args below meth c nL ce sk Q σ (pc + 1) lv (.int v :: st)) : Y D cA bs ad p l e R s m args below meth c nL ce sk Q σ pc lv (.int i :: .ref (ad a) :: st) := by
  intro H locs ls h1 h2 h3
  have hl : a < 56 := xk_lt (by omega)
  unfold ald at hv
  by_cases hi : i < 0 ∨ n ≤ i.toNatClampNeg
  · rw [if_pos hi] at hv; cases hv
  · rw [if_neg hi] at hv
    cases hv
    exact va_iald C.1 C.2.1 C.2.2.2.2.2.2.1 h1 a 0 (by rw [wld_at hl, cel_arr ha hn]) rfl hi hd (kk H locs ls h1 h2 h3)
theorem y_iast (C : Cx D cA bs ad own cc nL ret p s m args meth c) {a n : Nat} {i x : Int32} {σ' : St} (ha : xk a = n + 9) (hn : 0 < n) (hv : ast σ a n i x = some σ') (hd : decode cc pc = .ok (.iastore, 1)) (kk : Y D cA bs ad p l e R s m args below meth c nL ce sk Q σ' (pc + 1) lv st) : Y D cA bs ad p l e R s m args below meth c nL ce sk Q σ pc lv (.int x :: .int i :: .ref (ad a) :: st) := by
  intro H locs ls h1 h2 h3
  have hl : a < 56 := xk_lt (by omega)
  unfold ast at hv
  by_cases hi : i < 0 ∨ n ≤ i.toNatClampNeg
  · rw [if_pos hi] at hv; cases hv
  · rw [if_neg hi] at hv
    cases hv
    refine va_iast C.1 C.2.1 C.2.2.2.2.2.2.1 h1 (wld_D C.2.2.2.2.2.2.2.2.2) h2 a 0 (by rw [wld_at hl, cel_arr ha hn]) rfl hi hd (fun H1 locs1 hP hD hS => kk H1 locs1 ls ?_ hS h3)
    rw [wld_set (σ' := si σ a i.toNatClampNeg x) (by rw [cel_arr ha hn]; simp [si]) (fun j hj => cel_si_ne hj)] at hP
    exact hP
theorem y_copy (C : Cx D cA bs ad own cc nL ret p s m args meth c) {a0 a n index : Nat} {k : Int32} (ha0 : xk a0 = n + 9) (ha : xk a = n + 9) (hn : 0 < n) (hk : k = nI n) (hn2 : n < 2 ^ 31) (hw : Cond.methodLink own index arraycopyName ∈ gwt ∧ Cond.native arraycopyName ∈ gwt ∧ Cond.static arraycopyName ∈ gwt ∧ Cond.initialized "java/lang/System" ∈ gwt) (hfr : 1 ≤ R.frames) (hlo : (st.map fun v => v.category).sum + (nativeFrameWords "java/lang/System" "arraycopy" 5 + 11) ≤ R.locals) (hd : decode cc pc = .ok (.invokestatic index, 3)) (kk : Y D cA bs ad p l e R s m args below meth c nL ce sk Q (sc σ a (va_cpy (σ.1 a0) (σ.1 a) 0 0 n)) (pc + 3) lv st) : Y D cA bs ad p l e R s m args below meth c nL ce sk Q σ pc lv (.int k :: .int 0 :: .ref (ad a) :: .int 0 :: .ref (ad a0) :: st) := by
  intro H locs ls h1 h2 h3
  have hl : a < 56 := xk_lt (by omega)
  have hl0 : a0 < 56 := xk_lt (by omega)
  subst hk
  have hcl : (nI n).toNatClampNeg = n := nI_clamp hn2
  refine va_copyi C.1 C.2.1 (by rw [C.2.2.1]; exact h3.1.symm) C.2.2.2.1 (C.2.2.2.2.1 _ hw.1) (C.2.2.2.2.1 _ hw.2.1) (C.2.2.2.2.1 _ hw.2.2.1) (C.2.2.2.2.1 _ hw.2.2.2) C.2.2.2.2.2.2.1 h1 (wld_D C.2.2.2.2.2.2.2.2.2) h2 a0 a 0 0 (by rw [wld_at hl0, cel_arr ha0 hn]) (by rw [wld_at hl, cel_arr ha hn]) rfl rfl rfl (by decide) (by decide) (nI_pos hn2) (by rw [hcl]; show 0 + n ≤ n; omega) (by rw [hcl]; show 0 + n ≤ n; omega) (fun i _ => rfl) hfr hlo hd (fun H1 locs1 hP hD hS => kk H1 locs1 ls ?_ hS h3)
  rw [hcl, wld_set (σ' := sc σ a (va_cpy (σ.1 a0) (σ.1 a) 0 0 n)) (by rw [cel_arr ha hn]; simp [sc]) (fun j hj => cel_sc_ne hj)] at hP
  exact hP
theorem y_run {r : Option Value} {σ' : St} {rest : List Value} {a : Array Value} (hr : ∀ (H : Heap) (locs : List Loc) (ls : Array Slot), va_P D vwCl (wld ad cA σ) H → va_S (fun q => bs ≤ q) s.heap H locs → lv_has ls nL lv → va_Run p l e R s m args below meth c H locs ce sk 0 0 (F0 m pc ls st) rest (QC D cA bs ad r σ' a) (fun q => bs ≤ q)) (kk : Y D cA bs ad p l e R s m args below meth c nL ce sk Q σ' (pc + 3) lv (r.toList ++ rest)) : Y D cA bs ad p l e R s m args below meth c nL ce sk Q σ pc lv st := by
  intro H locs ls h1 hS h3 T hT X
  obtain ⟨v, st₀, t, T', L, h0, X', hL, e1, e2, ⟨⟨hv, hP1, hK1⟩, hz, hk⟩, go⟩ := hr H locs ls h1 hS h3 T hT X
  cases hv
  rw [h0] at hz hk
  obtain ⟨t2, a1, b1⟩ := kk T'.heap (locs ++ L) ls (by rw [e1]; exact hP1) ⟨Nat.le_trans hS.1 (by rw [e1]; exact hz), fun q h1 h2 => by rw [e1, hk q (Nat.lt_of_lt_of_le h1 hS.1) h2]; exact hS.2.1 q h1 h2, fun q hq => by
      rcases List.mem_append.mp hq with h | h
      · exact hS.2.2 q h
      · exact hL q h⟩ h3 T' rfl X'
  exact ⟨t2, go t2 a1, b1⟩
theorem ct_blind {As : List Value} : FrameBlind (va_Pc As (fun U => va_P D vwCl (wld ad cA σ) U.heap ∧ va_K D vwCl [(cA, .int)] U ∧ va_Nw nwW U ∧ AdOK bs ad)) := fun a U g mk q => by
  obtain ⟨q0, qP, qK, qN, qA⟩ := q
  exact ⟨q0, qP, va_K.moved (u := U) (U := U.calling g mk a) (Vm.Alike.refl U.vm) qK, va_Nw.same rfl rfl qN, qA⟩
/-- the words of a call -/
def VW (own Cn : String) (index : Nat) (y : MethodName) (bytes : ByteArray) (maxL : Nat) (ret : Option FieldType) (n : Nat) : Prop := Cond.methodLink own index y ∈ gwt ∧ Cond.instanceMethod y ∈ gwt ∧ Cond.selects Cn y y ∈ gwt ∧ Cond.initialized y.cls ∈ gwt ∧ Cond.code y bytes maxL ret ∈ gwt ∧ y.cls ≠ "java/lang/invoke/MethodHandle" ∧ y.cls ≠ "java/lang/invoke/VarHandle" ∧ (parseMethodDescriptor y.desc).map (fun d => d.parameters.length) = some n
def SW (own : String) (index : Nat) (y : MethodName) (bytes : ByteArray) (maxL : Nat) (ret : Option FieldType) (n : Nat) : Prop := Cond.methodLink own index y ∈ gwt ∧ Cond.static y ∈ gwt ∧ Cond.initialized y.cls ∈ gwt ∧ Cond.code y bytes maxL ret ∈ gwt ∧ y.cls ≠ "java/lang/invoke/MethodHandle" ∧ y.cls ≠ "java/lang/invoke/VarHandle" ∧ (parseMethodDescriptor y.desc).map (fun d => d.parameters.length) = some n
def SN (own : String) (index : Nat) (y : MethodName) (host : String) (bytes : ByteArray) (maxL : Nat) (ret : Option FieldType) (n : Nat) : Prop := Cond.methodLinkNest own index y host = nwW ∧ Cond.static y ∈ gwt ∧ Cond.initialized y.cls ∈ gwt ∧ Cond.code y bytes maxL ret ∈ gwt ∧ y.cls ≠ "java/lang/invoke/MethodHandle" ∧ y.cls ≠ "java/lang/invoke/VarHandle" ∧ (parseMethodDescriptor y.desc).map (fun d => d.parameters.length) = some n
theorem y_callV (C : Cx D cA bs ad own cc nL ret p s m args meth c) {index ci a n maxL fr lo N : Nat} {Cn : String} {T : u_T} {y : MethodName} {bytes : ByteArray} {rt : Option FieldType} {As rest : List Value} {r : Option Value} {σ' : St} (hM : Ct l D cA bs ad y bytes maxL rt fr lo (.ref (ad a) :: As) σ r σ') (hw : VW own Cn index y bytes maxL rt n) (hc : vwCl[ci]? = some (Cn, T, N)) (hci : ci < 9) (ha : xk a = ci) (hn : As.length = n) (hst : st = As.reverse ++ .ref (ad a) :: rest) (hrest : (rest.map fun v => v.category).sum ≤ 8) (hR : fr + 1 ≤ R.frames ∧ 8 + (maxL + 11) + lo ≤ R.locals) (hce : ce ≤ R.cells ∧ sk ≤ R.slots) (hd : decode cc pc = .ok (.invokevirtual index, 3)) (kk : Y D cA bs ad p l e R s m args below meth c nL ce sk Q σ' (pc + 3) lv (r.toList ++ rest)) : Y D cA bs ad p l e R s m args below meth c nL ce sk Q σ pc lv st := by
  obtain ⟨hx, hb, hml, hown, hts, hlk, hK, -, hNw, hAd⟩ := C
  obtain ⟨w1, w2, w3, w4, w5, w6⟩ := hw
  have hl : a < 56 := xk_lt (by omega)
  refine y_run (r := r) (σ' := σ') (rest := rest) (a := (.ref (ad a) :: As).toArray) (fun H locs ls h1 hS h3 => ?_) kk
  have he : (wld ad cA σ)[a]? = some (ad a, .inr (ci, (List.range (nf ci)).map (vl ad σ a))) := by rw [wld_at hl, cel_obj ha hci]
  exact va_runV (As := As) (rest := rest) (C := Cn) ⟨hx, hb, hml, hown, hts⟩ hM ⟨callB_of n hts (good_cons w5) rfl rfl rfl (hts _ w4) (hts _ w1) w6 hR, hts _ w2, hts _ w3⟩ ⟨ct_blind, va_recv (q := (Cn, T, N)) hK h1 hc he, fun U hU hW => ⟨rfl, by rw [hU]; exact h1, va_K.moved hW.alike hK, va_Nw.warmM hW hNw, hAd⟩⟩ rfl hn h3.1 hst (lv_room hrest) hd hce
theorem y_callS (C : Cx D cA bs ad own cc nL ret p s m args meth c) {index n maxL fr lo : Nat} {y : MethodName} {bytes : ByteArray} {rt : Option FieldType} {As rest : List Value} {r : Option Value} {σ' : St} (hM : Ct l D cA bs ad y bytes maxL rt fr lo As σ r σ') (hw : SW own index y bytes maxL rt n) (hn : As.length = n) (hst : st = As.reverse ++ rest) (hrest : (rest.map fun v => v.category).sum ≤ 8) (hR : fr + 1 ≤ R.frames ∧ 8 + (maxL + 11) + lo ≤ R.locals) (hce : ce ≤ R.cells ∧ sk ≤ R.slots) (hd : decode cc pc = .ok (.invokestatic index, 3)) (kk : Y D cA bs ad p l e R s m args below meth c nL ce sk Q σ' (pc + 3) lv (r.toList ++ rest)) : Y D cA bs ad p l e R s m args below meth c nL ce sk Q σ pc lv st := by
  obtain ⟨hx, hb, hml, hown, hts, hlk, hK, -, hNw, hAd⟩ := C
  obtain ⟨w1, w2, w4, w5, w6⟩ := hw
  refine y_run (r := r) (σ' := σ') (rest := rest) (a := As.toArray) (fun H locs ls h1 hS h3 => ?_) kk
  exact va_runS (As := As) (rest := rest) ⟨hx, hb, hml, hown, hts⟩ hM ⟨callB_of n hts (good_cons w5) rfl rfl rfl (hts _ w4) (hts _ w1) w6 hR, hts _ w2⟩ ⟨ct_blind, fun U hU hW => ⟨rfl, by rw [hU]; exact h1, va_K.moved hW.alike hK, va_Nw.warmM hW hNw, hAd⟩⟩ rfl hn h3.1 hst (lv_room hrest) hd hce
theorem y_callSN (C : Cx D cA bs ad own cc nL ret p s m args meth c) {index n maxL fr lo : Nat} {host : String} {y : MethodName} {bytes : ByteArray} {rt : Option FieldType} {As rest : List Value} {r : Option Value} {σ' : St} (hM : Ct l D cA bs ad y bytes maxL rt fr lo As σ r σ') (hw : SN own index y host bytes maxL rt n) (hn : As.length = n) (hst : st = As.reverse ++ rest) (hrest : (rest.map fun v => v.category).sum ≤ 8) (hR : fr + 1 ≤ R.frames ∧ 8 + (maxL + 11) + lo ≤ R.locals) (hce : ce ≤ R.cells ∧ sk ≤ R.slots) (hd : decode cc pc = .ok (.invokestatic index, 3)) (kk : Y D cA bs ad p l e R s m args below meth c nL ce sk Q σ' (pc + 3) lv (r.toList ++ rest)) : Y D cA bs ad p l e R s m args below meth c nL ce sk Q σ pc lv st := by
  obtain ⟨hx, hb, hml, hown, hts, hlk, hK, -, hNw, hAd⟩ := C
  obtain ⟨w1, w2, w4, w5, w6⟩ := hw
  refine y_run (r := r) (σ' := σ') (rest := rest) (a := As.toArray) (fun H locs ls h1 hS h3 => ?_) kk
  exact va_runSN (As := As) (rest := rest) (host := host) ⟨hx, hb, hml, hown, hts⟩ hM ⟨va_cnB n hts (good_cons w5) rfl rfl rfl (by rw [w1]; exact hNw) (hts _ w4) w6 hR, hts _ w2, trivial⟩ ⟨ct_blind, fun U hU hW => ⟨rfl, by rw [hU]; exact h1, va_K.moved hW.alike hK, va_Nw.warmM hW hNw, hAd⟩⟩ rfl hn h3.1 hst (lv_room hrest) hd hce
end YR
section YE
variable {D : va_G} {cA : ClassId} {bs : Nat} {ad : Nat → Nat} {p : Program} {l : Launch} {e : Env} {R : Room} {s : State} {m : MethodId} {args : Array Value} {below : List Frame} {meth : Method} {c : Code} {nL : Nat} {σ : St} {pc : Nat} {lv : List (Nat × Value)} {own : String} {cc : ByteArray}
theorem y_iret (C : Cx D cA bs ad own cc nL (some .int) p s m args meth c) {x : Int32} (hd : decode cc pc = .ok (.ireturn, 1)) : Y D cA bs ad p l e R s m args below meth c nL 0 0 (QM D cA bs ad below args s (some (.int x)) σ) σ pc lv [.int x] := fun H locs ls h1 h2 h3 => W.iret C.1 C.2.1 C.2.2.2.2.2.2.2.1 (fun t ht hW => ⟨⟨rfl, by rw [ht]; exact h1, va_K.moved hW.alike C.2.2.2.2.2.2.1⟩, h2.F ht⟩) h2.2.2 hd C.2.2.2.2.2.1
theorem y_zret (C : Cx D cA bs ad own cc nL (some .boolean) p s m args meth c) {x : Int32} (hx : x = 0 ∨ x = 1) (hd : decode cc pc = .ok (.ireturn, 1)) : Y D cA bs ad p l e R s m args below meth c nL 0 0 (QM D cA bs ad below args s (some (.int x)) σ) σ pc lv [.int x] := fun H locs ls h1 h2 h3 => W.zret C.1 C.2.1 C.2.2.2.2.2.2.2.1 (by rcases hx with rfl | rfl <;> rfl) (fun t ht hW => ⟨⟨rfl, by rw [ht]; exact h1, va_K.moved hW.alike C.2.2.2.2.2.2.1⟩, h2.F ht⟩) h2.2.2 hd C.2.2.2.2.2.1
theorem y_lret (C : Cx D cA bs ad own cc nL (some .long) p s m args meth c) {x : Int64} (hd : decode cc pc = .ok (.lreturn, 1)) : Y D cA bs ad p l e R s m args below meth c nL 0 0 (QM D cA bs ad below args s (some (.long x)) σ) σ pc lv [.long x] := fun H locs ls h1 h2 h3 => W.lret C.1 C.2.1 C.2.2.2.2.2.2.2.1 (fun t ht hW => ⟨⟨rfl, by rw [ht]; exact h1, va_K.moved hW.alike C.2.2.2.2.2.2.1⟩, h2.F ht⟩) h2.2.2 hd C.2.2.2.2.2.1
theorem y_vret (C : Cx D cA bs ad own cc nL none p s m args meth c) (hd : decode cc pc = .ok (.return_, 1)) : Y D cA bs ad p l e R s m args below meth c nL 0 0 (QM D cA bs ad below args s none σ) σ pc lv [] := fun H locs ls h1 h2 h3 => W.vret C.1 C.2.1 C.2.2.2.2.2.2.2.1 (fun t ht hW => ⟨⟨rfl, by rw [ht]; exact h1, va_K.moved hW.alike C.2.2.2.2.2.2.1⟩, h2.F ht⟩) h2.2.2 hd C.2.2.2.2.2.1
theorem y_aret {n : String} (C : Cx D cA bs ad own cc nL (some (.object n)) p s m args meth c) {a : Nat} (hd : decode cc pc = .ok (.areturn, 1)) : Y D cA bs ad p l e R s m args below meth c nL 0 0 (QM D cA bs ad below args s (some (.ref a)) σ) σ pc lv [.ref a] := fun H locs ls h1 h2 h3 => W.aret C.1 C.2.1 C.2.2.2.2.2.2.2.1 (Or.inl ⟨_, rfl⟩) (Or.inr ⟨_, rfl⟩) (fun t ht hW => ⟨⟨rfl, by rw [ht]; exact h1, va_K.moved hW.alike C.2.2.2.2.2.2.1⟩, h2.F ht⟩) h2.2.2 hd C.2.2.2.2.2.1
end YE
