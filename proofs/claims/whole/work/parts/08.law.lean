/-! THE CLAIM OUT OF ONE WALK OF THE LAW'S BODY. Your part is whole_start (and what it stands on); all else here is the same for every law, but numbers. -/
def R_law : String := "PavedAnewLaw"
def lw_P (b : Addr) (xs : List Int32) (args : Array Value) (s : State) : Prop := args = #[.ref b] ∧ s.IntsAt b xs ∧ xs.length ≤ 2048 ∧ (Jvm.Cond.and given_1 narrow_1).before args s = true
def lw_Q (_ : Array Value) (s : State) (o : Outcome) (t : State) : Prop := o = .returned (some (.int 1)) ∧ Framed s o t [] 56 4695
def lw_Z (below : List Frame) (a : Array Value) (s : State) : State → Prop := fun t => ∃ o, t.status = .running ∧ Ended t below o ∧ lw_Q a s o t
/-- the law's own end, with 1 on the stack, nothing written that was there before, its room as the claim has it -/
theorem lw_ret {p : Program} {l : Launch} {e : Env} {s : State} {m : MethodId} {below : List Frame} {meth : Method} {c : Code} {b : Nat} (hx : p.tables.exec = Jvm.exec) (hb : c.code = code) (hr : meth.sig.returnType = ret) (hlocks : meth.locks = false) {pc : Nat} {H : Heap} {ls : Array Slot} (hdg : decode code pc = .ok (.ireturn, 1)) : W p l e room_1 s m #[Value.ref b] below meth c H [] 56 4695 (lw_Z below #[Value.ref b] s) (F0 m pc ls [.int 1]) := by
  intro T hT X
  obtain ⟨fs, hret, hrun, hended, hW, hframe⟩ := X.leave (v := some (.int 1)) (hlocks := hlocks) (fun h => by rw [hr] at h; cases h)
  have hmeth' : T.vm.method? m = some meth := X.method'
  refine ⟨T.setFrames fs, ?_, .returned (some (.int 1)), hrun, hended, rfl, ⟨_, rfl⟩, hW, hframe⟩
  jvm_step X.here [X.here.top, hx, hb, hdg, hmeth', hr, ret, narrow_b1]
  (try refine ⟨rfl, ?_⟩); (try refine ⟨rfl, ?_⟩)
  first | (intro acts; rw [hret _ acts rfl rfl rfl]) | rw [hret _ _ rfl rfl rfl]
  exact Steps.refl _
/-- what holds at the law's entry: the machine, the code, the tables' words (any of lw_tbl by 'hts w (by decide +kernel)'), the script of L ints xs at the cell b, what the Statement gives of the start (any of its parts by flat_of_before) -/
def lw_At (p : Program) (s : State) (m : MethodId) (meth : Method) (c : Code) (b L : Nat) (xs : Nat → Int32) : Prop :=
  p.tables.exec = Jvm.exec ∧ c.code = code ∧ meth.sig.returnType = ret ∧ c.maxLocals = 4 ∧ s.vm.findClass R_law = some m.cls ∧ (∀ w ∈ lw_tbl, w.before #[Value.ref b] s = true) ∧ va_X b L xs s s.heap ∧ b < s.heap.size ∧ meth.locks = false ∧ (Jvm.Cond.and given_1 narrow_1).before #[Value.ref b] s = true

theorem mvX9_letters : Cond.instanceMethod yX9_letters ∈ gwt ∧ Cond.selects RX9 yX9_letters yX9_letters ∈ gwt ∧ Cond.initialized yX9_letters.cls ∈ gwt ∧ Cond.code yX9_letters cX9_letters 4 (some .int) ∈ gwt ∧ yX9_letters.cls ≠ "java/lang/invoke/MethodHandle" ∧ yX9_letters.cls ≠ "java/lang/invoke/VarHandle" ∧ (parseMethodDescriptor yX9_letters.desc).map (fun d => d.parameters.length) = some 1 := ⟨gw_of 253 (by decide +kernel) (by decide +kernel), gw_of 254 (by decide +kernel) (by decide +kernel), gw_of 44 (by decide +kernel) (by decide +kernel), gw_of 255 (by decide +kernel) (by decide +kernel), ⟨by decide, by decide, by decide +kernel⟩⟩
theorem vwL_15 : VW RL RX9 15 yX9_letters cX9_letters 4 (some .int) 1 := ⟨gw_of 252 (by decide +kernel) (by decide +kernel), mvX9_letters⟩
theorem mvX10_letters : Cond.instanceMethod yX10_letters ∈ gwt ∧ Cond.selects RX10 yX10_letters yX10_letters ∈ gwt ∧ Cond.initialized yX10_letters.cls ∈ gwt ∧ Cond.code yX10_letters cX10_letters 9 (some .int) ∈ gwt ∧ yX10_letters.cls ≠ "java/lang/invoke/MethodHandle" ∧ yX10_letters.cls ≠ "java/lang/invoke/VarHandle" ∧ (parseMethodDescriptor yX10_letters.desc).map (fun d => d.parameters.length) = some 1 := ⟨gw_of 898 (by decide +kernel) (by decide +kernel), gw_of 899 (by decide +kernel) (by decide +kernel), gw_of 52 (by decide +kernel) (by decide +kernel), gw_of 900 (by decide +kernel) (by decide +kernel), ⟨by decide, by decide, by decide +kernel⟩⟩
theorem vwL_19 : VW RL RX10 19 yX10_letters cX10_letters 9 (some .int) 1 := ⟨gw_of 897 (by decide +kernel) (by decide +kernel), mvX10_letters⟩
theorem mvX9_blank : Cond.instanceMethod yX9_blank ∈ gwt ∧ Cond.selects RX9 yX9_blank yX9_blank ∈ gwt ∧ Cond.initialized yX9_blank.cls ∈ gwt ∧ Cond.code yX9_blank cX9_blank 2 (some .int) ∈ gwt ∧ yX9_blank.cls ≠ "java/lang/invoke/MethodHandle" ∧ yX9_blank.cls ≠ "java/lang/invoke/VarHandle" ∧ (parseMethodDescriptor yX9_blank.desc).map (fun d => d.parameters.length) = some 0 := ⟨gw_of 271 (by decide +kernel) (by decide +kernel), gw_of 272 (by decide +kernel) (by decide +kernel), gw_of 44 (by decide +kernel) (by decide +kernel), gw_of 273 (by decide +kernel) (by decide +kernel), ⟨by decide, by decide, by decide +kernel⟩⟩
theorem vwL_20 : VW RL RX9 20 yX9_blank cX9_blank 2 (some .int) 0 := ⟨gw_of 270 (by decide +kernel) (by decide +kernel), mvX9_blank⟩
theorem mvX10_blank : Cond.instanceMethod yX10_blank ∈ gwt ∧ Cond.selects RX10 yX10_blank yX10_blank ∈ gwt ∧ Cond.initialized yX10_blank.cls ∈ gwt ∧ Cond.code yX10_blank cX10_blank 2 (some .int) ∈ gwt ∧ yX10_blank.cls ≠ "java/lang/invoke/MethodHandle" ∧ yX10_blank.cls ≠ "java/lang/invoke/VarHandle" ∧ (parseMethodDescriptor yX10_blank.desc).map (fun d => d.parameters.length) = some 0 := ⟨gw_of 903 (by decide +kernel) (by decide +kernel), gw_of 904 (by decide +kernel) (by decide +kernel), gw_of 52 (by decide +kernel) (by decide +kernel), gw_of 905 (by decide +kernel) (by decide +kernel), ⟨by decide, by decide, by decide +kernel⟩⟩
theorem vwL_24 : VW RL RX10 24 yX10_blank cX10_blank 2 (some .int) 0 := ⟨gw_of 902 (by decide +kernel) (by decide +kernel), mvX10_blank⟩
theorem mvX9_fault : Cond.instanceMethod yX9_fault ∈ gwt ∧ Cond.selects RX9 yX9_fault yX9_fault ∈ gwt ∧ Cond.initialized yX9_fault.cls ∈ gwt ∧ Cond.code yX9_fault cX9_fault 1 (some .int) ∈ gwt ∧ yX9_fault.cls ≠ "java/lang/invoke/MethodHandle" ∧ yX9_fault.cls ≠ "java/lang/invoke/VarHandle" ∧ (parseMethodDescriptor yX9_fault.desc).map (fun d => d.parameters.length) = some 0 := ⟨gw_of 279 (by decide +kernel) (by decide +kernel), gw_of 280 (by decide +kernel) (by decide +kernel), gw_of 44 (by decide +kernel) (by decide +kernel), gw_of 281 (by decide +kernel) (by decide +kernel), ⟨by decide, by decide, by decide +kernel⟩⟩
theorem vwL_25 : VW RL RX9 25 yX9_fault cX9_fault 1 (some .int) 0 := ⟨gw_of 278 (by decide +kernel) (by decide +kernel), mvX9_fault⟩
theorem mvX10_fault : Cond.instanceMethod yX10_fault ∈ gwt ∧ Cond.selects RX10 yX10_fault yX10_fault ∈ gwt ∧ Cond.initialized yX10_fault.cls ∈ gwt ∧ Cond.code yX10_fault cX10_fault 1 (some .int) ∈ gwt ∧ yX10_fault.cls ≠ "java/lang/invoke/MethodHandle" ∧ yX10_fault.cls ≠ "java/lang/invoke/VarHandle" ∧ (parseMethodDescriptor yX10_fault.desc).map (fun d => d.parameters.length) = some 0 := ⟨gw_of 907 (by decide +kernel) (by decide +kernel), gw_of 908 (by decide +kernel) (by decide +kernel), gw_of 52 (by decide +kernel) (by decide +kernel), gw_of 909 (by decide +kernel) (by decide +kernel), ⟨by decide, by decide, by decide +kernel⟩⟩
theorem vwL_28 : VW RL RX10 28 yX10_fault cX10_fault 1 (some .int) 0 := ⟨gw_of 906 (by decide +kernel) (by decide +kernel), mvX10_fault⟩
theorem mvX9_law : Cond.instanceMethod yX9_law ∈ gwt ∧ Cond.selects RX9 yX9_law yX9_law ∈ gwt ∧ Cond.initialized yX9_law.cls ∈ gwt ∧ Cond.code yX9_law cX9_law 1 (some .int) ∈ gwt ∧ yX9_law.cls ≠ "java/lang/invoke/MethodHandle" ∧ yX9_law.cls ≠ "java/lang/invoke/VarHandle" ∧ (parseMethodDescriptor yX9_law.desc).map (fun d => d.parameters.length) = some 0 := ⟨gw_of 296 (by decide +kernel) (by decide +kernel), gw_of 297 (by decide +kernel) (by decide +kernel), gw_of 44 (by decide +kernel) (by decide +kernel), gw_of 298 (by decide +kernel) (by decide +kernel), ⟨by decide, by decide, by decide +kernel⟩⟩
theorem vwL_29 : VW RL RX9 29 yX9_law cX9_law 1 (some .int) 0 := ⟨gw_of 295 (by decide +kernel) (by decide +kernel), mvX9_law⟩
theorem mvX10_law : Cond.instanceMethod yX10_law ∈ gwt ∧ Cond.selects RX10 yX10_law yX10_law ∈ gwt ∧ Cond.initialized yX10_law.cls ∈ gwt ∧ Cond.code yX10_law cX10_law 1 (some .int) ∈ gwt ∧ yX10_law.cls ≠ "java/lang/invoke/MethodHandle" ∧ yX10_law.cls ≠ "java/lang/invoke/VarHandle" ∧ (parseMethodDescriptor yX10_law.desc).map (fun d => d.parameters.length) = some 0 := ⟨gw_of 924 (by decide +kernel) (by decide +kernel), gw_of 925 (by decide +kernel) (by decide +kernel), gw_of 52 (by decide +kernel) (by decide +kernel), gw_of 926 (by decide +kernel) (by decide +kernel), ⟨by decide, by decide, by decide +kernel⟩⟩
theorem vwL_32 : VW RL RX10 32 yX10_law cX10_law 1 (some .int) 0 := ⟨gw_of 923 (by decide +kernel) (by decide +kernel), mvX10_law⟩
theorem mvX9_lawTold : Cond.instanceMethod yX9_lawTold ∈ gwt ∧ Cond.selects RX9 yX9_lawTold yX9_lawTold ∈ gwt ∧ Cond.initialized yX9_lawTold.cls ∈ gwt ∧ Cond.code yX9_lawTold cX9_lawTold 2 (some .int) ∈ gwt ∧ yX9_lawTold.cls ≠ "java/lang/invoke/MethodHandle" ∧ yX9_lawTold.cls ≠ "java/lang/invoke/VarHandle" ∧ (parseMethodDescriptor yX9_lawTold.desc).map (fun d => d.parameters.length) = some 1 := ⟨gw_of 318 (by decide +kernel) (by decide +kernel), gw_of 319 (by decide +kernel) (by decide +kernel), gw_of 44 (by decide +kernel) (by decide +kernel), gw_of 320 (by decide +kernel) (by decide +kernel), ⟨by decide, by decide, by decide +kernel⟩⟩
theorem vwL_33 : VW RL RX9 33 yX9_lawTold cX9_lawTold 2 (some .int) 1 := ⟨gw_of 317 (by decide +kernel) (by decide +kernel), mvX9_lawTold⟩
theorem mvX10_lawTold : Cond.instanceMethod yX10_lawTold ∈ gwt ∧ Cond.selects RX10 yX10_lawTold yX10_lawTold ∈ gwt ∧ Cond.initialized yX10_lawTold.cls ∈ gwt ∧ Cond.code yX10_lawTold cX10_lawTold 2 (some .int) ∈ gwt ∧ yX10_lawTold.cls ≠ "java/lang/invoke/MethodHandle" ∧ yX10_lawTold.cls ≠ "java/lang/invoke/VarHandle" ∧ (parseMethodDescriptor yX10_lawTold.desc).map (fun d => d.parameters.length) = some 1 := ⟨gw_of 928 (by decide +kernel) (by decide +kernel), gw_of 929 (by decide +kernel) (by decide +kernel), gw_of 52 (by decide +kernel) (by decide +kernel), gw_of 930 (by decide +kernel) (by decide +kernel), ⟨by decide, by decide, by decide +kernel⟩⟩
theorem vwL_37 : VW RL RX10 37 yX10_lawTold cX10_lawTold 2 (some .int) 1 := ⟨gw_of 927 (by decide +kernel) (by decide +kernel), mvX10_lawTold⟩
theorem mvX9_block : Cond.instanceMethod yX9_block ∈ gwt ∧ Cond.selects RX9 yX9_block yX9_block ∈ gwt ∧ Cond.initialized yX9_block.cls ∈ gwt ∧ Cond.code yX9_block cX9_block 4 (some .int) ∈ gwt ∧ yX9_block.cls ≠ "java/lang/invoke/MethodHandle" ∧ yX9_block.cls ≠ "java/lang/invoke/VarHandle" ∧ (parseMethodDescriptor yX9_block.desc).map (fun d => d.parameters.length) = some 3 := ⟨gw_of 327 (by decide +kernel) (by decide +kernel), gw_of 328 (by decide +kernel) (by decide +kernel), gw_of 44 (by decide +kernel) (by decide +kernel), gw_of 329 (by decide +kernel) (by decide +kernel), ⟨by decide, by decide, by decide +kernel⟩⟩
theorem vwL_38 : VW RL RX9 38 yX9_block cX9_block 4 (some .int) 3 := ⟨gw_of 326 (by decide +kernel) (by decide +kernel), mvX9_block⟩
theorem mvX10_block : Cond.instanceMethod yX10_block ∈ gwt ∧ Cond.selects RX10 yX10_block yX10_block ∈ gwt ∧ Cond.initialized yX10_block.cls ∈ gwt ∧ Cond.code yX10_block cX10_block 4 (some .int) ∈ gwt ∧ yX10_block.cls ≠ "java/lang/invoke/MethodHandle" ∧ yX10_block.cls ≠ "java/lang/invoke/VarHandle" ∧ (parseMethodDescriptor yX10_block.desc).map (fun d => d.parameters.length) = some 3 := ⟨gw_of 936 (by decide +kernel) (by decide +kernel), gw_of 937 (by decide +kernel) (by decide +kernel), gw_of 52 (by decide +kernel) (by decide +kernel), gw_of 938 (by decide +kernel) (by decide +kernel), ⟨by decide, by decide, by decide +kernel⟩⟩
theorem vwL_42 : VW RL RX10 42 yX10_block cX10_block 4 (some .int) 3 := ⟨gw_of 935 (by decide +kernel) (by decide +kernel), mvX10_block⟩
theorem mvX9_about : Cond.instanceMethod yX9_about ∈ gwt ∧ Cond.selects RX9 yX9_about yX9_about ∈ gwt ∧ Cond.initialized yX9_about.cls ∈ gwt ∧ Cond.code yX9_about cX9_about 3 (some .int) ∈ gwt ∧ yX9_about.cls ≠ "java/lang/invoke/MethodHandle" ∧ yX9_about.cls ≠ "java/lang/invoke/VarHandle" ∧ (parseMethodDescriptor yX9_about.desc).map (fun d => d.parameters.length) = some 2 := ⟨gw_of 342 (by decide +kernel) (by decide +kernel), gw_of 343 (by decide +kernel) (by decide +kernel), gw_of 44 (by decide +kernel) (by decide +kernel), gw_of 344 (by decide +kernel) (by decide +kernel), ⟨by decide, by decide, by decide +kernel⟩⟩
theorem vwL_43 : VW RL RX9 43 yX9_about cX9_about 3 (some .int) 2 := ⟨gw_of 341 (by decide +kernel) (by decide +kernel), mvX9_about⟩
theorem mvX10_about : Cond.instanceMethod yX10_about ∈ gwt ∧ Cond.selects RX10 yX10_about yX10_about ∈ gwt ∧ Cond.initialized yX10_about.cls ∈ gwt ∧ Cond.code yX10_about cX10_about 3 (some .int) ∈ gwt ∧ yX10_about.cls ≠ "java/lang/invoke/MethodHandle" ∧ yX10_about.cls ≠ "java/lang/invoke/VarHandle" ∧ (parseMethodDescriptor yX10_about.desc).map (fun d => d.parameters.length) = some 2 := ⟨gw_of 942 (by decide +kernel) (by decide +kernel), gw_of 943 (by decide +kernel) (by decide +kernel), gw_of 52 (by decide +kernel) (by decide +kernel), gw_of 944 (by decide +kernel) (by decide +kernel), ⟨by decide, by decide, by decide +kernel⟩⟩
theorem vwL_47 : VW RL RX10 47 yX10_about cX10_about 3 (some .int) 2 := ⟨gw_of 941 (by decide +kernel) (by decide +kernel), mvX10_about⟩
theorem mvX9_as : Cond.instanceMethod yX9_as ∈ gwt ∧ Cond.selects RX9 yX9_as yX9_as ∈ gwt ∧ Cond.initialized yX9_as.cls ∈ gwt ∧ Cond.code yX9_as cX9_as 3 (some .int) ∈ gwt ∧ yX9_as.cls ≠ "java/lang/invoke/MethodHandle" ∧ yX9_as.cls ≠ "java/lang/invoke/VarHandle" ∧ (parseMethodDescriptor yX9_as.desc).map (fun d => d.parameters.length) = some 2 := ⟨gw_of 354 (by decide +kernel) (by decide +kernel), gw_of 355 (by decide +kernel) (by decide +kernel), gw_of 44 (by decide +kernel) (by decide +kernel), gw_of 356 (by decide +kernel) (by decide +kernel), ⟨by decide, by decide, by decide +kernel⟩⟩
theorem vwL_48 : VW RL RX9 48 yX9_as cX9_as 3 (some .int) 2 := ⟨gw_of 353 (by decide +kernel) (by decide +kernel), mvX9_as⟩
theorem mvX10_as : Cond.instanceMethod yX10_as ∈ gwt ∧ Cond.selects RX10 yX10_as yX10_as ∈ gwt ∧ Cond.initialized yX10_as.cls ∈ gwt ∧ Cond.code yX10_as cX10_as 4 (some .int) ∈ gwt ∧ yX10_as.cls ≠ "java/lang/invoke/MethodHandle" ∧ yX10_as.cls ≠ "java/lang/invoke/VarHandle" ∧ (parseMethodDescriptor yX10_as.desc).map (fun d => d.parameters.length) = some 2 := ⟨gw_of 954 (by decide +kernel) (by decide +kernel), gw_of 955 (by decide +kernel) (by decide +kernel), gw_of 52 (by decide +kernel) (by decide +kernel), gw_of 956 (by decide +kernel) (by decide +kernel), ⟨by decide, by decide, by decide +kernel⟩⟩
theorem vwL_51 : VW RL RX10 51 yX10_as cX10_as 4 (some .int) 2 := ⟨gw_of 953 (by decide +kernel) (by decide +kernel), mvX10_as⟩
theorem mvX9_wheels : Cond.instanceMethod yX9_wheels ∈ gwt ∧ Cond.selects RX9 yX9_wheels yX9_wheels ∈ gwt ∧ Cond.initialized yX9_wheels.cls ∈ gwt ∧ Cond.code yX9_wheels cX9_wheels 3 (some .int) ∈ gwt ∧ yX9_wheels.cls ≠ "java/lang/invoke/MethodHandle" ∧ yX9_wheels.cls ≠ "java/lang/invoke/VarHandle" ∧ (parseMethodDescriptor yX9_wheels.desc).map (fun d => d.parameters.length) = some 2 := ⟨gw_of 365 (by decide +kernel) (by decide +kernel), gw_of 366 (by decide +kernel) (by decide +kernel), gw_of 44 (by decide +kernel) (by decide +kernel), gw_of 367 (by decide +kernel) (by decide +kernel), ⟨by decide, by decide, by decide +kernel⟩⟩
theorem vwL_52 : VW RL RX9 52 yX9_wheels cX9_wheels 3 (some .int) 2 := ⟨gw_of 364 (by decide +kernel) (by decide +kernel), mvX9_wheels⟩
theorem mvX10_wheels : Cond.instanceMethod yX10_wheels ∈ gwt ∧ Cond.selects RX10 yX10_wheels yX10_wheels ∈ gwt ∧ Cond.initialized yX10_wheels.cls ∈ gwt ∧ Cond.code yX10_wheels cX10_wheels 4 (some .int) ∈ gwt ∧ yX10_wheels.cls ≠ "java/lang/invoke/MethodHandle" ∧ yX10_wheels.cls ≠ "java/lang/invoke/VarHandle" ∧ (parseMethodDescriptor yX10_wheels.desc).map (fun d => d.parameters.length) = some 2 := ⟨gw_of 958 (by decide +kernel) (by decide +kernel), gw_of 959 (by decide +kernel) (by decide +kernel), gw_of 52 (by decide +kernel) (by decide +kernel), gw_of 960 (by decide +kernel) (by decide +kernel), ⟨by decide, by decide, by decide +kernel⟩⟩
theorem vwL_55 : VW RL RX10 55 yX10_wheels cX10_wheels 4 (some .int) 2 := ⟨gw_of 957 (by decide +kernel) (by decide +kernel), mvX10_wheels⟩
theorem mvX9_at : Cond.instanceMethod yX9_at ∈ gwt ∧ Cond.selects RX9 yX9_at yX9_at ∈ gwt ∧ Cond.initialized yX9_at.cls ∈ gwt ∧ Cond.code yX9_at cX9_at 2 (some .int) ∈ gwt ∧ yX9_at.cls ≠ "java/lang/invoke/MethodHandle" ∧ yX9_at.cls ≠ "java/lang/invoke/VarHandle" ∧ (parseMethodDescriptor yX9_at.desc).map (fun d => d.parameters.length) = some 1 := ⟨gw_of 373 (by decide +kernel) (by decide +kernel), gw_of 374 (by decide +kernel) (by decide +kernel), gw_of 44 (by decide +kernel) (by decide +kernel), gw_of 375 (by decide +kernel) (by decide +kernel), ⟨by decide, by decide, by decide +kernel⟩⟩
theorem vwL_56 : VW RL RX9 56 yX9_at cX9_at 2 (some .int) 1 := ⟨gw_of 372 (by decide +kernel) (by decide +kernel), mvX9_at⟩
theorem mvX10_at : Cond.instanceMethod yX10_at ∈ gwt ∧ Cond.selects RX10 yX10_at yX10_at ∈ gwt ∧ Cond.initialized yX10_at.cls ∈ gwt ∧ Cond.code yX10_at cX10_at 2 (some .int) ∈ gwt ∧ yX10_at.cls ≠ "java/lang/invoke/MethodHandle" ∧ yX10_at.cls ≠ "java/lang/invoke/VarHandle" ∧ (parseMethodDescriptor yX10_at.desc).map (fun d => d.parameters.length) = some 1 := ⟨gw_of 964 (by decide +kernel) (by decide +kernel), gw_of 965 (by decide +kernel) (by decide +kernel), gw_of 52 (by decide +kernel) (by decide +kernel), gw_of 966 (by decide +kernel) (by decide +kernel), ⟨by decide, by decide, by decide +kernel⟩⟩
theorem vwL_59 : VW RL RX10 59 yX10_at cX10_at 2 (some .int) 1 := ⟨gw_of 963 (by decide +kernel) (by decide +kernel), mvX10_at⟩
theorem mvX9_turn : Cond.instanceMethod yX9_turn ∈ gwt ∧ Cond.selects RX9 yX9_turn yX9_turn ∈ gwt ∧ Cond.initialized yX9_turn.cls ∈ gwt ∧ Cond.code yX9_turn cX9_turn 2 (some .int) ∈ gwt ∧ yX9_turn.cls ≠ "java/lang/invoke/MethodHandle" ∧ yX9_turn.cls ≠ "java/lang/invoke/VarHandle" ∧ (parseMethodDescriptor yX9_turn.desc).map (fun d => d.parameters.length) = some 1 := ⟨gw_of 381 (by decide +kernel) (by decide +kernel), gw_of 382 (by decide +kernel) (by decide +kernel), gw_of 44 (by decide +kernel) (by decide +kernel), gw_of 383 (by decide +kernel) (by decide +kernel), ⟨by decide, by decide, by decide +kernel⟩⟩
theorem vwL_60 : VW RL RX9 60 yX9_turn cX9_turn 2 (some .int) 1 := ⟨gw_of 380 (by decide +kernel) (by decide +kernel), mvX9_turn⟩
theorem mvX10_turn : Cond.instanceMethod yX10_turn ∈ gwt ∧ Cond.selects RX10 yX10_turn yX10_turn ∈ gwt ∧ Cond.initialized yX10_turn.cls ∈ gwt ∧ Cond.code yX10_turn cX10_turn 2 (some .int) ∈ gwt ∧ yX10_turn.cls ≠ "java/lang/invoke/MethodHandle" ∧ yX10_turn.cls ≠ "java/lang/invoke/VarHandle" ∧ (parseMethodDescriptor yX10_turn.desc).map (fun d => d.parameters.length) = some 1 := ⟨gw_of 972 (by decide +kernel) (by decide +kernel), gw_of 973 (by decide +kernel) (by decide +kernel), gw_of 52 (by decide +kernel) (by decide +kernel), gw_of 974 (by decide +kernel) (by decide +kernel), ⟨by decide, by decide, by decide +kernel⟩⟩
theorem vwL_63 : VW RL RX10 63 yX10_turn cX10_turn 2 (some .int) 1 := ⟨gw_of 971 (by decide +kernel) (by decide +kernel), mvX10_turn⟩
theorem mvX9_thief : Cond.instanceMethod yX9_thief ∈ gwt ∧ Cond.selects RX9 yX9_thief yX9_thief ∈ gwt ∧ Cond.initialized yX9_thief.cls ∈ gwt ∧ Cond.code yX9_thief cX9_thief 2 (some .int) ∈ gwt ∧ yX9_thief.cls ≠ "java/lang/invoke/MethodHandle" ∧ yX9_thief.cls ≠ "java/lang/invoke/VarHandle" ∧ (parseMethodDescriptor yX9_thief.desc).map (fun d => d.parameters.length) = some 1 := ⟨gw_of 393 (by decide +kernel) (by decide +kernel), gw_of 394 (by decide +kernel) (by decide +kernel), gw_of 44 (by decide +kernel) (by decide +kernel), gw_of 395 (by decide +kernel) (by decide +kernel), ⟨by decide, by decide, by decide +kernel⟩⟩
theorem vwL_64 : VW RL RX9 64 yX9_thief cX9_thief 2 (some .int) 1 := ⟨gw_of 392 (by decide +kernel) (by decide +kernel), mvX9_thief⟩
theorem mvX10_thief : Cond.instanceMethod yX10_thief ∈ gwt ∧ Cond.selects RX10 yX10_thief yX10_thief ∈ gwt ∧ Cond.initialized yX10_thief.cls ∈ gwt ∧ Cond.code yX10_thief cX10_thief 4 (some .int) ∈ gwt ∧ yX10_thief.cls ≠ "java/lang/invoke/MethodHandle" ∧ yX10_thief.cls ≠ "java/lang/invoke/VarHandle" ∧ (parseMethodDescriptor yX10_thief.desc).map (fun d => d.parameters.length) = some 1 := ⟨gw_of 979 (by decide +kernel) (by decide +kernel), gw_of 980 (by decide +kernel) (by decide +kernel), gw_of 52 (by decide +kernel) (by decide +kernel), gw_of 981 (by decide +kernel) (by decide +kernel), ⟨by decide, by decide, by decide +kernel⟩⟩
theorem vwL_67 : VW RL RX10 67 yX10_thief cX10_thief 4 (some .int) 1 := ⟨gw_of 978 (by decide +kernel) (by decide +kernel), mvX10_thief⟩
theorem mvX9_lay : Cond.instanceMethod yX9_lay ∈ gwt ∧ Cond.selects RX9 yX9_lay yX9_lay ∈ gwt ∧ Cond.initialized yX9_lay.cls ∈ gwt ∧ Cond.code yX9_lay cX9_lay 2 (some .int) ∈ gwt ∧ yX9_lay.cls ≠ "java/lang/invoke/MethodHandle" ∧ yX9_lay.cls ≠ "java/lang/invoke/VarHandle" ∧ (parseMethodDescriptor yX9_lay.desc).map (fun d => d.parameters.length) = some 1 := ⟨gw_of 405 (by decide +kernel) (by decide +kernel), gw_of 406 (by decide +kernel) (by decide +kernel), gw_of 44 (by decide +kernel) (by decide +kernel), gw_of 407 (by decide +kernel) (by decide +kernel), ⟨by decide, by decide, by decide +kernel⟩⟩
theorem vwL_68 : VW RL RX9 68 yX9_lay cX9_lay 2 (some .int) 1 := ⟨gw_of 404 (by decide +kernel) (by decide +kernel), mvX9_lay⟩
theorem mvX10_lay : Cond.instanceMethod yX10_lay ∈ gwt ∧ Cond.selects RX10 yX10_lay yX10_lay ∈ gwt ∧ Cond.initialized yX10_lay.cls ∈ gwt ∧ Cond.code yX10_lay cX10_lay 2 (some .int) ∈ gwt ∧ yX10_lay.cls ≠ "java/lang/invoke/MethodHandle" ∧ yX10_lay.cls ≠ "java/lang/invoke/VarHandle" ∧ (parseMethodDescriptor yX10_lay.desc).map (fun d => d.parameters.length) = some 1 := ⟨gw_of 983 (by decide +kernel) (by decide +kernel), gw_of 984 (by decide +kernel) (by decide +kernel), gw_of 52 (by decide +kernel) (by decide +kernel), gw_of 985 (by decide +kernel) (by decide +kernel), ⟨by decide, by decide, by decide +kernel⟩⟩
theorem vwL_71 : VW RL RX10 71 yX10_lay cX10_lay 2 (some .int) 1 := ⟨gw_of 982 (by decide +kernel) (by decide +kernel), mvX10_lay⟩
theorem mvX9_lawful : Cond.instanceMethod yX9_lawful ∈ gwt ∧ Cond.selects RX9 yX9_lawful yX9_lawful ∈ gwt ∧ Cond.initialized yX9_lawful.cls ∈ gwt ∧ Cond.code yX9_lawful cX9_lawful 2 (some .int) ∈ gwt ∧ yX9_lawful.cls ≠ "java/lang/invoke/MethodHandle" ∧ yX9_lawful.cls ≠ "java/lang/invoke/VarHandle" ∧ (parseMethodDescriptor yX9_lawful.desc).map (fun d => d.parameters.length) = some 1 := ⟨gw_of 472 (by decide +kernel) (by decide +kernel), gw_of 473 (by decide +kernel) (by decide +kernel), gw_of 44 (by decide +kernel) (by decide +kernel), gw_of 474 (by decide +kernel) (by decide +kernel), ⟨by decide, by decide, by decide +kernel⟩⟩
theorem vwL_72 : VW RL RX9 72 yX9_lawful cX9_lawful 2 (some .int) 1 := ⟨gw_of 471 (by decide +kernel) (by decide +kernel), mvX9_lawful⟩
theorem mvX10_lawful : Cond.instanceMethod yX10_lawful ∈ gwt ∧ Cond.selects RX10 yX10_lawful yX10_lawful ∈ gwt ∧ Cond.initialized yX10_lawful.cls ∈ gwt ∧ Cond.code yX10_lawful cX10_lawful 2 (some .int) ∈ gwt ∧ yX10_lawful.cls ≠ "java/lang/invoke/MethodHandle" ∧ yX10_lawful.cls ≠ "java/lang/invoke/VarHandle" ∧ (parseMethodDescriptor yX10_lawful.desc).map (fun d => d.parameters.length) = some 1 := ⟨gw_of 1010 (by decide +kernel) (by decide +kernel), gw_of 1011 (by decide +kernel) (by decide +kernel), gw_of 52 (by decide +kernel) (by decide +kernel), gw_of 1012 (by decide +kernel) (by decide +kernel), ⟨by decide, by decide, by decide +kernel⟩⟩
theorem vwL_75 : VW RL RX10 75 yX10_lawful cX10_lawful 2 (some .int) 1 := ⟨gw_of 1009 (by decide +kernel) (by decide +kernel), mvX10_lawful⟩
theorem mvX9_years : Cond.instanceMethod yX9_years ∈ gwt ∧ Cond.selects RX9 yX9_years yX9_years ∈ gwt ∧ Cond.initialized yX9_years.cls ∈ gwt ∧ Cond.code yX9_years cX9_years 3 (some .int) ∈ gwt ∧ yX9_years.cls ≠ "java/lang/invoke/MethodHandle" ∧ yX9_years.cls ≠ "java/lang/invoke/VarHandle" ∧ (parseMethodDescriptor yX9_years.desc).map (fun d => d.parameters.length) = some 1 := ⟨gw_of 476 (by decide +kernel) (by decide +kernel), gw_of 477 (by decide +kernel) (by decide +kernel), gw_of 44 (by decide +kernel) (by decide +kernel), gw_of 478 (by decide +kernel) (by decide +kernel), ⟨by decide, by decide, by decide +kernel⟩⟩
theorem vwL_76 : VW RL RX9 76 yX9_years cX9_years 3 (some .int) 1 := ⟨gw_of 475 (by decide +kernel) (by decide +kernel), mvX9_years⟩
theorem mvX10_years : Cond.instanceMethod yX10_years ∈ gwt ∧ Cond.selects RX10 yX10_years yX10_years ∈ gwt ∧ Cond.initialized yX10_years.cls ∈ gwt ∧ Cond.code yX10_years cX10_years 3 (some .int) ∈ gwt ∧ yX10_years.cls ≠ "java/lang/invoke/MethodHandle" ∧ yX10_years.cls ≠ "java/lang/invoke/VarHandle" ∧ (parseMethodDescriptor yX10_years.desc).map (fun d => d.parameters.length) = some 1 := ⟨gw_of 1014 (by decide +kernel) (by decide +kernel), gw_of 1015 (by decide +kernel) (by decide +kernel), gw_of 52 (by decide +kernel) (by decide +kernel), gw_of 1016 (by decide +kernel) (by decide +kernel), ⟨by decide, by decide, by decide +kernel⟩⟩
theorem vwL_79 : VW RL RX10 79 yX10_years cX10_years 3 (some .int) 1 := ⟨gw_of 1013 (by decide +kernel) (by decide +kernel), mvX10_years⟩
theorem mvX9_worst : Cond.instanceMethod yX9_worst ∈ gwt ∧ Cond.selects RX9 yX9_worst yX9_worst ∈ gwt ∧ Cond.initialized yX9_worst.cls ∈ gwt ∧ Cond.code yX9_worst cX9_worst 1 (some .int) ∈ gwt ∧ yX9_worst.cls ≠ "java/lang/invoke/MethodHandle" ∧ yX9_worst.cls ≠ "java/lang/invoke/VarHandle" ∧ (parseMethodDescriptor yX9_worst.desc).map (fun d => d.parameters.length) = some 0 := ⟨gw_of 495 (by decide +kernel) (by decide +kernel), gw_of 496 (by decide +kernel) (by decide +kernel), gw_of 44 (by decide +kernel) (by decide +kernel), gw_of 497 (by decide +kernel) (by decide +kernel), ⟨by decide, by decide, by decide +kernel⟩⟩
theorem vwL_80 : VW RL RX9 80 yX9_worst cX9_worst 1 (some .int) 0 := ⟨gw_of 494 (by decide +kernel) (by decide +kernel), mvX9_worst⟩
theorem mvX10_worst : Cond.instanceMethod yX10_worst ∈ gwt ∧ Cond.selects RX10 yX10_worst yX10_worst ∈ gwt ∧ Cond.initialized yX10_worst.cls ∈ gwt ∧ Cond.code yX10_worst cX10_worst 1 (some .int) ∈ gwt ∧ yX10_worst.cls ≠ "java/lang/invoke/MethodHandle" ∧ yX10_worst.cls ≠ "java/lang/invoke/VarHandle" ∧ (parseMethodDescriptor yX10_worst.desc).map (fun d => d.parameters.length) = some 0 := ⟨gw_of 1026 (by decide +kernel) (by decide +kernel), gw_of 1027 (by decide +kernel) (by decide +kernel), gw_of 52 (by decide +kernel) (by decide +kernel), gw_of 1028 (by decide +kernel) (by decide +kernel), ⟨by decide, by decide, by decide +kernel⟩⟩
theorem vwL_83 : VW RL RX10 83 yX10_worst cX10_worst 1 (some .int) 0 := ⟨gw_of 1025 (by decide +kernel) (by decide +kernel), mvX10_worst⟩
theorem mvX9_best : Cond.instanceMethod yX9_best ∈ gwt ∧ Cond.selects RX9 yX9_best yX9_best ∈ gwt ∧ Cond.initialized yX9_best.cls ∈ gwt ∧ Cond.code yX9_best cX9_best 2 (some .int) ∈ gwt ∧ yX9_best.cls ≠ "java/lang/invoke/MethodHandle" ∧ yX9_best.cls ≠ "java/lang/invoke/VarHandle" ∧ (parseMethodDescriptor yX9_best.desc).map (fun d => d.parameters.length) = some 1 := ⟨gw_of 499 (by decide +kernel) (by decide +kernel), gw_of 500 (by decide +kernel) (by decide +kernel), gw_of 44 (by decide +kernel) (by decide +kernel), gw_of 501 (by decide +kernel) (by decide +kernel), ⟨by decide, by decide, by decide +kernel⟩⟩
theorem vwL_84 : VW RL RX9 84 yX9_best cX9_best 2 (some .int) 1 := ⟨gw_of 498 (by decide +kernel) (by decide +kernel), mvX9_best⟩
theorem mvX10_best : Cond.instanceMethod yX10_best ∈ gwt ∧ Cond.selects RX10 yX10_best yX10_best ∈ gwt ∧ Cond.initialized yX10_best.cls ∈ gwt ∧ Cond.code yX10_best cX10_best 3 (some .int) ∈ gwt ∧ yX10_best.cls ≠ "java/lang/invoke/MethodHandle" ∧ yX10_best.cls ≠ "java/lang/invoke/VarHandle" ∧ (parseMethodDescriptor yX10_best.desc).map (fun d => d.parameters.length) = some 1 := ⟨gw_of 1030 (by decide +kernel) (by decide +kernel), gw_of 1031 (by decide +kernel) (by decide +kernel), gw_of 52 (by decide +kernel) (by decide +kernel), gw_of 1032 (by decide +kernel) (by decide +kernel), ⟨by decide, by decide, by decide +kernel⟩⟩
theorem vwL_87 : VW RL RX10 87 yX10_best cX10_best 3 (some .int) 1 := ⟨gw_of 1029 (by decide +kernel) (by decide +kernel), mvX10_best⟩
theorem mvX9_howMany : Cond.instanceMethod yX9_howMany ∈ gwt ∧ Cond.selects RX9 yX9_howMany yX9_howMany ∈ gwt ∧ Cond.initialized yX9_howMany.cls ∈ gwt ∧ Cond.code yX9_howMany cX9_howMany 1 (some .int) ∈ gwt ∧ yX9_howMany.cls ≠ "java/lang/invoke/MethodHandle" ∧ yX9_howMany.cls ≠ "java/lang/invoke/VarHandle" ∧ (parseMethodDescriptor yX9_howMany.desc).map (fun d => d.parameters.length) = some 0 := ⟨gw_of 580 (by decide +kernel) (by decide +kernel), gw_of 581 (by decide +kernel) (by decide +kernel), gw_of 44 (by decide +kernel) (by decide +kernel), gw_of 582 (by decide +kernel) (by decide +kernel), ⟨by decide, by decide, by decide +kernel⟩⟩
theorem vwL_88 : VW RL RX9 88 yX9_howMany cX9_howMany 1 (some .int) 0 := ⟨gw_of 579 (by decide +kernel) (by decide +kernel), mvX9_howMany⟩
theorem mvX10_howMany : Cond.instanceMethod yX10_howMany ∈ gwt ∧ Cond.selects RX10 yX10_howMany yX10_howMany ∈ gwt ∧ Cond.initialized yX10_howMany.cls ∈ gwt ∧ Cond.code yX10_howMany cX10_howMany 1 (some .int) ∈ gwt ∧ yX10_howMany.cls ≠ "java/lang/invoke/MethodHandle" ∧ yX10_howMany.cls ≠ "java/lang/invoke/VarHandle" ∧ (parseMethodDescriptor yX10_howMany.desc).map (fun d => d.parameters.length) = some 0 := ⟨gw_of 1055 (by decide +kernel) (by decide +kernel), gw_of 1056 (by decide +kernel) (by decide +kernel), gw_of 52 (by decide +kernel) (by decide +kernel), gw_of 1057 (by decide +kernel) (by decide +kernel), ⟨by decide, by decide, by decide +kernel⟩⟩
theorem vwL_91 : VW RL RX10 91 yX10_howMany cX10_howMany 1 (some .int) 0 := ⟨gw_of 1054 (by decide +kernel) (by decide +kernel), mvX10_howMany⟩
theorem mvX9_carried : Cond.instanceMethod yX9_carried ∈ gwt ∧ Cond.selects RX9 yX9_carried yX9_carried ∈ gwt ∧ Cond.initialized yX9_carried.cls ∈ gwt ∧ Cond.code yX9_carried cX9_carried 3 (some .int) ∈ gwt ∧ yX9_carried.cls ≠ "java/lang/invoke/MethodHandle" ∧ yX9_carried.cls ≠ "java/lang/invoke/VarHandle" ∧ (parseMethodDescriptor yX9_carried.desc).map (fun d => d.parameters.length) = some 2 := ⟨gw_of 584 (by decide +kernel) (by decide +kernel), gw_of 585 (by decide +kernel) (by decide +kernel), gw_of 44 (by decide +kernel) (by decide +kernel), gw_of 586 (by decide +kernel) (by decide +kernel), ⟨by decide, by decide, by decide +kernel⟩⟩
theorem vwL_92 : VW RL RX9 92 yX9_carried cX9_carried 3 (some .int) 2 := ⟨gw_of 583 (by decide +kernel) (by decide +kernel), mvX9_carried⟩
theorem mvX10_carried : Cond.instanceMethod yX10_carried ∈ gwt ∧ Cond.selects RX10 yX10_carried yX10_carried ∈ gwt ∧ Cond.initialized yX10_carried.cls ∈ gwt ∧ Cond.code yX10_carried cX10_carried 3 (some .int) ∈ gwt ∧ yX10_carried.cls ≠ "java/lang/invoke/MethodHandle" ∧ yX10_carried.cls ≠ "java/lang/invoke/VarHandle" ∧ (parseMethodDescriptor yX10_carried.desc).map (fun d => d.parameters.length) = some 2 := ⟨gw_of 1059 (by decide +kernel) (by decide +kernel), gw_of 1060 (by decide +kernel) (by decide +kernel), gw_of 52 (by decide +kernel) (by decide +kernel), gw_of 1061 (by decide +kernel) (by decide +kernel), ⟨by decide, by decide, by decide +kernel⟩⟩
theorem vwL_95 : VW RL RX10 95 yX10_carried cX10_carried 3 (some .int) 2 := ⟨gw_of 1058 (by decide +kernel) (by decide +kernel), mvX10_carried⟩
theorem mvX9_flood : Cond.instanceMethod yX9_flood ∈ gwt ∧ Cond.selects RX9 yX9_flood yX9_flood ∈ gwt ∧ Cond.initialized yX9_flood.cls ∈ gwt ∧ Cond.code yX9_flood cX9_flood 2 (some .int) ∈ gwt ∧ yX9_flood.cls ≠ "java/lang/invoke/MethodHandle" ∧ yX9_flood.cls ≠ "java/lang/invoke/VarHandle" ∧ (parseMethodDescriptor yX9_flood.desc).map (fun d => d.parameters.length) = some 1 := ⟨gw_of 611 (by decide +kernel) (by decide +kernel), gw_of 612 (by decide +kernel) (by decide +kernel), gw_of 44 (by decide +kernel) (by decide +kernel), gw_of 613 (by decide +kernel) (by decide +kernel), ⟨by decide, by decide, by decide +kernel⟩⟩
theorem vwL_96 : VW RL RX9 96 yX9_flood cX9_flood 2 (some .int) 1 := ⟨gw_of 610 (by decide +kernel) (by decide +kernel), mvX9_flood⟩
theorem mvX10_flood : Cond.instanceMethod yX10_flood ∈ gwt ∧ Cond.selects RX10 yX10_flood yX10_flood ∈ gwt ∧ Cond.initialized yX10_flood.cls ∈ gwt ∧ Cond.code yX10_flood cX10_flood 6 (some .int) ∈ gwt ∧ yX10_flood.cls ≠ "java/lang/invoke/MethodHandle" ∧ yX10_flood.cls ≠ "java/lang/invoke/VarHandle" ∧ (parseMethodDescriptor yX10_flood.desc).map (fun d => d.parameters.length) = some 1 := ⟨gw_of 1068 (by decide +kernel) (by decide +kernel), gw_of 1069 (by decide +kernel) (by decide +kernel), gw_of 52 (by decide +kernel) (by decide +kernel), gw_of 1070 (by decide +kernel) (by decide +kernel), ⟨by decide, by decide, by decide +kernel⟩⟩
theorem vwL_99 : VW RL RX10 99 yX10_flood cX10_flood 6 (some .int) 1 := ⟨gw_of 1067 (by decide +kernel) (by decide +kernel), mvX10_flood⟩
theorem mvX9_looks : Cond.instanceMethod yX9_looks ∈ gwt ∧ Cond.selects RX9 yX9_looks yX9_looks ∈ gwt ∧ Cond.initialized yX9_looks.cls ∈ gwt ∧ Cond.code yX9_looks cX9_looks 1 (some .int) ∈ gwt ∧ yX9_looks.cls ≠ "java/lang/invoke/MethodHandle" ∧ yX9_looks.cls ≠ "java/lang/invoke/VarHandle" ∧ (parseMethodDescriptor yX9_looks.desc).map (fun d => d.parameters.length) = some 0 := ⟨gw_of 635 (by decide +kernel) (by decide +kernel), gw_of 636 (by decide +kernel) (by decide +kernel), gw_of 44 (by decide +kernel) (by decide +kernel), gw_of 637 (by decide +kernel) (by decide +kernel), ⟨by decide, by decide, by decide +kernel⟩⟩
theorem vwL_100 : VW RL RX9 100 yX9_looks cX9_looks 1 (some .int) 0 := ⟨gw_of 634 (by decide +kernel) (by decide +kernel), mvX9_looks⟩
theorem mvX10_looks : Cond.instanceMethod yX10_looks ∈ gwt ∧ Cond.selects RX10 yX10_looks yX10_looks ∈ gwt ∧ Cond.initialized yX10_looks.cls ∈ gwt ∧ Cond.code yX10_looks cX10_looks 1 (some .int) ∈ gwt ∧ yX10_looks.cls ≠ "java/lang/invoke/MethodHandle" ∧ yX10_looks.cls ≠ "java/lang/invoke/VarHandle" ∧ (parseMethodDescriptor yX10_looks.desc).map (fun d => d.parameters.length) = some 0 := ⟨gw_of 1080 (by decide +kernel) (by decide +kernel), gw_of 1081 (by decide +kernel) (by decide +kernel), gw_of 52 (by decide +kernel) (by decide +kernel), gw_of 1082 (by decide +kernel) (by decide +kernel), ⟨by decide, by decide, by decide +kernel⟩⟩
theorem vwL_103 : VW RL RX10 103 yX10_looks cX10_looks 1 (some .int) 0 := ⟨gw_of 1079 (by decide +kernel) (by decide +kernel), mvX10_looks⟩
theorem mvX9_was : Cond.instanceMethod yX9_was ∈ gwt ∧ Cond.selects RX9 yX9_was yX9_was ∈ gwt ∧ Cond.initialized yX9_was.cls ∈ gwt ∧ Cond.code yX9_was cX9_was 3 (some .int) ∈ gwt ∧ yX9_was.cls ≠ "java/lang/invoke/MethodHandle" ∧ yX9_was.cls ≠ "java/lang/invoke/VarHandle" ∧ (parseMethodDescriptor yX9_was.desc).map (fun d => d.parameters.length) = some 2 := ⟨gw_of 644 (by decide +kernel) (by decide +kernel), gw_of 645 (by decide +kernel) (by decide +kernel), gw_of 44 (by decide +kernel) (by decide +kernel), gw_of 646 (by decide +kernel) (by decide +kernel), ⟨by decide, by decide, by decide +kernel⟩⟩
theorem vwL_104 : VW RL RX9 104 yX9_was cX9_was 3 (some .int) 2 := ⟨gw_of 643 (by decide +kernel) (by decide +kernel), mvX9_was⟩
theorem mvX10_was : Cond.instanceMethod yX10_was ∈ gwt ∧ Cond.selects RX10 yX10_was yX10_was ∈ gwt ∧ Cond.initialized yX10_was.cls ∈ gwt ∧ Cond.code yX10_was cX10_was 4 (some .int) ∈ gwt ∧ yX10_was.cls ≠ "java/lang/invoke/MethodHandle" ∧ yX10_was.cls ≠ "java/lang/invoke/VarHandle" ∧ (parseMethodDescriptor yX10_was.desc).map (fun d => d.parameters.length) = some 2 := ⟨gw_of 1088 (by decide +kernel) (by decide +kernel), gw_of 1089 (by decide +kernel) (by decide +kernel), gw_of 52 (by decide +kernel) (by decide +kernel), gw_of 1090 (by decide +kernel) (by decide +kernel), ⟨by decide, by decide, by decide +kernel⟩⟩
theorem vwL_107 : VW RL RX10 107 yX10_was cX10_was 4 (some .int) 2 := ⟨gw_of 1087 (by decide +kernel) (by decide +kernel), mvX10_was⟩
theorem mvX9_last : Cond.instanceMethod yX9_last ∈ gwt ∧ Cond.selects RX9 yX9_last yX9_last ∈ gwt ∧ Cond.initialized yX9_last.cls ∈ gwt ∧ Cond.code yX9_last cX9_last 2 (some .int) ∈ gwt ∧ yX9_last.cls ≠ "java/lang/invoke/MethodHandle" ∧ yX9_last.cls ≠ "java/lang/invoke/VarHandle" ∧ (parseMethodDescriptor yX9_last.desc).map (fun d => d.parameters.length) = some 1 := ⟨gw_of 652 (by decide +kernel) (by decide +kernel), gw_of 653 (by decide +kernel) (by decide +kernel), gw_of 44 (by decide +kernel) (by decide +kernel), gw_of 654 (by decide +kernel) (by decide +kernel), ⟨by decide, by decide, by decide +kernel⟩⟩
theorem vwL_108 : VW RL RX9 108 yX9_last cX9_last 2 (some .int) 1 := ⟨gw_of 651 (by decide +kernel) (by decide +kernel), mvX9_last⟩
theorem mvX10_last : Cond.instanceMethod yX10_last ∈ gwt ∧ Cond.selects RX10 yX10_last yX10_last ∈ gwt ∧ Cond.initialized yX10_last.cls ∈ gwt ∧ Cond.code yX10_last cX10_last 5 (some .int) ∈ gwt ∧ yX10_last.cls ≠ "java/lang/invoke/MethodHandle" ∧ yX10_last.cls ≠ "java/lang/invoke/VarHandle" ∧ (parseMethodDescriptor yX10_last.desc).map (fun d => d.parameters.length) = some 1 := ⟨gw_of 1093 (by decide +kernel) (by decide +kernel), gw_of 1094 (by decide +kernel) (by decide +kernel), gw_of 52 (by decide +kernel) (by decide +kernel), gw_of 1095 (by decide +kernel) (by decide +kernel), ⟨by decide, by decide, by decide +kernel⟩⟩
theorem vwL_111 : VW RL RX10 111 yX10_last cX10_last 5 (some .int) 1 := ⟨gw_of 1092 (by decide +kernel) (by decide +kernel), mvX10_last⟩
theorem mvX9_sure : Cond.instanceMethod yX9_sure ∈ gwt ∧ Cond.selects RX9 yX9_sure yX9_sure ∈ gwt ∧ Cond.initialized yX9_sure.cls ∈ gwt ∧ Cond.code yX9_sure cX9_sure 2 (some .int) ∈ gwt ∧ yX9_sure.cls ≠ "java/lang/invoke/MethodHandle" ∧ yX9_sure.cls ≠ "java/lang/invoke/VarHandle" ∧ (parseMethodDescriptor yX9_sure.desc).map (fun d => d.parameters.length) = some 1 := ⟨gw_of 696 (by decide +kernel) (by decide +kernel), gw_of 697 (by decide +kernel) (by decide +kernel), gw_of 44 (by decide +kernel) (by decide +kernel), gw_of 698 (by decide +kernel) (by decide +kernel), ⟨by decide, by decide, by decide +kernel⟩⟩
theorem vwL_112 : VW RL RX9 112 yX9_sure cX9_sure 2 (some .int) 1 := ⟨gw_of 695 (by decide +kernel) (by decide +kernel), mvX9_sure⟩
theorem mvX10_sure : Cond.instanceMethod yX10_sure ∈ gwt ∧ Cond.selects RX10 yX10_sure yX10_sure ∈ gwt ∧ Cond.initialized yX10_sure.cls ∈ gwt ∧ Cond.code yX10_sure cX10_sure 5 (some .int) ∈ gwt ∧ yX10_sure.cls ≠ "java/lang/invoke/MethodHandle" ∧ yX10_sure.cls ≠ "java/lang/invoke/VarHandle" ∧ (parseMethodDescriptor yX10_sure.desc).map (fun d => d.parameters.length) = some 1 := ⟨gw_of 1101 (by decide +kernel) (by decide +kernel), gw_of 1102 (by decide +kernel) (by decide +kernel), gw_of 52 (by decide +kernel) (by decide +kernel), gw_of 1103 (by decide +kernel) (by decide +kernel), ⟨by decide, by decide, by decide +kernel⟩⟩
theorem vwL_115 : VW RL RX10 115 yX10_sure cX10_sure 5 (some .int) 1 := ⟨gw_of 1100 (by decide +kernel) (by decide +kernel), mvX10_sure⟩
theorem mvX9_springs : Cond.instanceMethod yX9_springs ∈ gwt ∧ Cond.selects RX9 yX9_springs yX9_springs ∈ gwt ∧ Cond.initialized yX9_springs.cls ∈ gwt ∧ Cond.code yX9_springs cX9_springs 3 (some .int) ∈ gwt ∧ yX9_springs.cls ≠ "java/lang/invoke/MethodHandle" ∧ yX9_springs.cls ≠ "java/lang/invoke/VarHandle" ∧ (parseMethodDescriptor yX9_springs.desc).map (fun d => d.parameters.length) = some 2 := ⟨gw_of 711 (by decide +kernel) (by decide +kernel), gw_of 712 (by decide +kernel) (by decide +kernel), gw_of 44 (by decide +kernel) (by decide +kernel), gw_of 713 (by decide +kernel) (by decide +kernel), ⟨by decide, by decide, by decide +kernel⟩⟩
theorem vwL_116 : VW RL RX9 116 yX9_springs cX9_springs 3 (some .int) 2 := ⟨gw_of 710 (by decide +kernel) (by decide +kernel), mvX9_springs⟩
theorem mvX10_springs : Cond.instanceMethod yX10_springs ∈ gwt ∧ Cond.selects RX10 yX10_springs yX10_springs ∈ gwt ∧ Cond.initialized yX10_springs.cls ∈ gwt ∧ Cond.code yX10_springs cX10_springs 6 (some .int) ∈ gwt ∧ yX10_springs.cls ≠ "java/lang/invoke/MethodHandle" ∧ yX10_springs.cls ≠ "java/lang/invoke/VarHandle" ∧ (parseMethodDescriptor yX10_springs.desc).map (fun d => d.parameters.length) = some 2 := ⟨gw_of 1105 (by decide +kernel) (by decide +kernel), gw_of 1106 (by decide +kernel) (by decide +kernel), gw_of 52 (by decide +kernel) (by decide +kernel), gw_of 1107 (by decide +kernel) (by decide +kernel), ⟨by decide, by decide, by decide +kernel⟩⟩
theorem vwL_119 : VW RL RX10 119 yX10_springs cX10_springs 6 (some .int) 2 := ⟨gw_of 1104 (by decide +kernel) (by decide +kernel), mvX10_springs⟩
theorem mvX9_image : Cond.instanceMethod yX9_image ∈ gwt ∧ Cond.selects RX9 yX9_image yX9_image ∈ gwt ∧ Cond.initialized yX9_image.cls ∈ gwt ∧ Cond.code yX9_image cX9_image 1 (some .int) ∈ gwt ∧ yX9_image.cls ≠ "java/lang/invoke/MethodHandle" ∧ yX9_image.cls ≠ "java/lang/invoke/VarHandle" ∧ (parseMethodDescriptor yX9_image.desc).map (fun d => d.parameters.length) = some 0 := ⟨gw_of 749 (by decide +kernel) (by decide +kernel), gw_of 750 (by decide +kernel) (by decide +kernel), gw_of 44 (by decide +kernel) (by decide +kernel), gw_of 751 (by decide +kernel) (by decide +kernel), ⟨by decide, by decide, by decide +kernel⟩⟩
theorem vwL_120 : VW RL RX9 120 yX9_image cX9_image 1 (some .int) 0 := ⟨gw_of 748 (by decide +kernel) (by decide +kernel), mvX9_image⟩
theorem mvX10_image : Cond.instanceMethod yX10_image ∈ gwt ∧ Cond.selects RX10 yX10_image yX10_image ∈ gwt ∧ Cond.initialized yX10_image.cls ∈ gwt ∧ Cond.code yX10_image cX10_image 2 (some .int) ∈ gwt ∧ yX10_image.cls ≠ "java/lang/invoke/MethodHandle" ∧ yX10_image.cls ≠ "java/lang/invoke/VarHandle" ∧ (parseMethodDescriptor yX10_image.desc).map (fun d => d.parameters.length) = some 0 := ⟨gw_of 1118 (by decide +kernel) (by decide +kernel), gw_of 1119 (by decide +kernel) (by decide +kernel), gw_of 52 (by decide +kernel) (by decide +kernel), gw_of 1120 (by decide +kernel) (by decide +kernel), ⟨by decide, by decide, by decide +kernel⟩⟩
theorem vwL_123 : VW RL RX10 123 yX10_image cX10_image 2 (some .int) 0 := ⟨gw_of 1117 (by decide +kernel) (by decide +kernel), mvX10_image⟩
theorem mvX9_restore : Cond.instanceMethod yX9_restore ∈ gwt ∧ Cond.selects RX9 yX9_restore yX9_restore ∈ gwt ∧ Cond.initialized yX9_restore.cls ∈ gwt ∧ Cond.code yX9_restore cX9_restore 1 (some .int) ∈ gwt ∧ yX9_restore.cls ≠ "java/lang/invoke/MethodHandle" ∧ yX9_restore.cls ≠ "java/lang/invoke/VarHandle" ∧ (parseMethodDescriptor yX9_restore.desc).map (fun d => d.parameters.length) = some 0 := ⟨gw_of 754 (by decide +kernel) (by decide +kernel), gw_of 755 (by decide +kernel) (by decide +kernel), gw_of 44 (by decide +kernel) (by decide +kernel), gw_of 756 (by decide +kernel) (by decide +kernel), ⟨by decide, by decide, by decide +kernel⟩⟩
theorem vwL_124 : VW RL RX9 124 yX9_restore cX9_restore 1 (some .int) 0 := ⟨gw_of 753 (by decide +kernel) (by decide +kernel), mvX9_restore⟩
theorem mvX10_restore : Cond.instanceMethod yX10_restore ∈ gwt ∧ Cond.selects RX10 yX10_restore yX10_restore ∈ gwt ∧ Cond.initialized yX10_restore.cls ∈ gwt ∧ Cond.code yX10_restore cX10_restore 2 (some .int) ∈ gwt ∧ yX10_restore.cls ≠ "java/lang/invoke/MethodHandle" ∧ yX10_restore.cls ≠ "java/lang/invoke/VarHandle" ∧ (parseMethodDescriptor yX10_restore.desc).map (fun d => d.parameters.length) = some 0 := ⟨gw_of 1122 (by decide +kernel) (by decide +kernel), gw_of 1123 (by decide +kernel) (by decide +kernel), gw_of 52 (by decide +kernel) (by decide +kernel), gw_of 1124 (by decide +kernel) (by decide +kernel), ⟨by decide, by decide, by decide +kernel⟩⟩
theorem vwL_127 : VW RL RX10 127 yX10_restore cX10_restore 2 (some .int) 0 := ⟨gw_of 1121 (by decide +kernel) (by decide +kernel), mvX10_restore⟩
theorem vwL_128 : VW RL RX9 128 yX9_count cX9_count 2 (some .int) 1 := ⟨gw_of 757 (by decide +kernel) (by decide +kernel), mvX9_count⟩
theorem mvX10_count : Cond.instanceMethod yX10_count ∈ gwt ∧ Cond.selects RX10 yX10_count yX10_count ∈ gwt ∧ Cond.initialized yX10_count.cls ∈ gwt ∧ Cond.code yX10_count cX10_count 2 (some .int) ∈ gwt ∧ yX10_count.cls ≠ "java/lang/invoke/MethodHandle" ∧ yX10_count.cls ≠ "java/lang/invoke/VarHandle" ∧ (parseMethodDescriptor yX10_count.desc).map (fun d => d.parameters.length) = some 1 := ⟨gw_of 1126 (by decide +kernel) (by decide +kernel), gw_of 1127 (by decide +kernel) (by decide +kernel), gw_of 52 (by decide +kernel) (by decide +kernel), gw_of 1128 (by decide +kernel) (by decide +kernel), ⟨by decide, by decide, by decide +kernel⟩⟩
theorem vwL_131 : VW RL RX10 131 yX10_count cX10_count 2 (some .int) 1 := ⟨gw_of 1125 (by decide +kernel) (by decide +kernel), mvX10_count⟩
theorem mvX9_digest : Cond.instanceMethod yX9_digest ∈ gwt ∧ Cond.selects RX9 yX9_digest yX9_digest ∈ gwt ∧ Cond.initialized yX9_digest.cls ∈ gwt ∧ Cond.code yX9_digest cX9_digest 4 (some .long) ∈ gwt ∧ yX9_digest.cls ≠ "java/lang/invoke/MethodHandle" ∧ yX9_digest.cls ≠ "java/lang/invoke/VarHandle" ∧ (parseMethodDescriptor yX9_digest.desc).map (fun d => d.parameters.length) = some 0 := ⟨gw_of 766 (by decide +kernel) (by decide +kernel), gw_of 767 (by decide +kernel) (by decide +kernel), gw_of 44 (by decide +kernel) (by decide +kernel), gw_of 768 (by decide +kernel) (by decide +kernel), ⟨by decide, by decide, by decide +kernel⟩⟩
theorem vwL_132 : VW RL RX9 132 yX9_digest cX9_digest 4 (some .long) 0 := ⟨gw_of 765 (by decide +kernel) (by decide +kernel), mvX9_digest⟩
theorem mvX10_digest : Cond.instanceMethod yX10_digest ∈ gwt ∧ Cond.selects RX10 yX10_digest yX10_digest ∈ gwt ∧ Cond.initialized yX10_digest.cls ∈ gwt ∧ Cond.code yX10_digest cX10_digest 3 (some .long) ∈ gwt ∧ yX10_digest.cls ≠ "java/lang/invoke/MethodHandle" ∧ yX10_digest.cls ≠ "java/lang/invoke/VarHandle" ∧ (parseMethodDescriptor yX10_digest.desc).map (fun d => d.parameters.length) = some 0 := ⟨gw_of 1138 (by decide +kernel) (by decide +kernel), gw_of 1139 (by decide +kernel) (by decide +kernel), gw_of 52 (by decide +kernel) (by decide +kernel), gw_of 1140 (by decide +kernel) (by decide +kernel), ⟨by decide, by decide, by decide +kernel⟩⟩
theorem vwL_136 : VW RL RX10 136 yX10_digest cX10_digest 3 (some .long) 0 := ⟨gw_of 1137 (by decide +kernel) (by decide +kernel), mvX10_digest⟩
theorem cwL_13 : Cond.constantLong RL 13 (4294967295) ∈ gwt := gw_of 1151 (by decide +kernel) (by decide +kernel)
def Sm_letters (fu : Nat) (Inv : St → Prop) : Prop := ∀ (σ : St) (a0 : Int64), Inv σ → ∃ q1 q2 : Int32 × St, fX9_letters fu 0 a0 σ = some q1 ∧ fX10_letters fu 43 a0 q1.2 = some q2 ∧ q1.1 = q2.1 ∧ Inv q2.2
def Sm_blank (fu : Nat) (Inv : St → Prop) : Prop := ∀ (σ : St), Inv σ → ∃ q1 q2 : Int32 × St, fX9_blank fu 0  σ = some q1 ∧ fX10_blank fu 43  q1.2 = some q2 ∧ q1.1 = q2.1 ∧ Inv q2.2
def Sm_fault (fu : Nat) (Inv : St → Prop) : Prop := ∀ (σ : St), Inv σ → ∃ q1 q2 : Int32 × St, fX9_fault fu 0  σ = some q1 ∧ fX10_fault fu 43  q1.2 = some q2 ∧ q1.1 = q2.1 ∧ Inv q2.2
def Sm_law (fu : Nat) (Inv : St → Prop) : Prop := ∀ (σ : St), Inv σ → ∃ q1 q2 : Int32 × St, fX9_law fu 0  σ = some q1 ∧ fX10_law fu 43  q1.2 = some q2 ∧ q1.1 = q2.1 ∧ Inv q2.2
def Sm_lawTold (fu : Nat) (Inv : St → Prop) : Prop := ∀ (σ : St) (a0 : Int32), Inv σ → ∃ q1 q2 : Int32 × St, fX9_lawTold fu 0 a0 σ = some q1 ∧ fX10_lawTold fu 43 a0 q1.2 = some q2 ∧ q1.1 = q2.1 ∧ Inv q2.2
def Sm_block (fu : Nat) (Inv : St → Prop) : Prop := ∀ (σ : St) (a0 : Int32) (a1 : Int32) (a2 : Int32), Inv σ → ∃ q1 q2 : Int32 × St, fX9_block fu 0 a0 a1 a2 σ = some q1 ∧ fX10_block fu 43 a0 a1 a2 q1.2 = some q2 ∧ q1.1 = q2.1 ∧ Inv q2.2
def Sm_about (fu : Nat) (Inv : St → Prop) : Prop := ∀ (σ : St) (a0 : Int32) (a1 : Int32), Inv σ → ∃ q1 q2 : Int32 × St, fX9_about fu 0 a0 a1 σ = some q1 ∧ fX10_about fu 43 a0 a1 q1.2 = some q2 ∧ q1.1 = q2.1 ∧ Inv q2.2
def Sm_as (fu : Nat) (Inv : St → Prop) : Prop := ∀ (σ : St) (a0 : Int32) (a1 : Int32), Inv σ → ∃ q1 q2 : Int32 × St, fX9_as fu 0 a0 a1 σ = some q1 ∧ fX10_as fu 43 a0 a1 q1.2 = some q2 ∧ q1.1 = q2.1 ∧ Inv q2.2
def Sm_wheels (fu : Nat) (Inv : St → Prop) : Prop := ∀ (σ : St) (a0 : Int32) (a1 : Int32), Inv σ → ∃ q1 q2 : Int32 × St, fX9_wheels fu 0 a0 a1 σ = some q1 ∧ fX10_wheels fu 43 a0 a1 q1.2 = some q2 ∧ q1.1 = q2.1 ∧ Inv q2.2
def Sm_at (fu : Nat) (Inv : St → Prop) : Prop := ∀ (σ : St) (a0 : Int32), Inv σ → ∃ q1 q2 : Int32 × St, fX9_at fu 0 a0 σ = some q1 ∧ fX10_at fu 43 a0 q1.2 = some q2 ∧ q1.1 = q2.1 ∧ Inv q2.2
def Sm_turn (fu : Nat) (Inv : St → Prop) : Prop := ∀ (σ : St) (a0 : Int32), Inv σ → ∃ q1 q2 : Int32 × St, fX9_turn fu 0 a0 σ = some q1 ∧ fX10_turn fu 43 a0 q1.2 = some q2 ∧ q1.1 = q2.1 ∧ Inv q2.2
def Sm_thief (fu : Nat) (Inv : St → Prop) : Prop := ∀ (σ : St) (a0 : Int32), Inv σ → ∃ q1 q2 : Int32 × St, fX9_thief fu 0 a0 σ = some q1 ∧ fX10_thief fu 43 a0 q1.2 = some q2 ∧ q1.1 = q2.1 ∧ Inv q2.2
def Sm_lay (fu : Nat) (Inv : St → Prop) : Prop := ∀ (σ : St) (a0 : Int32), Inv σ → ∃ q1 q2 : Int32 × St, fX9_lay fu 0 a0 σ = some q1 ∧ fX10_lay fu 43 a0 q1.2 = some q2 ∧ q1.1 = q2.1 ∧ Inv q2.2
def Sm_lawful (fu : Nat) (Inv : St → Prop) : Prop := ∀ (σ : St) (a0 : Int32), Inv σ → ∃ q1 q2 : Int32 × St, fX9_lawful fu 0 a0 σ = some q1 ∧ fX10_lawful fu 43 a0 q1.2 = some q2 ∧ q1.1 = q2.1 ∧ Inv q2.2
def Sm_years (fu : Nat) (Inv : St → Prop) : Prop := ∀ (σ : St) (a0 : Int32), Inv σ → ∃ q1 q2 : Int32 × St, fX9_years fu 0 a0 σ = some q1 ∧ fX10_years fu 43 a0 q1.2 = some q2 ∧ q1.1 = q2.1 ∧ Inv q2.2
def Sm_worst (fu : Nat) (Inv : St → Prop) : Prop := ∀ (σ : St), Inv σ → ∃ q1 q2 : Int32 × St, fX9_worst fu 0  σ = some q1 ∧ fX10_worst fu 43  q1.2 = some q2 ∧ q1.1 = q2.1 ∧ Inv q2.2
def Sm_best (fu : Nat) (Inv : St → Prop) : Prop := ∀ (σ : St) (a0 : Int32), Inv σ → ∃ q1 q2 : Int32 × St, fX9_best fu 0 a0 σ = some q1 ∧ fX10_best fu 43 a0 q1.2 = some q2 ∧ q1.1 = q2.1 ∧ Inv q2.2
def Sm_howMany (fu : Nat) (Inv : St → Prop) : Prop := ∀ (σ : St), Inv σ → ∃ q1 q2 : Int32 × St, fX9_howMany fu 0  σ = some q1 ∧ fX10_howMany fu 43  q1.2 = some q2 ∧ q1.1 = q2.1 ∧ Inv q2.2
def Sm_carried (fu : Nat) (Inv : St → Prop) : Prop := ∀ (σ : St) (a0 : Int32) (a1 : Int32), Inv σ → ∃ q1 q2 : Int32 × St, fX9_carried fu 0 a0 a1 σ = some q1 ∧ fX10_carried fu 43 a0 a1 q1.2 = some q2 ∧ q1.1 = q2.1 ∧ Inv q2.2
def Sm_flood (fu : Nat) (Inv : St → Prop) : Prop := ∀ (σ : St) (a0 : Int32), Inv σ → ∃ q1 q2 : Int32 × St, fX9_flood fu 0 a0 σ = some q1 ∧ fX10_flood fu 43 a0 q1.2 = some q2 ∧ q1.1 = q2.1 ∧ Inv q2.2
def Sm_looks (fu : Nat) (Inv : St → Prop) : Prop := ∀ (σ : St), Inv σ → ∃ q1 q2 : Int32 × St, fX9_looks fu 0  σ = some q1 ∧ fX10_looks fu 43  q1.2 = some q2 ∧ q1.1 = q2.1 ∧ Inv q2.2
def Sm_was (fu : Nat) (Inv : St → Prop) : Prop := ∀ (σ : St) (a0 : Int32) (a1 : Int32), Inv σ → ∃ q1 q2 : Int32 × St, fX9_was fu 0 a0 a1 σ = some q1 ∧ fX10_was fu 43 a0 a1 q1.2 = some q2 ∧ q1.1 = q2.1 ∧ Inv q2.2
def Sm_last (fu : Nat) (Inv : St → Prop) : Prop := ∀ (σ : St) (a0 : Int32), Inv σ → ∃ q1 q2 : Int32 × St, fX9_last fu 0 a0 σ = some q1 ∧ fX10_last fu 43 a0 q1.2 = some q2 ∧ q1.1 = q2.1 ∧ Inv q2.2
def Sm_sure (fu : Nat) (Inv : St → Prop) : Prop := ∀ (σ : St) (a0 : Int32), Inv σ → ∃ q1 q2 : Int32 × St, fX9_sure fu 0 a0 σ = some q1 ∧ fX10_sure fu 43 a0 q1.2 = some q2 ∧ q1.1 = q2.1 ∧ Inv q2.2
def Sm_springs (fu : Nat) (Inv : St → Prop) : Prop := ∀ (σ : St) (a0 : Int32) (a1 : Int32), Inv σ → ∃ q1 q2 : Int32 × St, fX9_springs fu 0 a0 a1 σ = some q1 ∧ fX10_springs fu 43 a0 a1 q1.2 = some q2 ∧ q1.1 = q2.1 ∧ Inv q2.2
def Sm_image (fu : Nat) (Inv : St → Prop) : Prop := ∀ (σ : St), Inv σ → ∃ q1 q2 : Int32 × St, fX9_image fu 0  σ = some q1 ∧ fX10_image fu 43  q1.2 = some q2 ∧ q1.1 = q2.1 ∧ Inv q2.2
def Sm_restore (fu : Nat) (Inv : St → Prop) : Prop := ∀ (σ : St), Inv σ → ∃ q1 q2 : Int32 × St, fX9_restore fu 0  σ = some q1 ∧ fX10_restore fu 43  q1.2 = some q2 ∧ q1.1 = q2.1 ∧ Inv q2.2
def Sm_count (fu : Nat) (Inv : St → Prop) : Prop := ∀ (σ : St) (a0 : Int32), Inv σ → ∃ q1 q2 : Int32 × St, fX9_count fu 0 a0 σ = some q1 ∧ fX10_count fu 43 a0 q1.2 = some q2 ∧ q1.1 = q2.1 ∧ Inv q2.2
def Sm_digest (fu : Nat) (Inv : St → Prop) : Prop := ∀ (σ : St), Inv σ → ∃ q1 q2 : Int64 × St, fX9_digest fu 0  σ = some q1 ∧ fX10_digest fu 43  q1.2 = some q2 ∧ q1.1 = q2.1 ∧ Inv q2.2
def SimAll (fu : Nat) (Inv : St → Prop) : Prop := Sm_letters fu Inv ∧ Sm_blank fu Inv ∧ Sm_fault fu Inv ∧ Sm_law fu Inv ∧ Sm_lawTold fu Inv ∧ Sm_block fu Inv ∧ Sm_about fu Inv ∧ Sm_as fu Inv ∧ Sm_wheels fu Inv ∧ Sm_at fu Inv ∧ Sm_turn fu Inv ∧ Sm_thief fu Inv ∧ Sm_lay fu Inv ∧ Sm_lawful fu Inv ∧ Sm_years fu Inv ∧ Sm_worst fu Inv ∧ Sm_best fu Inv ∧ Sm_howMany fu Inv ∧ Sm_carried fu Inv ∧ Sm_flood fu Inv ∧ Sm_looks fu Inv ∧ Sm_was fu Inv ∧ Sm_last fu Inv ∧ Sm_sure fu Inv ∧ Sm_springs fu Inv ∧ Sm_image fu Inv ∧ Sm_restore fu Inv ∧ Sm_count fu Inv ∧ Sm_digest fu Inv
theorem lgc (x : Int64) : lg_cmp x x = 0 := by simp [lg_cmp]
section LW
variable {D : va_G} {cA : ClassId} {bs : Nat} {ad : Nat → Nat} {p : Program} {l : Launch} {e : Env} {R : Room} {s : State} {m : MethodId} {args : Array Value} {below : List Frame} {meth : Method} {c : Code} {nL ce sk : Nat} {Q : State → Prop} {σ : St} {pc : Nat} {lv : List (Nat × Value)} {st : List Value} {own : String} {cc : ByteArray} {rt : Option FieldType}
theorem y_sld (C : Cx D cA bs ad own cc nL rt p s m args meth c) {b L : Nat} {xs : Nat → Int32} (hX : va_X b L xs s s.heap) (hbl : b < s.heap.size) (hbA : ¬ bs ≤ b) {i : Int32} (hin : vp_in i L) (hd : decode cc pc = .ok (.iaload, 1)) (kk : Y D cA bs ad p l e R s m args below meth c nL ce sk Q σ (pc + 1) lv (.int (xs i.toNatClampNeg) :: st)) : Y D cA bs ad p l e R s m args below meth c nL ce sk Q σ pc lv (.int i :: .ref b :: st) := fun H locs ls h1 h2 h3 => va_sld C.1 C.2.1 hX hbl hbA h2 hin hd (kk H locs ls h1 h2 h3)
theorem y_slen (C : Cx D cA bs ad own cc nL rt p s m args meth c) {b L : Nat} {xs : Nat → Int32} (hX : va_X b L xs s s.heap) (hbl : b < s.heap.size) (hbA : ¬ bs ≤ b) (hd : decode cc pc = .ok (.arraylength, 1)) (kk : Y D cA bs ad p l e R s m args below meth c nL ce sk Q σ (pc + 1) lv (.int (Int32.ofNat L) :: st)) : Y D cA bs ad p l e R s m args below meth c nL ce sk Q σ pc lv (.ref b :: st) := fun H locs ls h1 h2 h3 => va_slen C.1 C.2.1 hX hbl hbA h2 hd (kk H locs ls h1 h2 h3)
end LW
set_option maxHeartbeats 4000000 in
theorem lc_letters {D : va_G} {cA : ClassId} {ad : Nat → Nat} {p : Program} {l : Launch} {e : Env} {s : State} {m : MethodId} {below : List Frame} {meth : Method} {c : Code} {b L : Nat} {xs : Nat → Int32} (C : Cx D cA s.heap.size ad RL cL_law 4 ret p s m #[Value.ref b] meth c) (hX : va_X b L xs s s.heap) (hbl : b < s.heap.size) {fu : Nat} {Inv : St → Prop} (hs : Sm_letters fu Inv) {x3 : Int32} (h1 : vp_in (x3 + (1 : Int32)) L) (h2 : vp_in (x3 + (2 : Int32)) L) (h3 : vp_in (x3 + (3 : Int32)) L) (kk : ∀ σ, Inv σ → Y D cA s.heap.size ad p l e room_1 s m #[Value.ref b] below meth c 4 56 4695 (lw_Z below #[Value.ref b] s) σ 852 [(0, .ref b), (1, .ref (ad 0)), (2, .ref (ad 43)), (3, .int x3)] []) {σ : St} (hI : Inv σ) : Y D cA s.heap.size ad p l e room_1 s m #[Value.ref b] below meth c 4 56 4695 (lw_Z below #[Value.ref b] s) σ 164 [(0, .ref b), (1, .ref (ad 0)), (2, .ref (ad 43)), (3, .int x3)] [] := by
  refine y_aload_n (pc := 164) (q := 1) C dL_law_164 rfl rfl ?_
  refine y_aload_n (pc := 165) (q := 0) C dL_law_165 rfl rfl ?_
  refine y_iload_n (pc := 166) (q := 3) C dL_law_166 rfl rfl ?_
  refine y_iconst (pc := 167) (v := (1 : Int32)) C dL_law_167 (by decide) ?_
  refine y_iadd (pc := 168) C dL_law_168 ?_
  refine y_sld (pc := 169) C hX hbl (by omega) h1 dL_law_169 ?_
  refine y_i2l (pc := 170) C dL_law_170 ?_
  refine y_bipush (pc := 171) (v := (32 : Int32)) C dL_law_171 (by decide) ?_
  refine y_lshl (pc := 173) C dL_law_173 ?_
  refine y_aload_n (pc := 174) (q := 0) C dL_law_174 rfl rfl ?_
  refine y_iload_n (pc := 175) (q := 3) C dL_law_175 rfl rfl ?_
  refine y_iconst (pc := 176) (v := (2 : Int32)) C dL_law_176 (by decide) ?_
  refine y_iadd (pc := 177) C dL_law_177 ?_
  refine y_sld (pc := 178) C hX hbl (by omega) h2 dL_law_178 ?_
  refine y_i2l (pc := 179) C dL_law_179 ?_
  refine y_ldc2 (pc := 180) C dL_law_180 cwL_13 ?_
  refine y_land (pc := 183) C dL_law_183 ?_
  refine y_lor (pc := 184) C dL_law_184 ?_
  obtain ⟨q1, q2, e1, e2, he, hI⟩ := hs σ ((((xs (x3 + (1 : Int32)).toNatClampNeg).toInt64 <<< ((32 : Int32).toInt64 &&& 63)) ||| ((xs (x3 + (2 : Int32)).toNatClampNeg).toInt64 &&& (4294967295 : Int64)))) hI
  refine y_callV (pc := 185) (a := 0) (As := [.long (((xs (x3 + (1 : Int32)).toNatClampNeg).toInt64 <<< ((32 : Int32).toInt64 &&& 63)) ||| ((xs (x3 + (2 : Int32)).toNatClampNeg).toInt64 &&& (4294967295 : Int64)))]) (rest := []) C (mX9_letters (fu := fu) e1) vwL_15 rfl (by decide) rfl rfl rfl (Nat.le_of_ble_eq_true rfl) ⟨Nat.le_of_ble_eq_true rfl, Nat.le_of_ble_eq_true rfl⟩ ⟨Nat.le_refl _, Nat.le_refl _⟩ dL_law_185 ?_
  show Y _ _ _ _ _ _ _ _ _ _ _ _ _ _ _ _ _ _ q1.2 188 [(0, .ref b), (1, .ref (ad 0)), (2, .ref (ad 43)), (3, .int x3)] [.int q1.1]
  refine y_aload_n (pc := 188) (q := 2) C dL_law_188 rfl rfl ?_
  refine y_aload_n (pc := 189) (q := 0) C dL_law_189 rfl rfl ?_
  refine y_iload_n (pc := 190) (q := 3) C dL_law_190 rfl rfl ?_
  refine y_iconst (pc := 191) (v := (1 : Int32)) C dL_law_191 (by decide) ?_
  refine y_iadd (pc := 192) C dL_law_192 ?_
  refine y_sld (pc := 193) C hX hbl (by omega) h1 dL_law_193 ?_
  refine y_i2l (pc := 194) C dL_law_194 ?_
  refine y_bipush (pc := 195) (v := (32 : Int32)) C dL_law_195 (by decide) ?_
  refine y_lshl (pc := 197) C dL_law_197 ?_
  refine y_aload_n (pc := 198) (q := 0) C dL_law_198 rfl rfl ?_
  refine y_iload_n (pc := 199) (q := 3) C dL_law_199 rfl rfl ?_
  refine y_iconst (pc := 200) (v := (2 : Int32)) C dL_law_200 (by decide) ?_
  refine y_iadd (pc := 201) C dL_law_201 ?_
  refine y_sld (pc := 202) C hX hbl (by omega) h2 dL_law_202 ?_
  refine y_i2l (pc := 203) C dL_law_203 ?_
  refine y_ldc2 (pc := 204) C dL_law_204 cwL_13 ?_
  refine y_land (pc := 207) C dL_law_207 ?_
  refine y_lor (pc := 208) C dL_law_208 ?_
  refine y_callV (pc := 209) (a := 43) (As := [.long (((xs (x3 + (1 : Int32)).toNatClampNeg).toInt64 <<< ((32 : Int32).toInt64 &&& 63)) ||| ((xs (x3 + (2 : Int32)).toNatClampNeg).toInt64 &&& (4294967295 : Int64)))]) (rest := [.int q1.1]) C (mX10_letters (fu := fu) e2) vwL_19 rfl (by decide) rfl rfl rfl (Nat.le_of_ble_eq_true rfl) ⟨Nat.le_of_ble_eq_true rfl, Nat.le_of_ble_eq_true rfl⟩ ⟨Nat.le_refl _, Nat.le_refl _⟩ dL_law_209 ?_
  show Y _ _ _ _ _ _ _ _ _ _ _ _ _ _ _ _ _ _ q2.2 212 [(0, .ref b), (1, .ref (ad 0)), (2, .ref (ad 43)), (3, .int x3)] [.int q2.1, .int q1.1]
  refine y_icmp_eq (pc := 212) (tgt := 852) C dL_law_212 (by decide) (fun _ => ?_) (fun hc => absurd he hc)
  exact kk _ hI
set_option maxHeartbeats 4000000 in
theorem lc_blank {D : va_G} {cA : ClassId} {ad : Nat → Nat} {p : Program} {l : Launch} {e : Env} {s : State} {m : MethodId} {below : List Frame} {meth : Method} {c : Code} {b L : Nat} {xs : Nat → Int32} (C : Cx D cA s.heap.size ad RL cL_law 4 ret p s m #[Value.ref b] meth c) (hX : va_X b L xs s s.heap) (hbl : b < s.heap.size) {fu : Nat} {Inv : St → Prop} (hs : Sm_blank fu Inv) {x3 : Int32} (h1 : vp_in (x3 + (1 : Int32)) L) (h2 : vp_in (x3 + (2 : Int32)) L) (h3 : vp_in (x3 + (3 : Int32)) L) (kk : ∀ σ, Inv σ → Y D cA s.heap.size ad p l e room_1 s m #[Value.ref b] below meth c 4 56 4695 (lw_Z below #[Value.ref b] s) σ 852 [(0, .ref b), (1, .ref (ad 0)), (2, .ref (ad 43)), (3, .int x3)] []) {σ : St} (hI : Inv σ) : Y D cA s.heap.size ad p l e room_1 s m #[Value.ref b] below meth c 4 56 4695 (lw_Z below #[Value.ref b] s) σ 217 [(0, .ref b), (1, .ref (ad 0)), (2, .ref (ad 43)), (3, .int x3)] [] := by
  refine y_aload_n (pc := 217) (q := 1) C dL_law_217 rfl rfl ?_
  obtain ⟨q1, q2, e1, e2, he, hI⟩ := hs σ  hI
  refine y_callV (pc := 218) (a := 0) (As := []) (rest := []) C (mX9_blank (fu := fu) e1) vwL_20 rfl (by decide) rfl rfl rfl (Nat.le_of_ble_eq_true rfl) ⟨Nat.le_of_ble_eq_true rfl, Nat.le_of_ble_eq_true rfl⟩ ⟨Nat.le_refl _, Nat.le_refl _⟩ dL_law_218 ?_
  show Y _ _ _ _ _ _ _ _ _ _ _ _ _ _ _ _ _ _ q1.2 221 [(0, .ref b), (1, .ref (ad 0)), (2, .ref (ad 43)), (3, .int x3)] [.int q1.1]
  refine y_aload_n (pc := 221) (q := 2) C dL_law_221 rfl rfl ?_
  refine y_callV (pc := 222) (a := 43) (As := []) (rest := [.int q1.1]) C (mX10_blank (fu := fu) e2) vwL_24 rfl (by decide) rfl rfl rfl (Nat.le_of_ble_eq_true rfl) ⟨Nat.le_of_ble_eq_true rfl, Nat.le_of_ble_eq_true rfl⟩ ⟨Nat.le_refl _, Nat.le_refl _⟩ dL_law_222 ?_
  show Y _ _ _ _ _ _ _ _ _ _ _ _ _ _ _ _ _ _ q2.2 225 [(0, .ref b), (1, .ref (ad 0)), (2, .ref (ad 43)), (3, .int x3)] [.int q2.1, .int q1.1]
  refine y_icmp_eq (pc := 225) (tgt := 852) C dL_law_225 (by decide) (fun _ => ?_) (fun hc => absurd he hc)
  exact kk _ hI
set_option maxHeartbeats 4000000 in
theorem lc_fault {D : va_G} {cA : ClassId} {ad : Nat → Nat} {p : Program} {l : Launch} {e : Env} {s : State} {m : MethodId} {below : List Frame} {meth : Method} {c : Code} {b L : Nat} {xs : Nat → Int32} (C : Cx D cA s.heap.size ad RL cL_law 4 ret p s m #[Value.ref b] meth c) (hX : va_X b L xs s s.heap) (hbl : b < s.heap.size) {fu : Nat} {Inv : St → Prop} (hs : Sm_fault fu Inv) {x3 : Int32} (h1 : vp_in (x3 + (1 : Int32)) L) (h2 : vp_in (x3 + (2 : Int32)) L) (h3 : vp_in (x3 + (3 : Int32)) L) (kk : ∀ σ, Inv σ → Y D cA s.heap.size ad p l e room_1 s m #[Value.ref b] below meth c 4 56 4695 (lw_Z below #[Value.ref b] s) σ 852 [(0, .ref b), (1, .ref (ad 0)), (2, .ref (ad 43)), (3, .int x3)] []) {σ : St} (hI : Inv σ) : Y D cA s.heap.size ad p l e room_1 s m #[Value.ref b] below meth c 4 56 4695 (lw_Z below #[Value.ref b] s) σ 230 [(0, .ref b), (1, .ref (ad 0)), (2, .ref (ad 43)), (3, .int x3)] [] := by
  refine y_aload_n (pc := 230) (q := 1) C dL_law_230 rfl rfl ?_
  obtain ⟨q1, q2, e1, e2, he, hI⟩ := hs σ  hI
  refine y_callV (pc := 231) (a := 0) (As := []) (rest := []) C (mX9_fault (fu := fu) e1) vwL_25 rfl (by decide) rfl rfl rfl (Nat.le_of_ble_eq_true rfl) ⟨Nat.le_of_ble_eq_true rfl, Nat.le_of_ble_eq_true rfl⟩ ⟨Nat.le_refl _, Nat.le_refl _⟩ dL_law_231 ?_
  show Y _ _ _ _ _ _ _ _ _ _ _ _ _ _ _ _ _ _ q1.2 234 [(0, .ref b), (1, .ref (ad 0)), (2, .ref (ad 43)), (3, .int x3)] [.int q1.1]
  refine y_aload_n (pc := 234) (q := 2) C dL_law_234 rfl rfl ?_
  refine y_callV (pc := 235) (a := 43) (As := []) (rest := [.int q1.1]) C (mX10_fault (fu := fu) e2) vwL_28 rfl (by decide) rfl rfl rfl (Nat.le_of_ble_eq_true rfl) ⟨Nat.le_of_ble_eq_true rfl, Nat.le_of_ble_eq_true rfl⟩ ⟨Nat.le_refl _, Nat.le_refl _⟩ dL_law_235 ?_
  show Y _ _ _ _ _ _ _ _ _ _ _ _ _ _ _ _ _ _ q2.2 238 [(0, .ref b), (1, .ref (ad 0)), (2, .ref (ad 43)), (3, .int x3)] [.int q2.1, .int q1.1]
  refine y_icmp_eq (pc := 238) (tgt := 852) C dL_law_238 (by decide) (fun _ => ?_) (fun hc => absurd he hc)
  exact kk _ hI
set_option maxHeartbeats 4000000 in
theorem lc_law {D : va_G} {cA : ClassId} {ad : Nat → Nat} {p : Program} {l : Launch} {e : Env} {s : State} {m : MethodId} {below : List Frame} {meth : Method} {c : Code} {b L : Nat} {xs : Nat → Int32} (C : Cx D cA s.heap.size ad RL cL_law 4 ret p s m #[Value.ref b] meth c) (hX : va_X b L xs s s.heap) (hbl : b < s.heap.size) {fu : Nat} {Inv : St → Prop} (hs : Sm_law fu Inv) {x3 : Int32} (h1 : vp_in (x3 + (1 : Int32)) L) (h2 : vp_in (x3 + (2 : Int32)) L) (h3 : vp_in (x3 + (3 : Int32)) L) (kk : ∀ σ, Inv σ → Y D cA s.heap.size ad p l e room_1 s m #[Value.ref b] below meth c 4 56 4695 (lw_Z below #[Value.ref b] s) σ 852 [(0, .ref b), (1, .ref (ad 0)), (2, .ref (ad 43)), (3, .int x3)] []) {σ : St} (hI : Inv σ) : Y D cA s.heap.size ad p l e room_1 s m #[Value.ref b] below meth c 4 56 4695 (lw_Z below #[Value.ref b] s) σ 243 [(0, .ref b), (1, .ref (ad 0)), (2, .ref (ad 43)), (3, .int x3)] [] := by
  refine y_aload_n (pc := 243) (q := 1) C dL_law_243 rfl rfl ?_
  obtain ⟨q1, q2, e1, e2, he, hI⟩ := hs σ  hI
  refine y_callV (pc := 244) (a := 0) (As := []) (rest := []) C (mX9_law (fu := fu) e1) vwL_29 rfl (by decide) rfl rfl rfl (Nat.le_of_ble_eq_true rfl) ⟨Nat.le_of_ble_eq_true rfl, Nat.le_of_ble_eq_true rfl⟩ ⟨Nat.le_refl _, Nat.le_refl _⟩ dL_law_244 ?_
  show Y _ _ _ _ _ _ _ _ _ _ _ _ _ _ _ _ _ _ q1.2 247 [(0, .ref b), (1, .ref (ad 0)), (2, .ref (ad 43)), (3, .int x3)] [.int q1.1]
  refine y_aload_n (pc := 247) (q := 2) C dL_law_247 rfl rfl ?_
  refine y_callV (pc := 248) (a := 43) (As := []) (rest := [.int q1.1]) C (mX10_law (fu := fu) e2) vwL_32 rfl (by decide) rfl rfl rfl (Nat.le_of_ble_eq_true rfl) ⟨Nat.le_of_ble_eq_true rfl, Nat.le_of_ble_eq_true rfl⟩ ⟨Nat.le_refl _, Nat.le_refl _⟩ dL_law_248 ?_
  show Y _ _ _ _ _ _ _ _ _ _ _ _ _ _ _ _ _ _ q2.2 251 [(0, .ref b), (1, .ref (ad 0)), (2, .ref (ad 43)), (3, .int x3)] [.int q2.1, .int q1.1]
  refine y_icmp_eq (pc := 251) (tgt := 852) C dL_law_251 (by decide) (fun _ => ?_) (fun hc => absurd he hc)
  exact kk _ hI
set_option maxHeartbeats 4000000 in
theorem lc_lawTold {D : va_G} {cA : ClassId} {ad : Nat → Nat} {p : Program} {l : Launch} {e : Env} {s : State} {m : MethodId} {below : List Frame} {meth : Method} {c : Code} {b L : Nat} {xs : Nat → Int32} (C : Cx D cA s.heap.size ad RL cL_law 4 ret p s m #[Value.ref b] meth c) (hX : va_X b L xs s s.heap) (hbl : b < s.heap.size) {fu : Nat} {Inv : St → Prop} (hs : Sm_lawTold fu Inv) {x3 : Int32} (h1 : vp_in (x3 + (1 : Int32)) L) (h2 : vp_in (x3 + (2 : Int32)) L) (h3 : vp_in (x3 + (3 : Int32)) L) (kk : ∀ σ, Inv σ → Y D cA s.heap.size ad p l e room_1 s m #[Value.ref b] below meth c 4 56 4695 (lw_Z below #[Value.ref b] s) σ 852 [(0, .ref b), (1, .ref (ad 0)), (2, .ref (ad 43)), (3, .int x3)] []) {σ : St} (hI : Inv σ) : Y D cA s.heap.size ad p l e room_1 s m #[Value.ref b] below meth c 4 56 4695 (lw_Z below #[Value.ref b] s) σ 256 [(0, .ref b), (1, .ref (ad 0)), (2, .ref (ad 43)), (3, .int x3)] [] := by
  refine y_aload_n (pc := 256) (q := 1) C dL_law_256 rfl rfl ?_
  refine y_aload_n (pc := 257) (q := 0) C dL_law_257 rfl rfl ?_
  refine y_iload_n (pc := 258) (q := 3) C dL_law_258 rfl rfl ?_
  refine y_iconst (pc := 259) (v := (1 : Int32)) C dL_law_259 (by decide) ?_
  refine y_iadd (pc := 260) C dL_law_260 ?_
  refine y_sld (pc := 261) C hX hbl (by omega) h1 dL_law_261 ?_
  obtain ⟨q1, q2, e1, e2, he, hI⟩ := hs σ ((xs (x3 + (1 : Int32)).toNatClampNeg)) hI
  refine y_callV (pc := 262) (a := 0) (As := [.int (xs (x3 + (1 : Int32)).toNatClampNeg)]) (rest := []) C (mX9_lawTold (fu := fu) e1) vwL_33 rfl (by decide) rfl rfl rfl (Nat.le_of_ble_eq_true rfl) ⟨Nat.le_of_ble_eq_true rfl, Nat.le_of_ble_eq_true rfl⟩ ⟨Nat.le_refl _, Nat.le_refl _⟩ dL_law_262 ?_
  show Y _ _ _ _ _ _ _ _ _ _ _ _ _ _ _ _ _ _ q1.2 265 [(0, .ref b), (1, .ref (ad 0)), (2, .ref (ad 43)), (3, .int x3)] [.int q1.1]
  refine y_aload_n (pc := 265) (q := 2) C dL_law_265 rfl rfl ?_
  refine y_aload_n (pc := 266) (q := 0) C dL_law_266 rfl rfl ?_
  refine y_iload_n (pc := 267) (q := 3) C dL_law_267 rfl rfl ?_
  refine y_iconst (pc := 268) (v := (1 : Int32)) C dL_law_268 (by decide) ?_
  refine y_iadd (pc := 269) C dL_law_269 ?_
  refine y_sld (pc := 270) C hX hbl (by omega) h1 dL_law_270 ?_
  refine y_callV (pc := 271) (a := 43) (As := [.int (xs (x3 + (1 : Int32)).toNatClampNeg)]) (rest := [.int q1.1]) C (mX10_lawTold (fu := fu) e2) vwL_37 rfl (by decide) rfl rfl rfl (Nat.le_of_ble_eq_true rfl) ⟨Nat.le_of_ble_eq_true rfl, Nat.le_of_ble_eq_true rfl⟩ ⟨Nat.le_refl _, Nat.le_refl _⟩ dL_law_271 ?_
  show Y _ _ _ _ _ _ _ _ _ _ _ _ _ _ _ _ _ _ q2.2 274 [(0, .ref b), (1, .ref (ad 0)), (2, .ref (ad 43)), (3, .int x3)] [.int q2.1, .int q1.1]
  refine y_icmp_eq (pc := 274) (tgt := 852) C dL_law_274 (by decide) (fun _ => ?_) (fun hc => absurd he hc)
  exact kk _ hI
set_option maxHeartbeats 4000000 in
theorem lc_block {D : va_G} {cA : ClassId} {ad : Nat → Nat} {p : Program} {l : Launch} {e : Env} {s : State} {m : MethodId} {below : List Frame} {meth : Method} {c : Code} {b L : Nat} {xs : Nat → Int32} (C : Cx D cA s.heap.size ad RL cL_law 4 ret p s m #[Value.ref b] meth c) (hX : va_X b L xs s s.heap) (hbl : b < s.heap.size) {fu : Nat} {Inv : St → Prop} (hs : Sm_block fu Inv) {x3 : Int32} (h1 : vp_in (x3 + (1 : Int32)) L) (h2 : vp_in (x3 + (2 : Int32)) L) (h3 : vp_in (x3 + (3 : Int32)) L) (kk : ∀ σ, Inv σ → Y D cA s.heap.size ad p l e room_1 s m #[Value.ref b] below meth c 4 56 4695 (lw_Z below #[Value.ref b] s) σ 852 [(0, .ref b), (1, .ref (ad 0)), (2, .ref (ad 43)), (3, .int x3)] []) {σ : St} (hI : Inv σ) : Y D cA s.heap.size ad p l e room_1 s m #[Value.ref b] below meth c 4 56 4695 (lw_Z below #[Value.ref b] s) σ 279 [(0, .ref b), (1, .ref (ad 0)), (2, .ref (ad 43)), (3, .int x3)] [] := by
  refine y_aload_n (pc := 279) (q := 1) C dL_law_279 rfl rfl ?_
  refine y_aload_n (pc := 280) (q := 0) C dL_law_280 rfl rfl ?_
  refine y_iload_n (pc := 281) (q := 3) C dL_law_281 rfl rfl ?_
  refine y_iconst (pc := 282) (v := (1 : Int32)) C dL_law_282 (by decide) ?_
  refine y_iadd (pc := 283) C dL_law_283 ?_
  refine y_sld (pc := 284) C hX hbl (by omega) h1 dL_law_284 ?_
  refine y_aload_n (pc := 285) (q := 0) C dL_law_285 rfl rfl ?_
  refine y_iload_n (pc := 286) (q := 3) C dL_law_286 rfl rfl ?_
  refine y_iconst (pc := 287) (v := (2 : Int32)) C dL_law_287 (by decide) ?_
  refine y_iadd (pc := 288) C dL_law_288 ?_
  refine y_sld (pc := 289) C hX hbl (by omega) h2 dL_law_289 ?_
  refine y_aload_n (pc := 290) (q := 0) C dL_law_290 rfl rfl ?_
  refine y_iload_n (pc := 291) (q := 3) C dL_law_291 rfl rfl ?_
  refine y_iconst (pc := 292) (v := (3 : Int32)) C dL_law_292 (by decide) ?_
  refine y_iadd (pc := 293) C dL_law_293 ?_
  refine y_sld (pc := 294) C hX hbl (by omega) h3 dL_law_294 ?_
  obtain ⟨q1, q2, e1, e2, he, hI⟩ := hs σ ((xs (x3 + (1 : Int32)).toNatClampNeg)) ((xs (x3 + (2 : Int32)).toNatClampNeg)) ((xs (x3 + (3 : Int32)).toNatClampNeg)) hI
  refine y_callV (pc := 295) (a := 0) (As := [.int (xs (x3 + (1 : Int32)).toNatClampNeg), .int (xs (x3 + (2 : Int32)).toNatClampNeg), .int (xs (x3 + (3 : Int32)).toNatClampNeg)]) (rest := []) C (mX9_block (fu := fu) e1) vwL_38 rfl (by decide) rfl rfl rfl (Nat.le_of_ble_eq_true rfl) ⟨Nat.le_of_ble_eq_true rfl, Nat.le_of_ble_eq_true rfl⟩ ⟨Nat.le_refl _, Nat.le_refl _⟩ dL_law_295 ?_
  show Y _ _ _ _ _ _ _ _ _ _ _ _ _ _ _ _ _ _ q1.2 298 [(0, .ref b), (1, .ref (ad 0)), (2, .ref (ad 43)), (3, .int x3)] [.int q1.1]
  refine y_aload_n (pc := 298) (q := 2) C dL_law_298 rfl rfl ?_
  refine y_aload_n (pc := 299) (q := 0) C dL_law_299 rfl rfl ?_
  refine y_iload_n (pc := 300) (q := 3) C dL_law_300 rfl rfl ?_
  refine y_iconst (pc := 301) (v := (1 : Int32)) C dL_law_301 (by decide) ?_
  refine y_iadd (pc := 302) C dL_law_302 ?_
  refine y_sld (pc := 303) C hX hbl (by omega) h1 dL_law_303 ?_
  refine y_aload_n (pc := 304) (q := 0) C dL_law_304 rfl rfl ?_
  refine y_iload_n (pc := 305) (q := 3) C dL_law_305 rfl rfl ?_
  refine y_iconst (pc := 306) (v := (2 : Int32)) C dL_law_306 (by decide) ?_
  refine y_iadd (pc := 307) C dL_law_307 ?_
  refine y_sld (pc := 308) C hX hbl (by omega) h2 dL_law_308 ?_
  refine y_aload_n (pc := 309) (q := 0) C dL_law_309 rfl rfl ?_
  refine y_iload_n (pc := 310) (q := 3) C dL_law_310 rfl rfl ?_
  refine y_iconst (pc := 311) (v := (3 : Int32)) C dL_law_311 (by decide) ?_
  refine y_iadd (pc := 312) C dL_law_312 ?_
  refine y_sld (pc := 313) C hX hbl (by omega) h3 dL_law_313 ?_
  refine y_callV (pc := 314) (a := 43) (As := [.int (xs (x3 + (1 : Int32)).toNatClampNeg), .int (xs (x3 + (2 : Int32)).toNatClampNeg), .int (xs (x3 + (3 : Int32)).toNatClampNeg)]) (rest := [.int q1.1]) C (mX10_block (fu := fu) e2) vwL_42 rfl (by decide) rfl rfl rfl (Nat.le_of_ble_eq_true rfl) ⟨Nat.le_of_ble_eq_true rfl, Nat.le_of_ble_eq_true rfl⟩ ⟨Nat.le_refl _, Nat.le_refl _⟩ dL_law_314 ?_
  show Y _ _ _ _ _ _ _ _ _ _ _ _ _ _ _ _ _ _ q2.2 317 [(0, .ref b), (1, .ref (ad 0)), (2, .ref (ad 43)), (3, .int x3)] [.int q2.1, .int q1.1]
  refine y_icmp_eq (pc := 317) (tgt := 852) C dL_law_317 (by decide) (fun _ => ?_) (fun hc => absurd he hc)
  exact kk _ hI
set_option maxHeartbeats 4000000 in
theorem lc_about {D : va_G} {cA : ClassId} {ad : Nat → Nat} {p : Program} {l : Launch} {e : Env} {s : State} {m : MethodId} {below : List Frame} {meth : Method} {c : Code} {b L : Nat} {xs : Nat → Int32} (C : Cx D cA s.heap.size ad RL cL_law 4 ret p s m #[Value.ref b] meth c) (hX : va_X b L xs s s.heap) (hbl : b < s.heap.size) {fu : Nat} {Inv : St → Prop} (hs : Sm_about fu Inv) {x3 : Int32} (h1 : vp_in (x3 + (1 : Int32)) L) (h2 : vp_in (x3 + (2 : Int32)) L) (h3 : vp_in (x3 + (3 : Int32)) L) (kk : ∀ σ, Inv σ → Y D cA s.heap.size ad p l e room_1 s m #[Value.ref b] below meth c 4 56 4695 (lw_Z below #[Value.ref b] s) σ 852 [(0, .ref b), (1, .ref (ad 0)), (2, .ref (ad 43)), (3, .int x3)] []) {σ : St} (hI : Inv σ) : Y D cA s.heap.size ad p l e room_1 s m #[Value.ref b] below meth c 4 56 4695 (lw_Z below #[Value.ref b] s) σ 322 [(0, .ref b), (1, .ref (ad 0)), (2, .ref (ad 43)), (3, .int x3)] [] := by
  refine y_aload_n (pc := 322) (q := 1) C dL_law_322 rfl rfl ?_
  refine y_aload_n (pc := 323) (q := 0) C dL_law_323 rfl rfl ?_
  refine y_iload_n (pc := 324) (q := 3) C dL_law_324 rfl rfl ?_
  refine y_iconst (pc := 325) (v := (1 : Int32)) C dL_law_325 (by decide) ?_
  refine y_iadd (pc := 326) C dL_law_326 ?_
  refine y_sld (pc := 327) C hX hbl (by omega) h1 dL_law_327 ?_
  refine y_aload_n (pc := 328) (q := 0) C dL_law_328 rfl rfl ?_
  refine y_iload_n (pc := 329) (q := 3) C dL_law_329 rfl rfl ?_
  refine y_iconst (pc := 330) (v := (2 : Int32)) C dL_law_330 (by decide) ?_
  refine y_iadd (pc := 331) C dL_law_331 ?_
  refine y_sld (pc := 332) C hX hbl (by omega) h2 dL_law_332 ?_
  obtain ⟨q1, q2, e1, e2, he, hI⟩ := hs σ ((xs (x3 + (1 : Int32)).toNatClampNeg)) ((xs (x3 + (2 : Int32)).toNatClampNeg)) hI
  refine y_callV (pc := 333) (a := 0) (As := [.int (xs (x3 + (1 : Int32)).toNatClampNeg), .int (xs (x3 + (2 : Int32)).toNatClampNeg)]) (rest := []) C (mX9_about (fu := fu) e1) vwL_43 rfl (by decide) rfl rfl rfl (Nat.le_of_ble_eq_true rfl) ⟨Nat.le_of_ble_eq_true rfl, Nat.le_of_ble_eq_true rfl⟩ ⟨Nat.le_refl _, Nat.le_refl _⟩ dL_law_333 ?_
  show Y _ _ _ _ _ _ _ _ _ _ _ _ _ _ _ _ _ _ q1.2 336 [(0, .ref b), (1, .ref (ad 0)), (2, .ref (ad 43)), (3, .int x3)] [.int q1.1]
  refine y_aload_n (pc := 336) (q := 2) C dL_law_336 rfl rfl ?_
  refine y_aload_n (pc := 337) (q := 0) C dL_law_337 rfl rfl ?_
  refine y_iload_n (pc := 338) (q := 3) C dL_law_338 rfl rfl ?_
  refine y_iconst (pc := 339) (v := (1 : Int32)) C dL_law_339 (by decide) ?_
  refine y_iadd (pc := 340) C dL_law_340 ?_
  refine y_sld (pc := 341) C hX hbl (by omega) h1 dL_law_341 ?_
  refine y_aload_n (pc := 342) (q := 0) C dL_law_342 rfl rfl ?_
  refine y_iload_n (pc := 343) (q := 3) C dL_law_343 rfl rfl ?_
  refine y_iconst (pc := 344) (v := (2 : Int32)) C dL_law_344 (by decide) ?_
  refine y_iadd (pc := 345) C dL_law_345 ?_
  refine y_sld (pc := 346) C hX hbl (by omega) h2 dL_law_346 ?_
  refine y_callV (pc := 347) (a := 43) (As := [.int (xs (x3 + (1 : Int32)).toNatClampNeg), .int (xs (x3 + (2 : Int32)).toNatClampNeg)]) (rest := [.int q1.1]) C (mX10_about (fu := fu) e2) vwL_47 rfl (by decide) rfl rfl rfl (Nat.le_of_ble_eq_true rfl) ⟨Nat.le_of_ble_eq_true rfl, Nat.le_of_ble_eq_true rfl⟩ ⟨Nat.le_refl _, Nat.le_refl _⟩ dL_law_347 ?_
  show Y _ _ _ _ _ _ _ _ _ _ _ _ _ _ _ _ _ _ q2.2 350 [(0, .ref b), (1, .ref (ad 0)), (2, .ref (ad 43)), (3, .int x3)] [.int q2.1, .int q1.1]
  refine y_icmp_eq (pc := 350) (tgt := 852) C dL_law_350 (by decide) (fun _ => ?_) (fun hc => absurd he hc)
  exact kk _ hI
set_option maxHeartbeats 4000000 in
theorem lc_as {D : va_G} {cA : ClassId} {ad : Nat → Nat} {p : Program} {l : Launch} {e : Env} {s : State} {m : MethodId} {below : List Frame} {meth : Method} {c : Code} {b L : Nat} {xs : Nat → Int32} (C : Cx D cA s.heap.size ad RL cL_law 4 ret p s m #[Value.ref b] meth c) (hX : va_X b L xs s s.heap) (hbl : b < s.heap.size) {fu : Nat} {Inv : St → Prop} (hs : Sm_as fu Inv) {x3 : Int32} (h1 : vp_in (x3 + (1 : Int32)) L) (h2 : vp_in (x3 + (2 : Int32)) L) (h3 : vp_in (x3 + (3 : Int32)) L) (kk : ∀ σ, Inv σ → Y D cA s.heap.size ad p l e room_1 s m #[Value.ref b] below meth c 4 56 4695 (lw_Z below #[Value.ref b] s) σ 852 [(0, .ref b), (1, .ref (ad 0)), (2, .ref (ad 43)), (3, .int x3)] []) {σ : St} (hI : Inv σ) : Y D cA s.heap.size ad p l e room_1 s m #[Value.ref b] below meth c 4 56 4695 (lw_Z below #[Value.ref b] s) σ 355 [(0, .ref b), (1, .ref (ad 0)), (2, .ref (ad 43)), (3, .int x3)] [] := by
  refine y_aload_n (pc := 355) (q := 1) C dL_law_355 rfl rfl ?_
  refine y_aload_n (pc := 356) (q := 0) C dL_law_356 rfl rfl ?_
  refine y_iload_n (pc := 357) (q := 3) C dL_law_357 rfl rfl ?_
  refine y_iconst (pc := 358) (v := (1 : Int32)) C dL_law_358 (by decide) ?_
  refine y_iadd (pc := 359) C dL_law_359 ?_
  refine y_sld (pc := 360) C hX hbl (by omega) h1 dL_law_360 ?_
  refine y_aload_n (pc := 361) (q := 0) C dL_law_361 rfl rfl ?_
  refine y_iload_n (pc := 362) (q := 3) C dL_law_362 rfl rfl ?_
  refine y_iconst (pc := 363) (v := (2 : Int32)) C dL_law_363 (by decide) ?_
  refine y_iadd (pc := 364) C dL_law_364 ?_
  refine y_sld (pc := 365) C hX hbl (by omega) h2 dL_law_365 ?_
  obtain ⟨q1, q2, e1, e2, he, hI⟩ := hs σ ((xs (x3 + (1 : Int32)).toNatClampNeg)) ((xs (x3 + (2 : Int32)).toNatClampNeg)) hI
  refine y_callV (pc := 366) (a := 0) (As := [.int (xs (x3 + (1 : Int32)).toNatClampNeg), .int (xs (x3 + (2 : Int32)).toNatClampNeg)]) (rest := []) C (mX9_as (fu := fu) e1) vwL_48 rfl (by decide) rfl rfl rfl (Nat.le_of_ble_eq_true rfl) ⟨Nat.le_of_ble_eq_true rfl, Nat.le_of_ble_eq_true rfl⟩ ⟨Nat.le_refl _, Nat.le_refl _⟩ dL_law_366 ?_
  show Y _ _ _ _ _ _ _ _ _ _ _ _ _ _ _ _ _ _ q1.2 369 [(0, .ref b), (1, .ref (ad 0)), (2, .ref (ad 43)), (3, .int x3)] [.int q1.1]
  refine y_aload_n (pc := 369) (q := 2) C dL_law_369 rfl rfl ?_
  refine y_aload_n (pc := 370) (q := 0) C dL_law_370 rfl rfl ?_
  refine y_iload_n (pc := 371) (q := 3) C dL_law_371 rfl rfl ?_
  refine y_iconst (pc := 372) (v := (1 : Int32)) C dL_law_372 (by decide) ?_
  refine y_iadd (pc := 373) C dL_law_373 ?_
  refine y_sld (pc := 374) C hX hbl (by omega) h1 dL_law_374 ?_
  refine y_aload_n (pc := 375) (q := 0) C dL_law_375 rfl rfl ?_
  refine y_iload_n (pc := 376) (q := 3) C dL_law_376 rfl rfl ?_
  refine y_iconst (pc := 377) (v := (2 : Int32)) C dL_law_377 (by decide) ?_
  refine y_iadd (pc := 378) C dL_law_378 ?_
  refine y_sld (pc := 379) C hX hbl (by omega) h2 dL_law_379 ?_
  refine y_callV (pc := 380) (a := 43) (As := [.int (xs (x3 + (1 : Int32)).toNatClampNeg), .int (xs (x3 + (2 : Int32)).toNatClampNeg)]) (rest := [.int q1.1]) C (mX10_as (fu := fu) e2) vwL_51 rfl (by decide) rfl rfl rfl (Nat.le_of_ble_eq_true rfl) ⟨Nat.le_of_ble_eq_true rfl, Nat.le_of_ble_eq_true rfl⟩ ⟨Nat.le_refl _, Nat.le_refl _⟩ dL_law_380 ?_
  show Y _ _ _ _ _ _ _ _ _ _ _ _ _ _ _ _ _ _ q2.2 383 [(0, .ref b), (1, .ref (ad 0)), (2, .ref (ad 43)), (3, .int x3)] [.int q2.1, .int q1.1]
  refine y_icmp_eq (pc := 383) (tgt := 852) C dL_law_383 (by decide) (fun _ => ?_) (fun hc => absurd he hc)
  exact kk _ hI
set_option maxHeartbeats 4000000 in
theorem lc_wheels {D : va_G} {cA : ClassId} {ad : Nat → Nat} {p : Program} {l : Launch} {e : Env} {s : State} {m : MethodId} {below : List Frame} {meth : Method} {c : Code} {b L : Nat} {xs : Nat → Int32} (C : Cx D cA s.heap.size ad RL cL_law 4 ret p s m #[Value.ref b] meth c) (hX : va_X b L xs s s.heap) (hbl : b < s.heap.size) {fu : Nat} {Inv : St → Prop} (hs : Sm_wheels fu Inv) {x3 : Int32} (h1 : vp_in (x3 + (1 : Int32)) L) (h2 : vp_in (x3 + (2 : Int32)) L) (h3 : vp_in (x3 + (3 : Int32)) L) (kk : ∀ σ, Inv σ → Y D cA s.heap.size ad p l e room_1 s m #[Value.ref b] below meth c 4 56 4695 (lw_Z below #[Value.ref b] s) σ 852 [(0, .ref b), (1, .ref (ad 0)), (2, .ref (ad 43)), (3, .int x3)] []) {σ : St} (hI : Inv σ) : Y D cA s.heap.size ad p l e room_1 s m #[Value.ref b] below meth c 4 56 4695 (lw_Z below #[Value.ref b] s) σ 388 [(0, .ref b), (1, .ref (ad 0)), (2, .ref (ad 43)), (3, .int x3)] [] := by
  refine y_aload_n (pc := 388) (q := 1) C dL_law_388 rfl rfl ?_
  refine y_aload_n (pc := 389) (q := 0) C dL_law_389 rfl rfl ?_
  refine y_iload_n (pc := 390) (q := 3) C dL_law_390 rfl rfl ?_
  refine y_iconst (pc := 391) (v := (1 : Int32)) C dL_law_391 (by decide) ?_
  refine y_iadd (pc := 392) C dL_law_392 ?_
  refine y_sld (pc := 393) C hX hbl (by omega) h1 dL_law_393 ?_
  refine y_aload_n (pc := 394) (q := 0) C dL_law_394 rfl rfl ?_
  refine y_iload_n (pc := 395) (q := 3) C dL_law_395 rfl rfl ?_
  refine y_iconst (pc := 396) (v := (2 : Int32)) C dL_law_396 (by decide) ?_
  refine y_iadd (pc := 397) C dL_law_397 ?_
  refine y_sld (pc := 398) C hX hbl (by omega) h2 dL_law_398 ?_
  obtain ⟨q1, q2, e1, e2, he, hI⟩ := hs σ ((xs (x3 + (1 : Int32)).toNatClampNeg)) ((xs (x3 + (2 : Int32)).toNatClampNeg)) hI
  refine y_callV (pc := 399) (a := 0) (As := [.int (xs (x3 + (1 : Int32)).toNatClampNeg), .int (xs (x3 + (2 : Int32)).toNatClampNeg)]) (rest := []) C (mX9_wheels (fu := fu) e1) vwL_52 rfl (by decide) rfl rfl rfl (Nat.le_of_ble_eq_true rfl) ⟨Nat.le_of_ble_eq_true rfl, Nat.le_of_ble_eq_true rfl⟩ ⟨Nat.le_refl _, Nat.le_refl _⟩ dL_law_399 ?_
  show Y _ _ _ _ _ _ _ _ _ _ _ _ _ _ _ _ _ _ q1.2 402 [(0, .ref b), (1, .ref (ad 0)), (2, .ref (ad 43)), (3, .int x3)] [.int q1.1]
  refine y_aload_n (pc := 402) (q := 2) C dL_law_402 rfl rfl ?_
  refine y_aload_n (pc := 403) (q := 0) C dL_law_403 rfl rfl ?_
  refine y_iload_n (pc := 404) (q := 3) C dL_law_404 rfl rfl ?_
  refine y_iconst (pc := 405) (v := (1 : Int32)) C dL_law_405 (by decide) ?_
  refine y_iadd (pc := 406) C dL_law_406 ?_
  refine y_sld (pc := 407) C hX hbl (by omega) h1 dL_law_407 ?_
  refine y_aload_n (pc := 408) (q := 0) C dL_law_408 rfl rfl ?_
  refine y_iload_n (pc := 409) (q := 3) C dL_law_409 rfl rfl ?_
  refine y_iconst (pc := 410) (v := (2 : Int32)) C dL_law_410 (by decide) ?_
  refine y_iadd (pc := 411) C dL_law_411 ?_
  refine y_sld (pc := 412) C hX hbl (by omega) h2 dL_law_412 ?_
  refine y_callV (pc := 413) (a := 43) (As := [.int (xs (x3 + (1 : Int32)).toNatClampNeg), .int (xs (x3 + (2 : Int32)).toNatClampNeg)]) (rest := [.int q1.1]) C (mX10_wheels (fu := fu) e2) vwL_55 rfl (by decide) rfl rfl rfl (Nat.le_of_ble_eq_true rfl) ⟨Nat.le_of_ble_eq_true rfl, Nat.le_of_ble_eq_true rfl⟩ ⟨Nat.le_refl _, Nat.le_refl _⟩ dL_law_413 ?_
  show Y _ _ _ _ _ _ _ _ _ _ _ _ _ _ _ _ _ _ q2.2 416 [(0, .ref b), (1, .ref (ad 0)), (2, .ref (ad 43)), (3, .int x3)] [.int q2.1, .int q1.1]
  refine y_icmp_eq (pc := 416) (tgt := 852) C dL_law_416 (by decide) (fun _ => ?_) (fun hc => absurd he hc)
  exact kk _ hI
set_option maxHeartbeats 4000000 in
theorem lc_at {D : va_G} {cA : ClassId} {ad : Nat → Nat} {p : Program} {l : Launch} {e : Env} {s : State} {m : MethodId} {below : List Frame} {meth : Method} {c : Code} {b L : Nat} {xs : Nat → Int32} (C : Cx D cA s.heap.size ad RL cL_law 4 ret p s m #[Value.ref b] meth c) (hX : va_X b L xs s s.heap) (hbl : b < s.heap.size) {fu : Nat} {Inv : St → Prop} (hs : Sm_at fu Inv) {x3 : Int32} (h1 : vp_in (x3 + (1 : Int32)) L) (h2 : vp_in (x3 + (2 : Int32)) L) (h3 : vp_in (x3 + (3 : Int32)) L) (kk : ∀ σ, Inv σ → Y D cA s.heap.size ad p l e room_1 s m #[Value.ref b] below meth c 4 56 4695 (lw_Z below #[Value.ref b] s) σ 852 [(0, .ref b), (1, .ref (ad 0)), (2, .ref (ad 43)), (3, .int x3)] []) {σ : St} (hI : Inv σ) : Y D cA s.heap.size ad p l e room_1 s m #[Value.ref b] below meth c 4 56 4695 (lw_Z below #[Value.ref b] s) σ 421 [(0, .ref b), (1, .ref (ad 0)), (2, .ref (ad 43)), (3, .int x3)] [] := by
  refine y_aload_n (pc := 421) (q := 1) C dL_law_421 rfl rfl ?_
  refine y_aload_n (pc := 422) (q := 0) C dL_law_422 rfl rfl ?_
  refine y_iload_n (pc := 423) (q := 3) C dL_law_423 rfl rfl ?_
  refine y_iconst (pc := 424) (v := (1 : Int32)) C dL_law_424 (by decide) ?_
  refine y_iadd (pc := 425) C dL_law_425 ?_
  refine y_sld (pc := 426) C hX hbl (by omega) h1 dL_law_426 ?_
  obtain ⟨q1, q2, e1, e2, he, hI⟩ := hs σ ((xs (x3 + (1 : Int32)).toNatClampNeg)) hI
  refine y_callV (pc := 427) (a := 0) (As := [.int (xs (x3 + (1 : Int32)).toNatClampNeg)]) (rest := []) C (mX9_at (fu := fu) e1) vwL_56 rfl (by decide) rfl rfl rfl (Nat.le_of_ble_eq_true rfl) ⟨Nat.le_of_ble_eq_true rfl, Nat.le_of_ble_eq_true rfl⟩ ⟨Nat.le_refl _, Nat.le_refl _⟩ dL_law_427 ?_
  show Y _ _ _ _ _ _ _ _ _ _ _ _ _ _ _ _ _ _ q1.2 430 [(0, .ref b), (1, .ref (ad 0)), (2, .ref (ad 43)), (3, .int x3)] [.int q1.1]
  refine y_aload_n (pc := 430) (q := 2) C dL_law_430 rfl rfl ?_
  refine y_aload_n (pc := 431) (q := 0) C dL_law_431 rfl rfl ?_
  refine y_iload_n (pc := 432) (q := 3) C dL_law_432 rfl rfl ?_
  refine y_iconst (pc := 433) (v := (1 : Int32)) C dL_law_433 (by decide) ?_
  refine y_iadd (pc := 434) C dL_law_434 ?_
  refine y_sld (pc := 435) C hX hbl (by omega) h1 dL_law_435 ?_
  refine y_callV (pc := 436) (a := 43) (As := [.int (xs (x3 + (1 : Int32)).toNatClampNeg)]) (rest := [.int q1.1]) C (mX10_at (fu := fu) e2) vwL_59 rfl (by decide) rfl rfl rfl (Nat.le_of_ble_eq_true rfl) ⟨Nat.le_of_ble_eq_true rfl, Nat.le_of_ble_eq_true rfl⟩ ⟨Nat.le_refl _, Nat.le_refl _⟩ dL_law_436 ?_
  show Y _ _ _ _ _ _ _ _ _ _ _ _ _ _ _ _ _ _ q2.2 439 [(0, .ref b), (1, .ref (ad 0)), (2, .ref (ad 43)), (3, .int x3)] [.int q2.1, .int q1.1]
  refine y_icmp_eq (pc := 439) (tgt := 852) C dL_law_439 (by decide) (fun _ => ?_) (fun hc => absurd he hc)
  exact kk _ hI
set_option maxHeartbeats 4000000 in
theorem lc_turn {D : va_G} {cA : ClassId} {ad : Nat → Nat} {p : Program} {l : Launch} {e : Env} {s : State} {m : MethodId} {below : List Frame} {meth : Method} {c : Code} {b L : Nat} {xs : Nat → Int32} (C : Cx D cA s.heap.size ad RL cL_law 4 ret p s m #[Value.ref b] meth c) (hX : va_X b L xs s s.heap) (hbl : b < s.heap.size) {fu : Nat} {Inv : St → Prop} (hs : Sm_turn fu Inv) {x3 : Int32} (h1 : vp_in (x3 + (1 : Int32)) L) (h2 : vp_in (x3 + (2 : Int32)) L) (h3 : vp_in (x3 + (3 : Int32)) L) (kk : ∀ σ, Inv σ → Y D cA s.heap.size ad p l e room_1 s m #[Value.ref b] below meth c 4 56 4695 (lw_Z below #[Value.ref b] s) σ 852 [(0, .ref b), (1, .ref (ad 0)), (2, .ref (ad 43)), (3, .int x3)] []) {σ : St} (hI : Inv σ) : Y D cA s.heap.size ad p l e room_1 s m #[Value.ref b] below meth c 4 56 4695 (lw_Z below #[Value.ref b] s) σ 444 [(0, .ref b), (1, .ref (ad 0)), (2, .ref (ad 43)), (3, .int x3)] [] := by
  refine y_aload_n (pc := 444) (q := 1) C dL_law_444 rfl rfl ?_
  refine y_aload_n (pc := 445) (q := 0) C dL_law_445 rfl rfl ?_
  refine y_iload_n (pc := 446) (q := 3) C dL_law_446 rfl rfl ?_
  refine y_iconst (pc := 447) (v := (1 : Int32)) C dL_law_447 (by decide) ?_
  refine y_iadd (pc := 448) C dL_law_448 ?_
  refine y_sld (pc := 449) C hX hbl (by omega) h1 dL_law_449 ?_
  obtain ⟨q1, q2, e1, e2, he, hI⟩ := hs σ ((xs (x3 + (1 : Int32)).toNatClampNeg)) hI
  refine y_callV (pc := 450) (a := 0) (As := [.int (xs (x3 + (1 : Int32)).toNatClampNeg)]) (rest := []) C (mX9_turn (fu := fu) e1) vwL_60 rfl (by decide) rfl rfl rfl (Nat.le_of_ble_eq_true rfl) ⟨Nat.le_of_ble_eq_true rfl, Nat.le_of_ble_eq_true rfl⟩ ⟨Nat.le_refl _, Nat.le_refl _⟩ dL_law_450 ?_
  show Y _ _ _ _ _ _ _ _ _ _ _ _ _ _ _ _ _ _ q1.2 453 [(0, .ref b), (1, .ref (ad 0)), (2, .ref (ad 43)), (3, .int x3)] [.int q1.1]
  refine y_aload_n (pc := 453) (q := 2) C dL_law_453 rfl rfl ?_
  refine y_aload_n (pc := 454) (q := 0) C dL_law_454 rfl rfl ?_
  refine y_iload_n (pc := 455) (q := 3) C dL_law_455 rfl rfl ?_
  refine y_iconst (pc := 456) (v := (1 : Int32)) C dL_law_456 (by decide) ?_
  refine y_iadd (pc := 457) C dL_law_457 ?_
  refine y_sld (pc := 458) C hX hbl (by omega) h1 dL_law_458 ?_
  refine y_callV (pc := 459) (a := 43) (As := [.int (xs (x3 + (1 : Int32)).toNatClampNeg)]) (rest := [.int q1.1]) C (mX10_turn (fu := fu) e2) vwL_63 rfl (by decide) rfl rfl rfl (Nat.le_of_ble_eq_true rfl) ⟨Nat.le_of_ble_eq_true rfl, Nat.le_of_ble_eq_true rfl⟩ ⟨Nat.le_refl _, Nat.le_refl _⟩ dL_law_459 ?_
  show Y _ _ _ _ _ _ _ _ _ _ _ _ _ _ _ _ _ _ q2.2 462 [(0, .ref b), (1, .ref (ad 0)), (2, .ref (ad 43)), (3, .int x3)] [.int q2.1, .int q1.1]
  refine y_icmp_eq (pc := 462) (tgt := 852) C dL_law_462 (by decide) (fun _ => ?_) (fun hc => absurd he hc)
  exact kk _ hI
set_option maxHeartbeats 4000000 in
theorem lc_thief {D : va_G} {cA : ClassId} {ad : Nat → Nat} {p : Program} {l : Launch} {e : Env} {s : State} {m : MethodId} {below : List Frame} {meth : Method} {c : Code} {b L : Nat} {xs : Nat → Int32} (C : Cx D cA s.heap.size ad RL cL_law 4 ret p s m #[Value.ref b] meth c) (hX : va_X b L xs s s.heap) (hbl : b < s.heap.size) {fu : Nat} {Inv : St → Prop} (hs : Sm_thief fu Inv) {x3 : Int32} (h1 : vp_in (x3 + (1 : Int32)) L) (h2 : vp_in (x3 + (2 : Int32)) L) (h3 : vp_in (x3 + (3 : Int32)) L) (kk : ∀ σ, Inv σ → Y D cA s.heap.size ad p l e room_1 s m #[Value.ref b] below meth c 4 56 4695 (lw_Z below #[Value.ref b] s) σ 852 [(0, .ref b), (1, .ref (ad 0)), (2, .ref (ad 43)), (3, .int x3)] []) {σ : St} (hI : Inv σ) : Y D cA s.heap.size ad p l e room_1 s m #[Value.ref b] below meth c 4 56 4695 (lw_Z below #[Value.ref b] s) σ 467 [(0, .ref b), (1, .ref (ad 0)), (2, .ref (ad 43)), (3, .int x3)] [] := by
  refine y_aload_n (pc := 467) (q := 1) C dL_law_467 rfl rfl ?_
  refine y_aload_n (pc := 468) (q := 0) C dL_law_468 rfl rfl ?_
  refine y_iload_n (pc := 469) (q := 3) C dL_law_469 rfl rfl ?_
  refine y_iconst (pc := 470) (v := (1 : Int32)) C dL_law_470 (by decide) ?_
  refine y_iadd (pc := 471) C dL_law_471 ?_
  refine y_sld (pc := 472) C hX hbl (by omega) h1 dL_law_472 ?_
  obtain ⟨q1, q2, e1, e2, he, hI⟩ := hs σ ((xs (x3 + (1 : Int32)).toNatClampNeg)) hI
  refine y_callV (pc := 473) (a := 0) (As := [.int (xs (x3 + (1 : Int32)).toNatClampNeg)]) (rest := []) C (mX9_thief (fu := fu) e1) vwL_64 rfl (by decide) rfl rfl rfl (Nat.le_of_ble_eq_true rfl) ⟨Nat.le_of_ble_eq_true rfl, Nat.le_of_ble_eq_true rfl⟩ ⟨Nat.le_refl _, Nat.le_refl _⟩ dL_law_473 ?_
  show Y _ _ _ _ _ _ _ _ _ _ _ _ _ _ _ _ _ _ q1.2 476 [(0, .ref b), (1, .ref (ad 0)), (2, .ref (ad 43)), (3, .int x3)] [.int q1.1]
  refine y_aload_n (pc := 476) (q := 2) C dL_law_476 rfl rfl ?_
  refine y_aload_n (pc := 477) (q := 0) C dL_law_477 rfl rfl ?_
  refine y_iload_n (pc := 478) (q := 3) C dL_law_478 rfl rfl ?_
  refine y_iconst (pc := 479) (v := (1 : Int32)) C dL_law_479 (by decide) ?_
  refine y_iadd (pc := 480) C dL_law_480 ?_
  refine y_sld (pc := 481) C hX hbl (by omega) h1 dL_law_481 ?_
  refine y_callV (pc := 482) (a := 43) (As := [.int (xs (x3 + (1 : Int32)).toNatClampNeg)]) (rest := [.int q1.1]) C (mX10_thief (fu := fu) e2) vwL_67 rfl (by decide) rfl rfl rfl (Nat.le_of_ble_eq_true rfl) ⟨Nat.le_of_ble_eq_true rfl, Nat.le_of_ble_eq_true rfl⟩ ⟨Nat.le_refl _, Nat.le_refl _⟩ dL_law_482 ?_
  show Y _ _ _ _ _ _ _ _ _ _ _ _ _ _ _ _ _ _ q2.2 485 [(0, .ref b), (1, .ref (ad 0)), (2, .ref (ad 43)), (3, .int x3)] [.int q2.1, .int q1.1]
  refine y_icmp_eq (pc := 485) (tgt := 852) C dL_law_485 (by decide) (fun _ => ?_) (fun hc => absurd he hc)
  exact kk _ hI
set_option maxHeartbeats 4000000 in
theorem lc_lay {D : va_G} {cA : ClassId} {ad : Nat → Nat} {p : Program} {l : Launch} {e : Env} {s : State} {m : MethodId} {below : List Frame} {meth : Method} {c : Code} {b L : Nat} {xs : Nat → Int32} (C : Cx D cA s.heap.size ad RL cL_law 4 ret p s m #[Value.ref b] meth c) (hX : va_X b L xs s s.heap) (hbl : b < s.heap.size) {fu : Nat} {Inv : St → Prop} (hs : Sm_lay fu Inv) {x3 : Int32} (h1 : vp_in (x3 + (1 : Int32)) L) (h2 : vp_in (x3 + (2 : Int32)) L) (h3 : vp_in (x3 + (3 : Int32)) L) (kk : ∀ σ, Inv σ → Y D cA s.heap.size ad p l e room_1 s m #[Value.ref b] below meth c 4 56 4695 (lw_Z below #[Value.ref b] s) σ 852 [(0, .ref b), (1, .ref (ad 0)), (2, .ref (ad 43)), (3, .int x3)] []) {σ : St} (hI : Inv σ) : Y D cA s.heap.size ad p l e room_1 s m #[Value.ref b] below meth c 4 56 4695 (lw_Z below #[Value.ref b] s) σ 490 [(0, .ref b), (1, .ref (ad 0)), (2, .ref (ad 43)), (3, .int x3)] [] := by
  refine y_aload_n (pc := 490) (q := 1) C dL_law_490 rfl rfl ?_
  refine y_aload_n (pc := 491) (q := 0) C dL_law_491 rfl rfl ?_
  refine y_iload_n (pc := 492) (q := 3) C dL_law_492 rfl rfl ?_
  refine y_iconst (pc := 493) (v := (1 : Int32)) C dL_law_493 (by decide) ?_
  refine y_iadd (pc := 494) C dL_law_494 ?_
  refine y_sld (pc := 495) C hX hbl (by omega) h1 dL_law_495 ?_
  obtain ⟨q1, q2, e1, e2, he, hI⟩ := hs σ ((xs (x3 + (1 : Int32)).toNatClampNeg)) hI
  refine y_callV (pc := 496) (a := 0) (As := [.int (xs (x3 + (1 : Int32)).toNatClampNeg)]) (rest := []) C (mX9_lay (fu := fu) e1) vwL_68 rfl (by decide) rfl rfl rfl (Nat.le_of_ble_eq_true rfl) ⟨Nat.le_of_ble_eq_true rfl, Nat.le_of_ble_eq_true rfl⟩ ⟨Nat.le_refl _, Nat.le_refl _⟩ dL_law_496 ?_
  show Y _ _ _ _ _ _ _ _ _ _ _ _ _ _ _ _ _ _ q1.2 499 [(0, .ref b), (1, .ref (ad 0)), (2, .ref (ad 43)), (3, .int x3)] [.int q1.1]
  refine y_aload_n (pc := 499) (q := 2) C dL_law_499 rfl rfl ?_
  refine y_aload_n (pc := 500) (q := 0) C dL_law_500 rfl rfl ?_
  refine y_iload_n (pc := 501) (q := 3) C dL_law_501 rfl rfl ?_
  refine y_iconst (pc := 502) (v := (1 : Int32)) C dL_law_502 (by decide) ?_
  refine y_iadd (pc := 503) C dL_law_503 ?_
  refine y_sld (pc := 504) C hX hbl (by omega) h1 dL_law_504 ?_
  refine y_callV (pc := 505) (a := 43) (As := [.int (xs (x3 + (1 : Int32)).toNatClampNeg)]) (rest := [.int q1.1]) C (mX10_lay (fu := fu) e2) vwL_71 rfl (by decide) rfl rfl rfl (Nat.le_of_ble_eq_true rfl) ⟨Nat.le_of_ble_eq_true rfl, Nat.le_of_ble_eq_true rfl⟩ ⟨Nat.le_refl _, Nat.le_refl _⟩ dL_law_505 ?_
  show Y _ _ _ _ _ _ _ _ _ _ _ _ _ _ _ _ _ _ q2.2 508 [(0, .ref b), (1, .ref (ad 0)), (2, .ref (ad 43)), (3, .int x3)] [.int q2.1, .int q1.1]
  refine y_icmp_eq (pc := 508) (tgt := 852) C dL_law_508 (by decide) (fun _ => ?_) (fun hc => absurd he hc)
  exact kk _ hI
set_option maxHeartbeats 4000000 in
theorem lc_lawful {D : va_G} {cA : ClassId} {ad : Nat → Nat} {p : Program} {l : Launch} {e : Env} {s : State} {m : MethodId} {below : List Frame} {meth : Method} {c : Code} {b L : Nat} {xs : Nat → Int32} (C : Cx D cA s.heap.size ad RL cL_law 4 ret p s m #[Value.ref b] meth c) (hX : va_X b L xs s s.heap) (hbl : b < s.heap.size) {fu : Nat} {Inv : St → Prop} (hs : Sm_lawful fu Inv) {x3 : Int32} (h1 : vp_in (x3 + (1 : Int32)) L) (h2 : vp_in (x3 + (2 : Int32)) L) (h3 : vp_in (x3 + (3 : Int32)) L) (kk : ∀ σ, Inv σ → Y D cA s.heap.size ad p l e room_1 s m #[Value.ref b] below meth c 4 56 4695 (lw_Z below #[Value.ref b] s) σ 852 [(0, .ref b), (1, .ref (ad 0)), (2, .ref (ad 43)), (3, .int x3)] []) {σ : St} (hI : Inv σ) : Y D cA s.heap.size ad p l e room_1 s m #[Value.ref b] below meth c 4 56 4695 (lw_Z below #[Value.ref b] s) σ 513 [(0, .ref b), (1, .ref (ad 0)), (2, .ref (ad 43)), (3, .int x3)] [] := by
  refine y_aload_n (pc := 513) (q := 1) C dL_law_513 rfl rfl ?_
  refine y_aload_n (pc := 514) (q := 0) C dL_law_514 rfl rfl ?_
  refine y_iload_n (pc := 515) (q := 3) C dL_law_515 rfl rfl ?_
  refine y_iconst (pc := 516) (v := (1 : Int32)) C dL_law_516 (by decide) ?_
  refine y_iadd (pc := 517) C dL_law_517 ?_
  refine y_sld (pc := 518) C hX hbl (by omega) h1 dL_law_518 ?_
  obtain ⟨q1, q2, e1, e2, he, hI⟩ := hs σ ((xs (x3 + (1 : Int32)).toNatClampNeg)) hI
  refine y_callV (pc := 519) (a := 0) (As := [.int (xs (x3 + (1 : Int32)).toNatClampNeg)]) (rest := []) C (mX9_lawful (fu := fu) e1) vwL_72 rfl (by decide) rfl rfl rfl (Nat.le_of_ble_eq_true rfl) ⟨Nat.le_of_ble_eq_true rfl, Nat.le_of_ble_eq_true rfl⟩ ⟨Nat.le_refl _, Nat.le_refl _⟩ dL_law_519 ?_
  show Y _ _ _ _ _ _ _ _ _ _ _ _ _ _ _ _ _ _ q1.2 522 [(0, .ref b), (1, .ref (ad 0)), (2, .ref (ad 43)), (3, .int x3)] [.int q1.1]
  refine y_aload_n (pc := 522) (q := 2) C dL_law_522 rfl rfl ?_
  refine y_aload_n (pc := 523) (q := 0) C dL_law_523 rfl rfl ?_
  refine y_iload_n (pc := 524) (q := 3) C dL_law_524 rfl rfl ?_
  refine y_iconst (pc := 525) (v := (1 : Int32)) C dL_law_525 (by decide) ?_
  refine y_iadd (pc := 526) C dL_law_526 ?_
  refine y_sld (pc := 527) C hX hbl (by omega) h1 dL_law_527 ?_
  refine y_callV (pc := 528) (a := 43) (As := [.int (xs (x3 + (1 : Int32)).toNatClampNeg)]) (rest := [.int q1.1]) C (mX10_lawful (fu := fu) e2) vwL_75 rfl (by decide) rfl rfl rfl (Nat.le_of_ble_eq_true rfl) ⟨Nat.le_of_ble_eq_true rfl, Nat.le_of_ble_eq_true rfl⟩ ⟨Nat.le_refl _, Nat.le_refl _⟩ dL_law_528 ?_
  show Y _ _ _ _ _ _ _ _ _ _ _ _ _ _ _ _ _ _ q2.2 531 [(0, .ref b), (1, .ref (ad 0)), (2, .ref (ad 43)), (3, .int x3)] [.int q2.1, .int q1.1]
  refine y_icmp_eq (pc := 531) (tgt := 852) C dL_law_531 (by decide) (fun _ => ?_) (fun hc => absurd he hc)
  exact kk _ hI
set_option maxHeartbeats 4000000 in
theorem lc_years {D : va_G} {cA : ClassId} {ad : Nat → Nat} {p : Program} {l : Launch} {e : Env} {s : State} {m : MethodId} {below : List Frame} {meth : Method} {c : Code} {b L : Nat} {xs : Nat → Int32} (C : Cx D cA s.heap.size ad RL cL_law 4 ret p s m #[Value.ref b] meth c) (hX : va_X b L xs s s.heap) (hbl : b < s.heap.size) {fu : Nat} {Inv : St → Prop} (hs : Sm_years fu Inv) {x3 : Int32} (h1 : vp_in (x3 + (1 : Int32)) L) (h2 : vp_in (x3 + (2 : Int32)) L) (h3 : vp_in (x3 + (3 : Int32)) L) (kk : ∀ σ, Inv σ → Y D cA s.heap.size ad p l e room_1 s m #[Value.ref b] below meth c 4 56 4695 (lw_Z below #[Value.ref b] s) σ 852 [(0, .ref b), (1, .ref (ad 0)), (2, .ref (ad 43)), (3, .int x3)] []) {σ : St} (hI : Inv σ) : Y D cA s.heap.size ad p l e room_1 s m #[Value.ref b] below meth c 4 56 4695 (lw_Z below #[Value.ref b] s) σ 536 [(0, .ref b), (1, .ref (ad 0)), (2, .ref (ad 43)), (3, .int x3)] [] := by
  refine y_aload_n (pc := 536) (q := 1) C dL_law_536 rfl rfl ?_
  refine y_aload_n (pc := 537) (q := 0) C dL_law_537 rfl rfl ?_
  refine y_iload_n (pc := 538) (q := 3) C dL_law_538 rfl rfl ?_
  refine y_iconst (pc := 539) (v := (1 : Int32)) C dL_law_539 (by decide) ?_
  refine y_iadd (pc := 540) C dL_law_540 ?_
  refine y_sld (pc := 541) C hX hbl (by omega) h1 dL_law_541 ?_
  obtain ⟨q1, q2, e1, e2, he, hI⟩ := hs σ ((xs (x3 + (1 : Int32)).toNatClampNeg)) hI
  refine y_callV (pc := 542) (a := 0) (As := [.int (xs (x3 + (1 : Int32)).toNatClampNeg)]) (rest := []) C (mX9_years (fu := fu) e1) vwL_76 rfl (by decide) rfl rfl rfl (Nat.le_of_ble_eq_true rfl) ⟨Nat.le_of_ble_eq_true rfl, Nat.le_of_ble_eq_true rfl⟩ ⟨Nat.le_refl _, Nat.le_refl _⟩ dL_law_542 ?_
  show Y _ _ _ _ _ _ _ _ _ _ _ _ _ _ _ _ _ _ q1.2 545 [(0, .ref b), (1, .ref (ad 0)), (2, .ref (ad 43)), (3, .int x3)] [.int q1.1]
  refine y_aload_n (pc := 545) (q := 2) C dL_law_545 rfl rfl ?_
  refine y_aload_n (pc := 546) (q := 0) C dL_law_546 rfl rfl ?_
  refine y_iload_n (pc := 547) (q := 3) C dL_law_547 rfl rfl ?_
  refine y_iconst (pc := 548) (v := (1 : Int32)) C dL_law_548 (by decide) ?_
  refine y_iadd (pc := 549) C dL_law_549 ?_
  refine y_sld (pc := 550) C hX hbl (by omega) h1 dL_law_550 ?_
  refine y_callV (pc := 551) (a := 43) (As := [.int (xs (x3 + (1 : Int32)).toNatClampNeg)]) (rest := [.int q1.1]) C (mX10_years (fu := fu) e2) vwL_79 rfl (by decide) rfl rfl rfl (Nat.le_of_ble_eq_true rfl) ⟨Nat.le_of_ble_eq_true rfl, Nat.le_of_ble_eq_true rfl⟩ ⟨Nat.le_refl _, Nat.le_refl _⟩ dL_law_551 ?_
  show Y _ _ _ _ _ _ _ _ _ _ _ _ _ _ _ _ _ _ q2.2 554 [(0, .ref b), (1, .ref (ad 0)), (2, .ref (ad 43)), (3, .int x3)] [.int q2.1, .int q1.1]
  refine y_icmp_eq (pc := 554) (tgt := 852) C dL_law_554 (by decide) (fun _ => ?_) (fun hc => absurd he hc)
  exact kk _ hI
set_option maxHeartbeats 4000000 in
theorem lc_worst {D : va_G} {cA : ClassId} {ad : Nat → Nat} {p : Program} {l : Launch} {e : Env} {s : State} {m : MethodId} {below : List Frame} {meth : Method} {c : Code} {b L : Nat} {xs : Nat → Int32} (C : Cx D cA s.heap.size ad RL cL_law 4 ret p s m #[Value.ref b] meth c) (hX : va_X b L xs s s.heap) (hbl : b < s.heap.size) {fu : Nat} {Inv : St → Prop} (hs : Sm_worst fu Inv) {x3 : Int32} (h1 : vp_in (x3 + (1 : Int32)) L) (h2 : vp_in (x3 + (2 : Int32)) L) (h3 : vp_in (x3 + (3 : Int32)) L) (kk : ∀ σ, Inv σ → Y D cA s.heap.size ad p l e room_1 s m #[Value.ref b] below meth c 4 56 4695 (lw_Z below #[Value.ref b] s) σ 852 [(0, .ref b), (1, .ref (ad 0)), (2, .ref (ad 43)), (3, .int x3)] []) {σ : St} (hI : Inv σ) : Y D cA s.heap.size ad p l e room_1 s m #[Value.ref b] below meth c 4 56 4695 (lw_Z below #[Value.ref b] s) σ 559 [(0, .ref b), (1, .ref (ad 0)), (2, .ref (ad 43)), (3, .int x3)] [] := by
  refine y_aload_n (pc := 559) (q := 1) C dL_law_559 rfl rfl ?_
  obtain ⟨q1, q2, e1, e2, he, hI⟩ := hs σ  hI
  refine y_callV (pc := 560) (a := 0) (As := []) (rest := []) C (mX9_worst (fu := fu) e1) vwL_80 rfl (by decide) rfl rfl rfl (Nat.le_of_ble_eq_true rfl) ⟨Nat.le_of_ble_eq_true rfl, Nat.le_of_ble_eq_true rfl⟩ ⟨Nat.le_refl _, Nat.le_refl _⟩ dL_law_560 ?_
  show Y _ _ _ _ _ _ _ _ _ _ _ _ _ _ _ _ _ _ q1.2 563 [(0, .ref b), (1, .ref (ad 0)), (2, .ref (ad 43)), (3, .int x3)] [.int q1.1]
  refine y_aload_n (pc := 563) (q := 2) C dL_law_563 rfl rfl ?_
  refine y_callV (pc := 564) (a := 43) (As := []) (rest := [.int q1.1]) C (mX10_worst (fu := fu) e2) vwL_83 rfl (by decide) rfl rfl rfl (Nat.le_of_ble_eq_true rfl) ⟨Nat.le_of_ble_eq_true rfl, Nat.le_of_ble_eq_true rfl⟩ ⟨Nat.le_refl _, Nat.le_refl _⟩ dL_law_564 ?_
  show Y _ _ _ _ _ _ _ _ _ _ _ _ _ _ _ _ _ _ q2.2 567 [(0, .ref b), (1, .ref (ad 0)), (2, .ref (ad 43)), (3, .int x3)] [.int q2.1, .int q1.1]
  refine y_icmp_eq (pc := 567) (tgt := 852) C dL_law_567 (by decide) (fun _ => ?_) (fun hc => absurd he hc)
  exact kk _ hI
set_option maxHeartbeats 4000000 in
theorem lc_best {D : va_G} {cA : ClassId} {ad : Nat → Nat} {p : Program} {l : Launch} {e : Env} {s : State} {m : MethodId} {below : List Frame} {meth : Method} {c : Code} {b L : Nat} {xs : Nat → Int32} (C : Cx D cA s.heap.size ad RL cL_law 4 ret p s m #[Value.ref b] meth c) (hX : va_X b L xs s s.heap) (hbl : b < s.heap.size) {fu : Nat} {Inv : St → Prop} (hs : Sm_best fu Inv) {x3 : Int32} (h1 : vp_in (x3 + (1 : Int32)) L) (h2 : vp_in (x3 + (2 : Int32)) L) (h3 : vp_in (x3 + (3 : Int32)) L) (kk : ∀ σ, Inv σ → Y D cA s.heap.size ad p l e room_1 s m #[Value.ref b] below meth c 4 56 4695 (lw_Z below #[Value.ref b] s) σ 852 [(0, .ref b), (1, .ref (ad 0)), (2, .ref (ad 43)), (3, .int x3)] []) {σ : St} (hI : Inv σ) : Y D cA s.heap.size ad p l e room_1 s m #[Value.ref b] below meth c 4 56 4695 (lw_Z below #[Value.ref b] s) σ 572 [(0, .ref b), (1, .ref (ad 0)), (2, .ref (ad 43)), (3, .int x3)] [] := by
  refine y_aload_n (pc := 572) (q := 1) C dL_law_572 rfl rfl ?_
  refine y_aload_n (pc := 573) (q := 0) C dL_law_573 rfl rfl ?_
  refine y_iload_n (pc := 574) (q := 3) C dL_law_574 rfl rfl ?_
  refine y_iconst (pc := 575) (v := (1 : Int32)) C dL_law_575 (by decide) ?_
  refine y_iadd (pc := 576) C dL_law_576 ?_
  refine y_sld (pc := 577) C hX hbl (by omega) h1 dL_law_577 ?_
  obtain ⟨q1, q2, e1, e2, he, hI⟩ := hs σ ((xs (x3 + (1 : Int32)).toNatClampNeg)) hI
  refine y_callV (pc := 578) (a := 0) (As := [.int (xs (x3 + (1 : Int32)).toNatClampNeg)]) (rest := []) C (mX9_best (fu := fu) e1) vwL_84 rfl (by decide) rfl rfl rfl (Nat.le_of_ble_eq_true rfl) ⟨Nat.le_of_ble_eq_true rfl, Nat.le_of_ble_eq_true rfl⟩ ⟨Nat.le_refl _, Nat.le_refl _⟩ dL_law_578 ?_
  show Y _ _ _ _ _ _ _ _ _ _ _ _ _ _ _ _ _ _ q1.2 581 [(0, .ref b), (1, .ref (ad 0)), (2, .ref (ad 43)), (3, .int x3)] [.int q1.1]
  refine y_aload_n (pc := 581) (q := 2) C dL_law_581 rfl rfl ?_
  refine y_aload_n (pc := 582) (q := 0) C dL_law_582 rfl rfl ?_
  refine y_iload_n (pc := 583) (q := 3) C dL_law_583 rfl rfl ?_
  refine y_iconst (pc := 584) (v := (1 : Int32)) C dL_law_584 (by decide) ?_
  refine y_iadd (pc := 585) C dL_law_585 ?_
  refine y_sld (pc := 586) C hX hbl (by omega) h1 dL_law_586 ?_
  refine y_callV (pc := 587) (a := 43) (As := [.int (xs (x3 + (1 : Int32)).toNatClampNeg)]) (rest := [.int q1.1]) C (mX10_best (fu := fu) e2) vwL_87 rfl (by decide) rfl rfl rfl (Nat.le_of_ble_eq_true rfl) ⟨Nat.le_of_ble_eq_true rfl, Nat.le_of_ble_eq_true rfl⟩ ⟨Nat.le_refl _, Nat.le_refl _⟩ dL_law_587 ?_
  show Y _ _ _ _ _ _ _ _ _ _ _ _ _ _ _ _ _ _ q2.2 590 [(0, .ref b), (1, .ref (ad 0)), (2, .ref (ad 43)), (3, .int x3)] [.int q2.1, .int q1.1]
  refine y_icmp_eq (pc := 590) (tgt := 852) C dL_law_590 (by decide) (fun _ => ?_) (fun hc => absurd he hc)
  exact kk _ hI
set_option maxHeartbeats 4000000 in
theorem lc_howMany {D : va_G} {cA : ClassId} {ad : Nat → Nat} {p : Program} {l : Launch} {e : Env} {s : State} {m : MethodId} {below : List Frame} {meth : Method} {c : Code} {b L : Nat} {xs : Nat → Int32} (C : Cx D cA s.heap.size ad RL cL_law 4 ret p s m #[Value.ref b] meth c) (hX : va_X b L xs s s.heap) (hbl : b < s.heap.size) {fu : Nat} {Inv : St → Prop} (hs : Sm_howMany fu Inv) {x3 : Int32} (h1 : vp_in (x3 + (1 : Int32)) L) (h2 : vp_in (x3 + (2 : Int32)) L) (h3 : vp_in (x3 + (3 : Int32)) L) (kk : ∀ σ, Inv σ → Y D cA s.heap.size ad p l e room_1 s m #[Value.ref b] below meth c 4 56 4695 (lw_Z below #[Value.ref b] s) σ 852 [(0, .ref b), (1, .ref (ad 0)), (2, .ref (ad 43)), (3, .int x3)] []) {σ : St} (hI : Inv σ) : Y D cA s.heap.size ad p l e room_1 s m #[Value.ref b] below meth c 4 56 4695 (lw_Z below #[Value.ref b] s) σ 595 [(0, .ref b), (1, .ref (ad 0)), (2, .ref (ad 43)), (3, .int x3)] [] := by
  refine y_aload_n (pc := 595) (q := 1) C dL_law_595 rfl rfl ?_
  obtain ⟨q1, q2, e1, e2, he, hI⟩ := hs σ  hI
  refine y_callV (pc := 596) (a := 0) (As := []) (rest := []) C (mX9_howMany (fu := fu) e1) vwL_88 rfl (by decide) rfl rfl rfl (Nat.le_of_ble_eq_true rfl) ⟨Nat.le_of_ble_eq_true rfl, Nat.le_of_ble_eq_true rfl⟩ ⟨Nat.le_refl _, Nat.le_refl _⟩ dL_law_596 ?_
  show Y _ _ _ _ _ _ _ _ _ _ _ _ _ _ _ _ _ _ q1.2 599 [(0, .ref b), (1, .ref (ad 0)), (2, .ref (ad 43)), (3, .int x3)] [.int q1.1]
  refine y_aload_n (pc := 599) (q := 2) C dL_law_599 rfl rfl ?_
  refine y_callV (pc := 600) (a := 43) (As := []) (rest := [.int q1.1]) C (mX10_howMany (fu := fu) e2) vwL_91 rfl (by decide) rfl rfl rfl (Nat.le_of_ble_eq_true rfl) ⟨Nat.le_of_ble_eq_true rfl, Nat.le_of_ble_eq_true rfl⟩ ⟨Nat.le_refl _, Nat.le_refl _⟩ dL_law_600 ?_
  show Y _ _ _ _ _ _ _ _ _ _ _ _ _ _ _ _ _ _ q2.2 603 [(0, .ref b), (1, .ref (ad 0)), (2, .ref (ad 43)), (3, .int x3)] [.int q2.1, .int q1.1]
  refine y_icmp_eq (pc := 603) (tgt := 852) C dL_law_603 (by decide) (fun _ => ?_) (fun hc => absurd he hc)
  exact kk _ hI
set_option maxHeartbeats 4000000 in
theorem lc_carried {D : va_G} {cA : ClassId} {ad : Nat → Nat} {p : Program} {l : Launch} {e : Env} {s : State} {m : MethodId} {below : List Frame} {meth : Method} {c : Code} {b L : Nat} {xs : Nat → Int32} (C : Cx D cA s.heap.size ad RL cL_law 4 ret p s m #[Value.ref b] meth c) (hX : va_X b L xs s s.heap) (hbl : b < s.heap.size) {fu : Nat} {Inv : St → Prop} (hs : Sm_carried fu Inv) {x3 : Int32} (h1 : vp_in (x3 + (1 : Int32)) L) (h2 : vp_in (x3 + (2 : Int32)) L) (h3 : vp_in (x3 + (3 : Int32)) L) (kk : ∀ σ, Inv σ → Y D cA s.heap.size ad p l e room_1 s m #[Value.ref b] below meth c 4 56 4695 (lw_Z below #[Value.ref b] s) σ 852 [(0, .ref b), (1, .ref (ad 0)), (2, .ref (ad 43)), (3, .int x3)] []) {σ : St} (hI : Inv σ) : Y D cA s.heap.size ad p l e room_1 s m #[Value.ref b] below meth c 4 56 4695 (lw_Z below #[Value.ref b] s) σ 608 [(0, .ref b), (1, .ref (ad 0)), (2, .ref (ad 43)), (3, .int x3)] [] := by
  refine y_aload_n (pc := 608) (q := 1) C dL_law_608 rfl rfl ?_
  refine y_aload_n (pc := 609) (q := 0) C dL_law_609 rfl rfl ?_
  refine y_iload_n (pc := 610) (q := 3) C dL_law_610 rfl rfl ?_
  refine y_iconst (pc := 611) (v := (1 : Int32)) C dL_law_611 (by decide) ?_
  refine y_iadd (pc := 612) C dL_law_612 ?_
  refine y_sld (pc := 613) C hX hbl (by omega) h1 dL_law_613 ?_
  refine y_aload_n (pc := 614) (q := 0) C dL_law_614 rfl rfl ?_
  refine y_iload_n (pc := 615) (q := 3) C dL_law_615 rfl rfl ?_
  refine y_iconst (pc := 616) (v := (2 : Int32)) C dL_law_616 (by decide) ?_
  refine y_iadd (pc := 617) C dL_law_617 ?_
  refine y_sld (pc := 618) C hX hbl (by omega) h2 dL_law_618 ?_
  obtain ⟨q1, q2, e1, e2, he, hI⟩ := hs σ ((xs (x3 + (1 : Int32)).toNatClampNeg)) ((xs (x3 + (2 : Int32)).toNatClampNeg)) hI
  refine y_callV (pc := 619) (a := 0) (As := [.int (xs (x3 + (1 : Int32)).toNatClampNeg), .int (xs (x3 + (2 : Int32)).toNatClampNeg)]) (rest := []) C (mX9_carried (fu := fu) e1) vwL_92 rfl (by decide) rfl rfl rfl (Nat.le_of_ble_eq_true rfl) ⟨Nat.le_of_ble_eq_true rfl, Nat.le_of_ble_eq_true rfl⟩ ⟨Nat.le_refl _, Nat.le_refl _⟩ dL_law_619 ?_
  show Y _ _ _ _ _ _ _ _ _ _ _ _ _ _ _ _ _ _ q1.2 622 [(0, .ref b), (1, .ref (ad 0)), (2, .ref (ad 43)), (3, .int x3)] [.int q1.1]
  refine y_aload_n (pc := 622) (q := 2) C dL_law_622 rfl rfl ?_
  refine y_aload_n (pc := 623) (q := 0) C dL_law_623 rfl rfl ?_
  refine y_iload_n (pc := 624) (q := 3) C dL_law_624 rfl rfl ?_
  refine y_iconst (pc := 625) (v := (1 : Int32)) C dL_law_625 (by decide) ?_
  refine y_iadd (pc := 626) C dL_law_626 ?_
  refine y_sld (pc := 627) C hX hbl (by omega) h1 dL_law_627 ?_
  refine y_aload_n (pc := 628) (q := 0) C dL_law_628 rfl rfl ?_
  refine y_iload_n (pc := 629) (q := 3) C dL_law_629 rfl rfl ?_
  refine y_iconst (pc := 630) (v := (2 : Int32)) C dL_law_630 (by decide) ?_
  refine y_iadd (pc := 631) C dL_law_631 ?_
  refine y_sld (pc := 632) C hX hbl (by omega) h2 dL_law_632 ?_
  refine y_callV (pc := 633) (a := 43) (As := [.int (xs (x3 + (1 : Int32)).toNatClampNeg), .int (xs (x3 + (2 : Int32)).toNatClampNeg)]) (rest := [.int q1.1]) C (mX10_carried (fu := fu) e2) vwL_95 rfl (by decide) rfl rfl rfl (Nat.le_of_ble_eq_true rfl) ⟨Nat.le_of_ble_eq_true rfl, Nat.le_of_ble_eq_true rfl⟩ ⟨Nat.le_refl _, Nat.le_refl _⟩ dL_law_633 ?_
  show Y _ _ _ _ _ _ _ _ _ _ _ _ _ _ _ _ _ _ q2.2 636 [(0, .ref b), (1, .ref (ad 0)), (2, .ref (ad 43)), (3, .int x3)] [.int q2.1, .int q1.1]
  refine y_icmp_eq (pc := 636) (tgt := 852) C dL_law_636 (by decide) (fun _ => ?_) (fun hc => absurd he hc)
  exact kk _ hI
set_option maxHeartbeats 4000000 in
theorem lc_flood {D : va_G} {cA : ClassId} {ad : Nat → Nat} {p : Program} {l : Launch} {e : Env} {s : State} {m : MethodId} {below : List Frame} {meth : Method} {c : Code} {b L : Nat} {xs : Nat → Int32} (C : Cx D cA s.heap.size ad RL cL_law 4 ret p s m #[Value.ref b] meth c) (hX : va_X b L xs s s.heap) (hbl : b < s.heap.size) {fu : Nat} {Inv : St → Prop} (hs : Sm_flood fu Inv) {x3 : Int32} (h1 : vp_in (x3 + (1 : Int32)) L) (h2 : vp_in (x3 + (2 : Int32)) L) (h3 : vp_in (x3 + (3 : Int32)) L) (kk : ∀ σ, Inv σ → Y D cA s.heap.size ad p l e room_1 s m #[Value.ref b] below meth c 4 56 4695 (lw_Z below #[Value.ref b] s) σ 852 [(0, .ref b), (1, .ref (ad 0)), (2, .ref (ad 43)), (3, .int x3)] []) {σ : St} (hI : Inv σ) : Y D cA s.heap.size ad p l e room_1 s m #[Value.ref b] below meth c 4 56 4695 (lw_Z below #[Value.ref b] s) σ 641 [(0, .ref b), (1, .ref (ad 0)), (2, .ref (ad 43)), (3, .int x3)] [] := by
  refine y_aload_n (pc := 641) (q := 1) C dL_law_641 rfl rfl ?_
  refine y_aload_n (pc := 642) (q := 0) C dL_law_642 rfl rfl ?_
  refine y_iload_n (pc := 643) (q := 3) C dL_law_643 rfl rfl ?_
  refine y_iconst (pc := 644) (v := (1 : Int32)) C dL_law_644 (by decide) ?_
  refine y_iadd (pc := 645) C dL_law_645 ?_
  refine y_sld (pc := 646) C hX hbl (by omega) h1 dL_law_646 ?_
  obtain ⟨q1, q2, e1, e2, he, hI⟩ := hs σ ((xs (x3 + (1 : Int32)).toNatClampNeg)) hI
  refine y_callV (pc := 647) (a := 0) (As := [.int (xs (x3 + (1 : Int32)).toNatClampNeg)]) (rest := []) C (mX9_flood (fu := fu) e1) vwL_96 rfl (by decide) rfl rfl rfl (Nat.le_of_ble_eq_true rfl) ⟨Nat.le_of_ble_eq_true rfl, Nat.le_of_ble_eq_true rfl⟩ ⟨Nat.le_refl _, Nat.le_refl _⟩ dL_law_647 ?_
  show Y _ _ _ _ _ _ _ _ _ _ _ _ _ _ _ _ _ _ q1.2 650 [(0, .ref b), (1, .ref (ad 0)), (2, .ref (ad 43)), (3, .int x3)] [.int q1.1]
  refine y_aload_n (pc := 650) (q := 2) C dL_law_650 rfl rfl ?_
  refine y_aload_n (pc := 651) (q := 0) C dL_law_651 rfl rfl ?_
  refine y_iload_n (pc := 652) (q := 3) C dL_law_652 rfl rfl ?_
  refine y_iconst (pc := 653) (v := (1 : Int32)) C dL_law_653 (by decide) ?_
  refine y_iadd (pc := 654) C dL_law_654 ?_
  refine y_sld (pc := 655) C hX hbl (by omega) h1 dL_law_655 ?_
  refine y_callV (pc := 656) (a := 43) (As := [.int (xs (x3 + (1 : Int32)).toNatClampNeg)]) (rest := [.int q1.1]) C (mX10_flood (fu := fu) e2) vwL_99 rfl (by decide) rfl rfl rfl (Nat.le_of_ble_eq_true rfl) ⟨Nat.le_of_ble_eq_true rfl, Nat.le_of_ble_eq_true rfl⟩ ⟨Nat.le_refl _, Nat.le_refl _⟩ dL_law_656 ?_
  show Y _ _ _ _ _ _ _ _ _ _ _ _ _ _ _ _ _ _ q2.2 659 [(0, .ref b), (1, .ref (ad 0)), (2, .ref (ad 43)), (3, .int x3)] [.int q2.1, .int q1.1]
  refine y_icmp_eq (pc := 659) (tgt := 852) C dL_law_659 (by decide) (fun _ => ?_) (fun hc => absurd he hc)
  exact kk _ hI
set_option maxHeartbeats 4000000 in
theorem lc_looks {D : va_G} {cA : ClassId} {ad : Nat → Nat} {p : Program} {l : Launch} {e : Env} {s : State} {m : MethodId} {below : List Frame} {meth : Method} {c : Code} {b L : Nat} {xs : Nat → Int32} (C : Cx D cA s.heap.size ad RL cL_law 4 ret p s m #[Value.ref b] meth c) (hX : va_X b L xs s s.heap) (hbl : b < s.heap.size) {fu : Nat} {Inv : St → Prop} (hs : Sm_looks fu Inv) {x3 : Int32} (h1 : vp_in (x3 + (1 : Int32)) L) (h2 : vp_in (x3 + (2 : Int32)) L) (h3 : vp_in (x3 + (3 : Int32)) L) (kk : ∀ σ, Inv σ → Y D cA s.heap.size ad p l e room_1 s m #[Value.ref b] below meth c 4 56 4695 (lw_Z below #[Value.ref b] s) σ 852 [(0, .ref b), (1, .ref (ad 0)), (2, .ref (ad 43)), (3, .int x3)] []) {σ : St} (hI : Inv σ) : Y D cA s.heap.size ad p l e room_1 s m #[Value.ref b] below meth c 4 56 4695 (lw_Z below #[Value.ref b] s) σ 664 [(0, .ref b), (1, .ref (ad 0)), (2, .ref (ad 43)), (3, .int x3)] [] := by
  refine y_aload_n (pc := 664) (q := 1) C dL_law_664 rfl rfl ?_
  obtain ⟨q1, q2, e1, e2, he, hI⟩ := hs σ  hI
  refine y_callV (pc := 665) (a := 0) (As := []) (rest := []) C (mX9_looks (fu := fu) e1) vwL_100 rfl (by decide) rfl rfl rfl (Nat.le_of_ble_eq_true rfl) ⟨Nat.le_of_ble_eq_true rfl, Nat.le_of_ble_eq_true rfl⟩ ⟨Nat.le_refl _, Nat.le_refl _⟩ dL_law_665 ?_
  show Y _ _ _ _ _ _ _ _ _ _ _ _ _ _ _ _ _ _ q1.2 668 [(0, .ref b), (1, .ref (ad 0)), (2, .ref (ad 43)), (3, .int x3)] [.int q1.1]
  refine y_aload_n (pc := 668) (q := 2) C dL_law_668 rfl rfl ?_
  refine y_callV (pc := 669) (a := 43) (As := []) (rest := [.int q1.1]) C (mX10_looks (fu := fu) e2) vwL_103 rfl (by decide) rfl rfl rfl (Nat.le_of_ble_eq_true rfl) ⟨Nat.le_of_ble_eq_true rfl, Nat.le_of_ble_eq_true rfl⟩ ⟨Nat.le_refl _, Nat.le_refl _⟩ dL_law_669 ?_
  show Y _ _ _ _ _ _ _ _ _ _ _ _ _ _ _ _ _ _ q2.2 672 [(0, .ref b), (1, .ref (ad 0)), (2, .ref (ad 43)), (3, .int x3)] [.int q2.1, .int q1.1]
  refine y_icmp_eq (pc := 672) (tgt := 852) C dL_law_672 (by decide) (fun _ => ?_) (fun hc => absurd he hc)
  exact kk _ hI
set_option maxHeartbeats 4000000 in
theorem lc_was {D : va_G} {cA : ClassId} {ad : Nat → Nat} {p : Program} {l : Launch} {e : Env} {s : State} {m : MethodId} {below : List Frame} {meth : Method} {c : Code} {b L : Nat} {xs : Nat → Int32} (C : Cx D cA s.heap.size ad RL cL_law 4 ret p s m #[Value.ref b] meth c) (hX : va_X b L xs s s.heap) (hbl : b < s.heap.size) {fu : Nat} {Inv : St → Prop} (hs : Sm_was fu Inv) {x3 : Int32} (h1 : vp_in (x3 + (1 : Int32)) L) (h2 : vp_in (x3 + (2 : Int32)) L) (h3 : vp_in (x3 + (3 : Int32)) L) (kk : ∀ σ, Inv σ → Y D cA s.heap.size ad p l e room_1 s m #[Value.ref b] below meth c 4 56 4695 (lw_Z below #[Value.ref b] s) σ 852 [(0, .ref b), (1, .ref (ad 0)), (2, .ref (ad 43)), (3, .int x3)] []) {σ : St} (hI : Inv σ) : Y D cA s.heap.size ad p l e room_1 s m #[Value.ref b] below meth c 4 56 4695 (lw_Z below #[Value.ref b] s) σ 677 [(0, .ref b), (1, .ref (ad 0)), (2, .ref (ad 43)), (3, .int x3)] [] := by
  refine y_aload_n (pc := 677) (q := 1) C dL_law_677 rfl rfl ?_
  refine y_aload_n (pc := 678) (q := 0) C dL_law_678 rfl rfl ?_
  refine y_iload_n (pc := 679) (q := 3) C dL_law_679 rfl rfl ?_
  refine y_iconst (pc := 680) (v := (1 : Int32)) C dL_law_680 (by decide) ?_
  refine y_iadd (pc := 681) C dL_law_681 ?_
  refine y_sld (pc := 682) C hX hbl (by omega) h1 dL_law_682 ?_
  refine y_aload_n (pc := 683) (q := 0) C dL_law_683 rfl rfl ?_
  refine y_iload_n (pc := 684) (q := 3) C dL_law_684 rfl rfl ?_
  refine y_iconst (pc := 685) (v := (2 : Int32)) C dL_law_685 (by decide) ?_
  refine y_iadd (pc := 686) C dL_law_686 ?_
  refine y_sld (pc := 687) C hX hbl (by omega) h2 dL_law_687 ?_
  obtain ⟨q1, q2, e1, e2, he, hI⟩ := hs σ ((xs (x3 + (1 : Int32)).toNatClampNeg)) ((xs (x3 + (2 : Int32)).toNatClampNeg)) hI
  refine y_callV (pc := 688) (a := 0) (As := [.int (xs (x3 + (1 : Int32)).toNatClampNeg), .int (xs (x3 + (2 : Int32)).toNatClampNeg)]) (rest := []) C (mX9_was (fu := fu) e1) vwL_104 rfl (by decide) rfl rfl rfl (Nat.le_of_ble_eq_true rfl) ⟨Nat.le_of_ble_eq_true rfl, Nat.le_of_ble_eq_true rfl⟩ ⟨Nat.le_refl _, Nat.le_refl _⟩ dL_law_688 ?_
  show Y _ _ _ _ _ _ _ _ _ _ _ _ _ _ _ _ _ _ q1.2 691 [(0, .ref b), (1, .ref (ad 0)), (2, .ref (ad 43)), (3, .int x3)] [.int q1.1]
  refine y_aload_n (pc := 691) (q := 2) C dL_law_691 rfl rfl ?_
  refine y_aload_n (pc := 692) (q := 0) C dL_law_692 rfl rfl ?_
  refine y_iload_n (pc := 693) (q := 3) C dL_law_693 rfl rfl ?_
  refine y_iconst (pc := 694) (v := (1 : Int32)) C dL_law_694 (by decide) ?_
  refine y_iadd (pc := 695) C dL_law_695 ?_
  refine y_sld (pc := 696) C hX hbl (by omega) h1 dL_law_696 ?_
  refine y_aload_n (pc := 697) (q := 0) C dL_law_697 rfl rfl ?_
  refine y_iload_n (pc := 698) (q := 3) C dL_law_698 rfl rfl ?_
  refine y_iconst (pc := 699) (v := (2 : Int32)) C dL_law_699 (by decide) ?_
  refine y_iadd (pc := 700) C dL_law_700 ?_
  refine y_sld (pc := 701) C hX hbl (by omega) h2 dL_law_701 ?_
  refine y_callV (pc := 702) (a := 43) (As := [.int (xs (x3 + (1 : Int32)).toNatClampNeg), .int (xs (x3 + (2 : Int32)).toNatClampNeg)]) (rest := [.int q1.1]) C (mX10_was (fu := fu) e2) vwL_107 rfl (by decide) rfl rfl rfl (Nat.le_of_ble_eq_true rfl) ⟨Nat.le_of_ble_eq_true rfl, Nat.le_of_ble_eq_true rfl⟩ ⟨Nat.le_refl _, Nat.le_refl _⟩ dL_law_702 ?_
  show Y _ _ _ _ _ _ _ _ _ _ _ _ _ _ _ _ _ _ q2.2 705 [(0, .ref b), (1, .ref (ad 0)), (2, .ref (ad 43)), (3, .int x3)] [.int q2.1, .int q1.1]
  refine y_icmp_eq (pc := 705) (tgt := 852) C dL_law_705 (by decide) (fun _ => ?_) (fun hc => absurd he hc)
  exact kk _ hI
set_option maxHeartbeats 4000000 in
theorem lc_last {D : va_G} {cA : ClassId} {ad : Nat → Nat} {p : Program} {l : Launch} {e : Env} {s : State} {m : MethodId} {below : List Frame} {meth : Method} {c : Code} {b L : Nat} {xs : Nat → Int32} (C : Cx D cA s.heap.size ad RL cL_law 4 ret p s m #[Value.ref b] meth c) (hX : va_X b L xs s s.heap) (hbl : b < s.heap.size) {fu : Nat} {Inv : St → Prop} (hs : Sm_last fu Inv) {x3 : Int32} (h1 : vp_in (x3 + (1 : Int32)) L) (h2 : vp_in (x3 + (2 : Int32)) L) (h3 : vp_in (x3 + (3 : Int32)) L) (kk : ∀ σ, Inv σ → Y D cA s.heap.size ad p l e room_1 s m #[Value.ref b] below meth c 4 56 4695 (lw_Z below #[Value.ref b] s) σ 852 [(0, .ref b), (1, .ref (ad 0)), (2, .ref (ad 43)), (3, .int x3)] []) {σ : St} (hI : Inv σ) : Y D cA s.heap.size ad p l e room_1 s m #[Value.ref b] below meth c 4 56 4695 (lw_Z below #[Value.ref b] s) σ 710 [(0, .ref b), (1, .ref (ad 0)), (2, .ref (ad 43)), (3, .int x3)] [] := by
  refine y_aload_n (pc := 710) (q := 1) C dL_law_710 rfl rfl ?_
  refine y_aload_n (pc := 711) (q := 0) C dL_law_711 rfl rfl ?_
  refine y_iload_n (pc := 712) (q := 3) C dL_law_712 rfl rfl ?_
  refine y_iconst (pc := 713) (v := (1 : Int32)) C dL_law_713 (by decide) ?_
  refine y_iadd (pc := 714) C dL_law_714 ?_
  refine y_sld (pc := 715) C hX hbl (by omega) h1 dL_law_715 ?_
  obtain ⟨q1, q2, e1, e2, he, hI⟩ := hs σ ((xs (x3 + (1 : Int32)).toNatClampNeg)) hI
  refine y_callV (pc := 716) (a := 0) (As := [.int (xs (x3 + (1 : Int32)).toNatClampNeg)]) (rest := []) C (mX9_last (fu := fu) e1) vwL_108 rfl (by decide) rfl rfl rfl (Nat.le_of_ble_eq_true rfl) ⟨Nat.le_of_ble_eq_true rfl, Nat.le_of_ble_eq_true rfl⟩ ⟨Nat.le_refl _, Nat.le_refl _⟩ dL_law_716 ?_
  show Y _ _ _ _ _ _ _ _ _ _ _ _ _ _ _ _ _ _ q1.2 719 [(0, .ref b), (1, .ref (ad 0)), (2, .ref (ad 43)), (3, .int x3)] [.int q1.1]
  refine y_aload_n (pc := 719) (q := 2) C dL_law_719 rfl rfl ?_
  refine y_aload_n (pc := 720) (q := 0) C dL_law_720 rfl rfl ?_
  refine y_iload_n (pc := 721) (q := 3) C dL_law_721 rfl rfl ?_
  refine y_iconst (pc := 722) (v := (1 : Int32)) C dL_law_722 (by decide) ?_
  refine y_iadd (pc := 723) C dL_law_723 ?_
  refine y_sld (pc := 724) C hX hbl (by omega) h1 dL_law_724 ?_
  refine y_callV (pc := 725) (a := 43) (As := [.int (xs (x3 + (1 : Int32)).toNatClampNeg)]) (rest := [.int q1.1]) C (mX10_last (fu := fu) e2) vwL_111 rfl (by decide) rfl rfl rfl (Nat.le_of_ble_eq_true rfl) ⟨Nat.le_of_ble_eq_true rfl, Nat.le_of_ble_eq_true rfl⟩ ⟨Nat.le_refl _, Nat.le_refl _⟩ dL_law_725 ?_
  show Y _ _ _ _ _ _ _ _ _ _ _ _ _ _ _ _ _ _ q2.2 728 [(0, .ref b), (1, .ref (ad 0)), (2, .ref (ad 43)), (3, .int x3)] [.int q2.1, .int q1.1]
  refine y_icmp_eq (pc := 728) (tgt := 852) C dL_law_728 (by decide) (fun _ => ?_) (fun hc => absurd he hc)
  exact kk _ hI
set_option maxHeartbeats 4000000 in
theorem lc_sure {D : va_G} {cA : ClassId} {ad : Nat → Nat} {p : Program} {l : Launch} {e : Env} {s : State} {m : MethodId} {below : List Frame} {meth : Method} {c : Code} {b L : Nat} {xs : Nat → Int32} (C : Cx D cA s.heap.size ad RL cL_law 4 ret p s m #[Value.ref b] meth c) (hX : va_X b L xs s s.heap) (hbl : b < s.heap.size) {fu : Nat} {Inv : St → Prop} (hs : Sm_sure fu Inv) {x3 : Int32} (h1 : vp_in (x3 + (1 : Int32)) L) (h2 : vp_in (x3 + (2 : Int32)) L) (h3 : vp_in (x3 + (3 : Int32)) L) (kk : ∀ σ, Inv σ → Y D cA s.heap.size ad p l e room_1 s m #[Value.ref b] below meth c 4 56 4695 (lw_Z below #[Value.ref b] s) σ 852 [(0, .ref b), (1, .ref (ad 0)), (2, .ref (ad 43)), (3, .int x3)] []) {σ : St} (hI : Inv σ) : Y D cA s.heap.size ad p l e room_1 s m #[Value.ref b] below meth c 4 56 4695 (lw_Z below #[Value.ref b] s) σ 733 [(0, .ref b), (1, .ref (ad 0)), (2, .ref (ad 43)), (3, .int x3)] [] := by
  refine y_aload_n (pc := 733) (q := 1) C dL_law_733 rfl rfl ?_
  refine y_aload_n (pc := 734) (q := 0) C dL_law_734 rfl rfl ?_
  refine y_iload_n (pc := 735) (q := 3) C dL_law_735 rfl rfl ?_
  refine y_iconst (pc := 736) (v := (1 : Int32)) C dL_law_736 (by decide) ?_
  refine y_iadd (pc := 737) C dL_law_737 ?_
  refine y_sld (pc := 738) C hX hbl (by omega) h1 dL_law_738 ?_
  obtain ⟨q1, q2, e1, e2, he, hI⟩ := hs σ ((xs (x3 + (1 : Int32)).toNatClampNeg)) hI
  refine y_callV (pc := 739) (a := 0) (As := [.int (xs (x3 + (1 : Int32)).toNatClampNeg)]) (rest := []) C (mX9_sure (fu := fu) e1) vwL_112 rfl (by decide) rfl rfl rfl (Nat.le_of_ble_eq_true rfl) ⟨Nat.le_of_ble_eq_true rfl, Nat.le_of_ble_eq_true rfl⟩ ⟨Nat.le_refl _, Nat.le_refl _⟩ dL_law_739 ?_
  show Y _ _ _ _ _ _ _ _ _ _ _ _ _ _ _ _ _ _ q1.2 742 [(0, .ref b), (1, .ref (ad 0)), (2, .ref (ad 43)), (3, .int x3)] [.int q1.1]
  refine y_aload_n (pc := 742) (q := 2) C dL_law_742 rfl rfl ?_
  refine y_aload_n (pc := 743) (q := 0) C dL_law_743 rfl rfl ?_
  refine y_iload_n (pc := 744) (q := 3) C dL_law_744 rfl rfl ?_
  refine y_iconst (pc := 745) (v := (1 : Int32)) C dL_law_745 (by decide) ?_
  refine y_iadd (pc := 746) C dL_law_746 ?_
  refine y_sld (pc := 747) C hX hbl (by omega) h1 dL_law_747 ?_
  refine y_callV (pc := 748) (a := 43) (As := [.int (xs (x3 + (1 : Int32)).toNatClampNeg)]) (rest := [.int q1.1]) C (mX10_sure (fu := fu) e2) vwL_115 rfl (by decide) rfl rfl rfl (Nat.le_of_ble_eq_true rfl) ⟨Nat.le_of_ble_eq_true rfl, Nat.le_of_ble_eq_true rfl⟩ ⟨Nat.le_refl _, Nat.le_refl _⟩ dL_law_748 ?_
  show Y _ _ _ _ _ _ _ _ _ _ _ _ _ _ _ _ _ _ q2.2 751 [(0, .ref b), (1, .ref (ad 0)), (2, .ref (ad 43)), (3, .int x3)] [.int q2.1, .int q1.1]
  refine y_icmp_eq (pc := 751) (tgt := 852) C dL_law_751 (by decide) (fun _ => ?_) (fun hc => absurd he hc)
  exact kk _ hI
set_option maxHeartbeats 4000000 in
theorem lc_springs {D : va_G} {cA : ClassId} {ad : Nat → Nat} {p : Program} {l : Launch} {e : Env} {s : State} {m : MethodId} {below : List Frame} {meth : Method} {c : Code} {b L : Nat} {xs : Nat → Int32} (C : Cx D cA s.heap.size ad RL cL_law 4 ret p s m #[Value.ref b] meth c) (hX : va_X b L xs s s.heap) (hbl : b < s.heap.size) {fu : Nat} {Inv : St → Prop} (hs : Sm_springs fu Inv) {x3 : Int32} (h1 : vp_in (x3 + (1 : Int32)) L) (h2 : vp_in (x3 + (2 : Int32)) L) (h3 : vp_in (x3 + (3 : Int32)) L) (kk : ∀ σ, Inv σ → Y D cA s.heap.size ad p l e room_1 s m #[Value.ref b] below meth c 4 56 4695 (lw_Z below #[Value.ref b] s) σ 852 [(0, .ref b), (1, .ref (ad 0)), (2, .ref (ad 43)), (3, .int x3)] []) {σ : St} (hI : Inv σ) : Y D cA s.heap.size ad p l e room_1 s m #[Value.ref b] below meth c 4 56 4695 (lw_Z below #[Value.ref b] s) σ 756 [(0, .ref b), (1, .ref (ad 0)), (2, .ref (ad 43)), (3, .int x3)] [] := by
  refine y_aload_n (pc := 756) (q := 1) C dL_law_756 rfl rfl ?_
  refine y_aload_n (pc := 757) (q := 0) C dL_law_757 rfl rfl ?_
  refine y_iload_n (pc := 758) (q := 3) C dL_law_758 rfl rfl ?_
  refine y_iconst (pc := 759) (v := (1 : Int32)) C dL_law_759 (by decide) ?_
  refine y_iadd (pc := 760) C dL_law_760 ?_
  refine y_sld (pc := 761) C hX hbl (by omega) h1 dL_law_761 ?_
  refine y_aload_n (pc := 762) (q := 0) C dL_law_762 rfl rfl ?_
  refine y_iload_n (pc := 763) (q := 3) C dL_law_763 rfl rfl ?_
  refine y_iconst (pc := 764) (v := (2 : Int32)) C dL_law_764 (by decide) ?_
  refine y_iadd (pc := 765) C dL_law_765 ?_
  refine y_sld (pc := 766) C hX hbl (by omega) h2 dL_law_766 ?_
  obtain ⟨q1, q2, e1, e2, he, hI⟩ := hs σ ((xs (x3 + (1 : Int32)).toNatClampNeg)) ((xs (x3 + (2 : Int32)).toNatClampNeg)) hI
  refine y_callV (pc := 767) (a := 0) (As := [.int (xs (x3 + (1 : Int32)).toNatClampNeg), .int (xs (x3 + (2 : Int32)).toNatClampNeg)]) (rest := []) C (mX9_springs (fu := fu) e1) vwL_116 rfl (by decide) rfl rfl rfl (Nat.le_of_ble_eq_true rfl) ⟨Nat.le_of_ble_eq_true rfl, Nat.le_of_ble_eq_true rfl⟩ ⟨Nat.le_refl _, Nat.le_refl _⟩ dL_law_767 ?_
  show Y _ _ _ _ _ _ _ _ _ _ _ _ _ _ _ _ _ _ q1.2 770 [(0, .ref b), (1, .ref (ad 0)), (2, .ref (ad 43)), (3, .int x3)] [.int q1.1]
  refine y_aload_n (pc := 770) (q := 2) C dL_law_770 rfl rfl ?_
  refine y_aload_n (pc := 771) (q := 0) C dL_law_771 rfl rfl ?_
  refine y_iload_n (pc := 772) (q := 3) C dL_law_772 rfl rfl ?_
  refine y_iconst (pc := 773) (v := (1 : Int32)) C dL_law_773 (by decide) ?_
  refine y_iadd (pc := 774) C dL_law_774 ?_
  refine y_sld (pc := 775) C hX hbl (by omega) h1 dL_law_775 ?_
  refine y_aload_n (pc := 776) (q := 0) C dL_law_776 rfl rfl ?_
  refine y_iload_n (pc := 777) (q := 3) C dL_law_777 rfl rfl ?_
  refine y_iconst (pc := 778) (v := (2 : Int32)) C dL_law_778 (by decide) ?_
  refine y_iadd (pc := 779) C dL_law_779 ?_
  refine y_sld (pc := 780) C hX hbl (by omega) h2 dL_law_780 ?_
  refine y_callV (pc := 781) (a := 43) (As := [.int (xs (x3 + (1 : Int32)).toNatClampNeg), .int (xs (x3 + (2 : Int32)).toNatClampNeg)]) (rest := [.int q1.1]) C (mX10_springs (fu := fu) e2) vwL_119 rfl (by decide) rfl rfl rfl (Nat.le_of_ble_eq_true rfl) ⟨Nat.le_of_ble_eq_true rfl, Nat.le_of_ble_eq_true rfl⟩ ⟨Nat.le_refl _, Nat.le_refl _⟩ dL_law_781 ?_
  show Y _ _ _ _ _ _ _ _ _ _ _ _ _ _ _ _ _ _ q2.2 784 [(0, .ref b), (1, .ref (ad 0)), (2, .ref (ad 43)), (3, .int x3)] [.int q2.1, .int q1.1]
  refine y_icmp_eq (pc := 784) (tgt := 852) C dL_law_784 (by decide) (fun _ => ?_) (fun hc => absurd he hc)
  exact kk _ hI
set_option maxHeartbeats 4000000 in
theorem lc_image {D : va_G} {cA : ClassId} {ad : Nat → Nat} {p : Program} {l : Launch} {e : Env} {s : State} {m : MethodId} {below : List Frame} {meth : Method} {c : Code} {b L : Nat} {xs : Nat → Int32} (C : Cx D cA s.heap.size ad RL cL_law 4 ret p s m #[Value.ref b] meth c) (hX : va_X b L xs s s.heap) (hbl : b < s.heap.size) {fu : Nat} {Inv : St → Prop} (hs : Sm_image fu Inv) {x3 : Int32} (h1 : vp_in (x3 + (1 : Int32)) L) (h2 : vp_in (x3 + (2 : Int32)) L) (h3 : vp_in (x3 + (3 : Int32)) L) (kk : ∀ σ, Inv σ → Y D cA s.heap.size ad p l e room_1 s m #[Value.ref b] below meth c 4 56 4695 (lw_Z below #[Value.ref b] s) σ 852 [(0, .ref b), (1, .ref (ad 0)), (2, .ref (ad 43)), (3, .int x3)] []) {σ : St} (hI : Inv σ) : Y D cA s.heap.size ad p l e room_1 s m #[Value.ref b] below meth c 4 56 4695 (lw_Z below #[Value.ref b] s) σ 789 [(0, .ref b), (1, .ref (ad 0)), (2, .ref (ad 43)), (3, .int x3)] [] := by
  refine y_aload_n (pc := 789) (q := 1) C dL_law_789 rfl rfl ?_
  obtain ⟨q1, q2, e1, e2, he, hI⟩ := hs σ  hI
  refine y_callV (pc := 790) (a := 0) (As := []) (rest := []) C (mX9_image (fu := fu) e1) vwL_120 rfl (by decide) rfl rfl rfl (Nat.le_of_ble_eq_true rfl) ⟨Nat.le_of_ble_eq_true rfl, Nat.le_of_ble_eq_true rfl⟩ ⟨Nat.le_refl _, Nat.le_refl _⟩ dL_law_790 ?_
  show Y _ _ _ _ _ _ _ _ _ _ _ _ _ _ _ _ _ _ q1.2 793 [(0, .ref b), (1, .ref (ad 0)), (2, .ref (ad 43)), (3, .int x3)] [.int q1.1]
  refine y_aload_n (pc := 793) (q := 2) C dL_law_793 rfl rfl ?_
  refine y_callV (pc := 794) (a := 43) (As := []) (rest := [.int q1.1]) C (mX10_image (fu := fu) e2) vwL_123 rfl (by decide) rfl rfl rfl (Nat.le_of_ble_eq_true rfl) ⟨Nat.le_of_ble_eq_true rfl, Nat.le_of_ble_eq_true rfl⟩ ⟨Nat.le_refl _, Nat.le_refl _⟩ dL_law_794 ?_
  show Y _ _ _ _ _ _ _ _ _ _ _ _ _ _ _ _ _ _ q2.2 797 [(0, .ref b), (1, .ref (ad 0)), (2, .ref (ad 43)), (3, .int x3)] [.int q2.1, .int q1.1]
  refine y_icmp_eq (pc := 797) (tgt := 852) C dL_law_797 (by decide) (fun _ => ?_) (fun hc => absurd he hc)
  exact kk _ hI
set_option maxHeartbeats 4000000 in
theorem lc_restore {D : va_G} {cA : ClassId} {ad : Nat → Nat} {p : Program} {l : Launch} {e : Env} {s : State} {m : MethodId} {below : List Frame} {meth : Method} {c : Code} {b L : Nat} {xs : Nat → Int32} (C : Cx D cA s.heap.size ad RL cL_law 4 ret p s m #[Value.ref b] meth c) (hX : va_X b L xs s s.heap) (hbl : b < s.heap.size) {fu : Nat} {Inv : St → Prop} (hs : Sm_restore fu Inv) {x3 : Int32} (h1 : vp_in (x3 + (1 : Int32)) L) (h2 : vp_in (x3 + (2 : Int32)) L) (h3 : vp_in (x3 + (3 : Int32)) L) (kk : ∀ σ, Inv σ → Y D cA s.heap.size ad p l e room_1 s m #[Value.ref b] below meth c 4 56 4695 (lw_Z below #[Value.ref b] s) σ 852 [(0, .ref b), (1, .ref (ad 0)), (2, .ref (ad 43)), (3, .int x3)] []) {σ : St} (hI : Inv σ) : Y D cA s.heap.size ad p l e room_1 s m #[Value.ref b] below meth c 4 56 4695 (lw_Z below #[Value.ref b] s) σ 802 [(0, .ref b), (1, .ref (ad 0)), (2, .ref (ad 43)), (3, .int x3)] [] := by
  refine y_aload_n (pc := 802) (q := 1) C dL_law_802 rfl rfl ?_
  obtain ⟨q1, q2, e1, e2, he, hI⟩ := hs σ  hI
  refine y_callV (pc := 803) (a := 0) (As := []) (rest := []) C (mX9_restore (fu := fu) e1) vwL_124 rfl (by decide) rfl rfl rfl (Nat.le_of_ble_eq_true rfl) ⟨Nat.le_of_ble_eq_true rfl, Nat.le_of_ble_eq_true rfl⟩ ⟨Nat.le_refl _, Nat.le_refl _⟩ dL_law_803 ?_
  show Y _ _ _ _ _ _ _ _ _ _ _ _ _ _ _ _ _ _ q1.2 806 [(0, .ref b), (1, .ref (ad 0)), (2, .ref (ad 43)), (3, .int x3)] [.int q1.1]
  refine y_aload_n (pc := 806) (q := 2) C dL_law_806 rfl rfl ?_
  refine y_callV (pc := 807) (a := 43) (As := []) (rest := [.int q1.1]) C (mX10_restore (fu := fu) e2) vwL_127 rfl (by decide) rfl rfl rfl (Nat.le_of_ble_eq_true rfl) ⟨Nat.le_of_ble_eq_true rfl, Nat.le_of_ble_eq_true rfl⟩ ⟨Nat.le_refl _, Nat.le_refl _⟩ dL_law_807 ?_
  show Y _ _ _ _ _ _ _ _ _ _ _ _ _ _ _ _ _ _ q2.2 810 [(0, .ref b), (1, .ref (ad 0)), (2, .ref (ad 43)), (3, .int x3)] [.int q2.1, .int q1.1]
  refine y_icmp_eq (pc := 810) (tgt := 852) C dL_law_810 (by decide) (fun _ => ?_) (fun hc => absurd he hc)
  exact kk _ hI
set_option maxHeartbeats 4000000 in
theorem lc_count {D : va_G} {cA : ClassId} {ad : Nat → Nat} {p : Program} {l : Launch} {e : Env} {s : State} {m : MethodId} {below : List Frame} {meth : Method} {c : Code} {b L : Nat} {xs : Nat → Int32} (C : Cx D cA s.heap.size ad RL cL_law 4 ret p s m #[Value.ref b] meth c) (hX : va_X b L xs s s.heap) (hbl : b < s.heap.size) {fu : Nat} {Inv : St → Prop} (hs : Sm_count fu Inv) {x3 : Int32} (h1 : vp_in (x3 + (1 : Int32)) L) (h2 : vp_in (x3 + (2 : Int32)) L) (h3 : vp_in (x3 + (3 : Int32)) L) (kk : ∀ σ, Inv σ → Y D cA s.heap.size ad p l e room_1 s m #[Value.ref b] below meth c 4 56 4695 (lw_Z below #[Value.ref b] s) σ 852 [(0, .ref b), (1, .ref (ad 0)), (2, .ref (ad 43)), (3, .int x3)] []) {σ : St} (hI : Inv σ) : Y D cA s.heap.size ad p l e room_1 s m #[Value.ref b] below meth c 4 56 4695 (lw_Z below #[Value.ref b] s) σ 815 [(0, .ref b), (1, .ref (ad 0)), (2, .ref (ad 43)), (3, .int x3)] [] := by
  refine y_aload_n (pc := 815) (q := 1) C dL_law_815 rfl rfl ?_
  refine y_aload_n (pc := 816) (q := 0) C dL_law_816 rfl rfl ?_
  refine y_iload_n (pc := 817) (q := 3) C dL_law_817 rfl rfl ?_
  refine y_iconst (pc := 818) (v := (1 : Int32)) C dL_law_818 (by decide) ?_
  refine y_iadd (pc := 819) C dL_law_819 ?_
  refine y_sld (pc := 820) C hX hbl (by omega) h1 dL_law_820 ?_
  obtain ⟨q1, q2, e1, e2, he, hI⟩ := hs σ ((xs (x3 + (1 : Int32)).toNatClampNeg)) hI
  refine y_callV (pc := 821) (a := 0) (As := [.int (xs (x3 + (1 : Int32)).toNatClampNeg)]) (rest := []) C (mX9_count (fu := fu) e1) vwL_128 rfl (by decide) rfl rfl rfl (Nat.le_of_ble_eq_true rfl) ⟨Nat.le_of_ble_eq_true rfl, Nat.le_of_ble_eq_true rfl⟩ ⟨Nat.le_refl _, Nat.le_refl _⟩ dL_law_821 ?_
  show Y _ _ _ _ _ _ _ _ _ _ _ _ _ _ _ _ _ _ q1.2 824 [(0, .ref b), (1, .ref (ad 0)), (2, .ref (ad 43)), (3, .int x3)] [.int q1.1]
  refine y_aload_n (pc := 824) (q := 2) C dL_law_824 rfl rfl ?_
  refine y_aload_n (pc := 825) (q := 0) C dL_law_825 rfl rfl ?_
  refine y_iload_n (pc := 826) (q := 3) C dL_law_826 rfl rfl ?_
  refine y_iconst (pc := 827) (v := (1 : Int32)) C dL_law_827 (by decide) ?_
  refine y_iadd (pc := 828) C dL_law_828 ?_
  refine y_sld (pc := 829) C hX hbl (by omega) h1 dL_law_829 ?_
  refine y_callV (pc := 830) (a := 43) (As := [.int (xs (x3 + (1 : Int32)).toNatClampNeg)]) (rest := [.int q1.1]) C (mX10_count (fu := fu) e2) vwL_131 rfl (by decide) rfl rfl rfl (Nat.le_of_ble_eq_true rfl) ⟨Nat.le_of_ble_eq_true rfl, Nat.le_of_ble_eq_true rfl⟩ ⟨Nat.le_refl _, Nat.le_refl _⟩ dL_law_830 ?_
  show Y _ _ _ _ _ _ _ _ _ _ _ _ _ _ _ _ _ _ q2.2 833 [(0, .ref b), (1, .ref (ad 0)), (2, .ref (ad 43)), (3, .int x3)] [.int q2.1, .int q1.1]
  refine y_icmp_eq (pc := 833) (tgt := 852) C dL_law_833 (by decide) (fun _ => ?_) (fun hc => absurd he hc)
  exact kk _ hI
set_option maxHeartbeats 4000000 in
theorem lc_digest {D : va_G} {cA : ClassId} {ad : Nat → Nat} {p : Program} {l : Launch} {e : Env} {s : State} {m : MethodId} {below : List Frame} {meth : Method} {c : Code} {b L : Nat} {xs : Nat → Int32} (C : Cx D cA s.heap.size ad RL cL_law 4 ret p s m #[Value.ref b] meth c) (hX : va_X b L xs s s.heap) (hbl : b < s.heap.size) {fu : Nat} {Inv : St → Prop} (hs : Sm_digest fu Inv) {x3 : Int32} (h1 : vp_in (x3 + (1 : Int32)) L) (h2 : vp_in (x3 + (2 : Int32)) L) (h3 : vp_in (x3 + (3 : Int32)) L) (kk : ∀ σ, Inv σ → Y D cA s.heap.size ad p l e room_1 s m #[Value.ref b] below meth c 4 56 4695 (lw_Z below #[Value.ref b] s) σ 852 [(0, .ref b), (1, .ref (ad 0)), (2, .ref (ad 43)), (3, .int x3)] []) {σ : St} (hI : Inv σ) : Y D cA s.heap.size ad p l e room_1 s m #[Value.ref b] below meth c 4 56 4695 (lw_Z below #[Value.ref b] s) σ 838 [(0, .ref b), (1, .ref (ad 0)), (2, .ref (ad 43)), (3, .int x3)] [] := by
  refine y_aload_n (pc := 838) (q := 1) C dL_law_838 rfl rfl ?_
  obtain ⟨q1, q2, e1, e2, he, hI⟩ := hs σ  hI
  refine y_callV (pc := 839) (a := 0) (As := []) (rest := []) C (mX9_digest (fu := fu) e1) vwL_132 rfl (by decide) rfl rfl rfl (Nat.le_of_ble_eq_true rfl) ⟨Nat.le_of_ble_eq_true rfl, Nat.le_of_ble_eq_true rfl⟩ ⟨Nat.le_refl _, Nat.le_refl _⟩ dL_law_839 ?_
  show Y _ _ _ _ _ _ _ _ _ _ _ _ _ _ _ _ _ _ q1.2 842 [(0, .ref b), (1, .ref (ad 0)), (2, .ref (ad 43)), (3, .int x3)] [.long q1.1]
  refine y_aload_n (pc := 842) (q := 2) C dL_law_842 rfl rfl ?_
  refine y_callV (pc := 843) (a := 43) (As := []) (rest := [.long q1.1]) C (mX10_digest (fu := fu) e2) vwL_136 rfl (by decide) rfl rfl rfl (Nat.le_of_ble_eq_true rfl) ⟨Nat.le_of_ble_eq_true rfl, Nat.le_of_ble_eq_true rfl⟩ ⟨Nat.le_refl _, Nat.le_refl _⟩ dL_law_843 ?_
  show Y _ _ _ _ _ _ _ _ _ _ _ _ _ _ _ _ _ _ q2.2 846 [(0, .ref b), (1, .ref (ad 0)), (2, .ref (ad 43)), (3, .int x3)] [.long q2.1, .long q1.1]
  refine y_lcmp (pc := 846) C dL_law_846 ?_
  refine y_if_eq (pc := 847) (tgt := 852) C dL_law_847 (by decide) (fun _ => ?_) (fun hc => absurd (by rw [he]; exact lgc _) hc)
  exact kk _ hI
theorem x3_lt {L i : Nat} {x3 : Int32} (hL : L ≤ 2048) (hi : i ≤ 2052) (e3 : x3 = nI i) : (nI L - 4 < x3) ↔ L < i + 4 := by
  subst e3
  rw [Int32.lt_iff_toInt_lt, show (4 : Int32) = nI 4 from rfl, pk_sub_toInt (by omega) (by omega), nI_toInt (by omega)]
  omega
set_option maxHeartbeats 8000000 in
set_option maxRecDepth 100000 in
theorem law_loop {D : va_G} {cA : ClassId} {ad : Nat → Nat} {p : Program} {l : Launch} {e : Env} {s : State} {m : MethodId} {below : List Frame} {meth : Method} {c : Code} {b L : Nat} {xs : Nat → Int32} (hL : L ≤ 2048) (C0 : lw_At p s m meth c b L xs) (C : Cx D cA s.heap.size ad RL cL_law 4 ret p s m #[Value.ref b] meth c) (hX : va_X b L xs s s.heap) (hbl : b < s.heap.size) {fu : Nat} {Inv : St → Prop} (hs : SimAll fu Inv) : ∀ (n i : Nat) (x3 : Int32) (σ : St), i ≤ 2052 → x3 = nI i → L < i + 4 * n → Inv σ → Y D cA s.heap.size ad p l e room_1 s m #[Value.ref b] below meth c 4 56 4695 (lw_Z below #[Value.ref b] s) σ 18 [(0, .ref b), (1, .ref (ad 0)), (2, .ref (ad 43)), (3, .int x3)] [] := by
  have hA := C0.2.2.2.2.2.2.2
  intro n
  induction n with
  | zero =>
    intro i x3 σ hi e3 hn hI
    refine y_iload_n (pc := 18) (q := 3) C dL_law_18 rfl rfl ?_
    refine y_aload_n (pc := 19) (q := 0) C dL_law_19 rfl rfl ?_
    refine y_slen (pc := 20) C hX hbl (by omega) dL_law_20 ?_
    refine y_iconst (pc := 21) (v := (4 : Int32)) C dL_law_21 (by decide) ?_
    refine y_isub (pc := 22) C dL_law_22 ?_
    refine y_icmp_gt (pc := 23) (tgt := 858) C dL_law_23 (by decide) (fun _ => ?_) (fun hc => absurd ((x3_lt hL hi e3).mpr (by omega)) hc)
    refine y_iconst (pc := 858) (v := (1 : Int32)) C dL_law_858 (by decide) ?_
    exact fun H locs ls g1 g2 g3 => va_forget g2.2.2 (lw_ret C.1 C.2.1 C0.2.2.1 C0.2.2.2.2.2.2.2.2.1 dL_law_859)
  | succ n ih =>
    intro i x3 σ hi e3 hn hI
    refine y_iload_n (pc := 18) (q := 3) C dL_law_18 rfl rfl ?_
    refine y_aload_n (pc := 19) (q := 0) C dL_law_19 rfl rfl ?_
    refine y_slen (pc := 20) C hX hbl (by omega) dL_law_20 ?_
    refine y_iconst (pc := 21) (v := (4 : Int32)) C dL_law_21 (by decide) ?_
    refine y_isub (pc := 22) C dL_law_22 ?_
    refine y_icmp_gt (pc := 23) (tgt := 858) C dL_law_23 (by decide) (fun _ => ?_) (fun hc => ?_)
    · refine y_iconst (pc := 858) (v := (1 : Int32)) C dL_law_858 (by decide) ?_
      exact fun H locs ls g1 g2 g3 => va_forget g2.2.2 (lw_ret C.1 C.2.1 C0.2.2.1 C0.2.2.2.2.2.2.2.2.1 dL_law_859)
    have hlt : i + 4 ≤ L := by
      rcases Nat.lt_or_ge L (i + 4) with q | q
      · exact absurd ((x3_lt hL hi e3).mpr q) hc
      · exact q
    have h0 : vp_in x3 L := by rw [e3]; exact vp_in_nI (by omega) (by omega)
    have h1 : vp_in (x3 + (1 : Int32)) L := by rw [e3, show (1 : Int32) = nI 1 from rfl, nI_add]; exact vp_in_nI (by omega) (by omega)
    have h2 : vp_in (x3 + (2 : Int32)) L := by rw [e3, show (2 : Int32) = nI 2 from rfl, nI_add]; exact vp_in_nI (by omega) (by omega)
    have h3 : vp_in (x3 + (3 : Int32)) L := by rw [e3, show (3 : Int32) = nI 3 from rfl, nI_add]; exact vp_in_nI (by omega) (by omega)
    have kk : ∀ σ, Inv σ → Y D cA s.heap.size ad p l e room_1 s m #[Value.ref b] below meth c 4 56 4695 (lw_Z below #[Value.ref b] s) σ 852 [(0, .ref b), (1, .ref (ad 0)), (2, .ref (ad 43)), (3, .int x3)] [] := by
      intro σ hI
      refine y_iinc (pc := 852) (v := x3 + 4) (k := 3) (lv' := [(3, .int (x3 + 4)), (0, .ref b), (1, .ref (ad 0)), (2, .ref (ad 43))]) C dL_law_852 rfl rfl (by decide) rfl ?_
      refine y_goto (pc := 855) (tgt := 18) C dL_law_855 (by decide) ?_
      refine y_sub [1, 2, 3, 0] (lv' := [(0, .ref b), (1, .ref (ad 0)), (2, .ref (ad 43)), (3, .int (x3 + 4))]) rfl ?_
      exact ih (i + 4) (x3 + 4) σ (by omega) (by rw [e3, show (4 : Int32) = nI 4 from rfl, nI_add]) (by omega) hI
    obtain ⟨hs0, hs1, hs2, hs3, hs4, hs5, hs6, hs7, hs8, hs9, hs10, hs11, hs12, hs13, hs14, hs15, hs16, hs17, hs18, hs19, hs20, hs21, hs22, hs23, hs24, hs25, hs26, hs27, hs28⟩ := hs
    refine y_aload_n (pc := 26) (q := 0) C dL_law_26 rfl rfl ?_
    refine y_iload_n (pc := 27) (q := 3) C dL_law_27 rfl rfl ?_
    refine y_sld (pc := 28) C hX hbl (by omega) h0 dL_law_28 ?_
    refine y_bipush (pc := 29) (v := (31 : Int32)) C dL_law_29 (by decide) ?_
    refine y_iand (pc := 31) C dL_law_31 ?_
    generalize (xs x3.toNatClampNeg &&& (31 : Int32)) = z
    by_cases c0 : z = 0
    · exact y_tabI (pc := 32) (tgt := 164) (off := 132) C dL_law_32 (by rw [c0]; decide) (by rw [c0]; decide) (by rw [c0]; decide +kernel) (by decide) (lc_letters C hX hbl hs0 h1 h2 h3 kk hI)
    by_cases c1 : z = 1
    · exact y_tabI (pc := 32) (tgt := 217) (off := 185) C dL_law_32 (by rw [c1]; decide) (by rw [c1]; decide) (by rw [c1]; decide +kernel) (by decide) (lc_blank C hX hbl hs1 h1 h2 h3 kk hI)
    by_cases c2 : z = 2
    · exact y_tabI (pc := 32) (tgt := 230) (off := 198) C dL_law_32 (by rw [c2]; decide) (by rw [c2]; decide) (by rw [c2]; decide +kernel) (by decide) (lc_fault C hX hbl hs2 h1 h2 h3 kk hI)
    by_cases c3 : z = 3
    · exact y_tabI (pc := 32) (tgt := 243) (off := 211) C dL_law_32 (by rw [c3]; decide) (by rw [c3]; decide) (by rw [c3]; decide +kernel) (by decide) (lc_law C hX hbl hs3 h1 h2 h3 kk hI)
    by_cases c4 : z = 4
    · exact y_tabI (pc := 32) (tgt := 256) (off := 224) C dL_law_32 (by rw [c4]; decide) (by rw [c4]; decide) (by rw [c4]; decide +kernel) (by decide) (lc_lawTold C hX hbl hs4 h1 h2 h3 kk hI)
    by_cases c5 : z = 5
    · exact y_tabI (pc := 32) (tgt := 279) (off := 247) C dL_law_32 (by rw [c5]; decide) (by rw [c5]; decide) (by rw [c5]; decide +kernel) (by decide) (lc_block C hX hbl hs5 h1 h2 h3 kk hI)
    by_cases c6 : z = 6
    · exact y_tabI (pc := 32) (tgt := 322) (off := 290) C dL_law_32 (by rw [c6]; decide) (by rw [c6]; decide) (by rw [c6]; decide +kernel) (by decide) (lc_about C hX hbl hs6 h1 h2 h3 kk hI)
    by_cases c7 : z = 7
    · exact y_tabI (pc := 32) (tgt := 355) (off := 323) C dL_law_32 (by rw [c7]; decide) (by rw [c7]; decide) (by rw [c7]; decide +kernel) (by decide) (lc_as C hX hbl hs7 h1 h2 h3 kk hI)
    by_cases c8 : z = 8
    · exact y_tabI (pc := 32) (tgt := 388) (off := 356) C dL_law_32 (by rw [c8]; decide) (by rw [c8]; decide) (by rw [c8]; decide +kernel) (by decide) (lc_wheels C hX hbl hs8 h1 h2 h3 kk hI)
    by_cases c9 : z = 9
    · exact y_tabI (pc := 32) (tgt := 421) (off := 389) C dL_law_32 (by rw [c9]; decide) (by rw [c9]; decide) (by rw [c9]; decide +kernel) (by decide) (lc_at C hX hbl hs9 h1 h2 h3 kk hI)
    by_cases c10 : z = 10
    · exact y_tabI (pc := 32) (tgt := 444) (off := 412) C dL_law_32 (by rw [c10]; decide) (by rw [c10]; decide) (by rw [c10]; decide +kernel) (by decide) (lc_turn C hX hbl hs10 h1 h2 h3 kk hI)
    by_cases c11 : z = 11
    · exact y_tabI (pc := 32) (tgt := 467) (off := 435) C dL_law_32 (by rw [c11]; decide) (by rw [c11]; decide) (by rw [c11]; decide +kernel) (by decide) (lc_thief C hX hbl hs11 h1 h2 h3 kk hI)
    by_cases c12 : z = 12
    · exact y_tabI (pc := 32) (tgt := 490) (off := 458) C dL_law_32 (by rw [c12]; decide) (by rw [c12]; decide) (by rw [c12]; decide +kernel) (by decide) (lc_lay C hX hbl hs12 h1 h2 h3 kk hI)
    by_cases c13 : z = 13
    · exact y_tabI (pc := 32) (tgt := 513) (off := 481) C dL_law_32 (by rw [c13]; decide) (by rw [c13]; decide) (by rw [c13]; decide +kernel) (by decide) (lc_lawful C hX hbl hs13 h1 h2 h3 kk hI)
    by_cases c14 : z = 14
    · exact y_tabI (pc := 32) (tgt := 536) (off := 504) C dL_law_32 (by rw [c14]; decide) (by rw [c14]; decide) (by rw [c14]; decide +kernel) (by decide) (lc_years C hX hbl hs14 h1 h2 h3 kk hI)
    by_cases c15 : z = 15
    · exact y_tabI (pc := 32) (tgt := 559) (off := 527) C dL_law_32 (by rw [c15]; decide) (by rw [c15]; decide) (by rw [c15]; decide +kernel) (by decide) (lc_worst C hX hbl hs15 h1 h2 h3 kk hI)
    by_cases c16 : z = 16
    · exact y_tabI (pc := 32) (tgt := 572) (off := 540) C dL_law_32 (by rw [c16]; decide) (by rw [c16]; decide) (by rw [c16]; decide +kernel) (by decide) (lc_best C hX hbl hs16 h1 h2 h3 kk hI)
    by_cases c17 : z = 17
    · exact y_tabI (pc := 32) (tgt := 595) (off := 563) C dL_law_32 (by rw [c17]; decide) (by rw [c17]; decide) (by rw [c17]; decide +kernel) (by decide) (lc_howMany C hX hbl hs17 h1 h2 h3 kk hI)
    by_cases c18 : z = 18
    · exact y_tabI (pc := 32) (tgt := 608) (off := 576) C dL_law_32 (by rw [c18]; decide) (by rw [c18]; decide) (by rw [c18]; decide +kernel) (by decide) (lc_carried C hX hbl hs18 h1 h2 h3 kk hI)
    by_cases c19 : z = 19
    · exact y_tabI (pc := 32) (tgt := 641) (off := 609) C dL_law_32 (by rw [c19]; decide) (by rw [c19]; decide) (by rw [c19]; decide +kernel) (by decide) (lc_flood C hX hbl hs19 h1 h2 h3 kk hI)
    by_cases c20 : z = 20
    · exact y_tabI (pc := 32) (tgt := 664) (off := 632) C dL_law_32 (by rw [c20]; decide) (by rw [c20]; decide) (by rw [c20]; decide +kernel) (by decide) (lc_looks C hX hbl hs20 h1 h2 h3 kk hI)
    by_cases c21 : z = 21
    · exact y_tabI (pc := 32) (tgt := 677) (off := 645) C dL_law_32 (by rw [c21]; decide) (by rw [c21]; decide) (by rw [c21]; decide +kernel) (by decide) (lc_was C hX hbl hs21 h1 h2 h3 kk hI)
    by_cases c22 : z = 22
    · exact y_tabI (pc := 32) (tgt := 710) (off := 678) C dL_law_32 (by rw [c22]; decide) (by rw [c22]; decide) (by rw [c22]; decide +kernel) (by decide) (lc_last C hX hbl hs22 h1 h2 h3 kk hI)
    by_cases c23 : z = 23
    · exact y_tabI (pc := 32) (tgt := 733) (off := 701) C dL_law_32 (by rw [c23]; decide) (by rw [c23]; decide) (by rw [c23]; decide +kernel) (by decide) (lc_sure C hX hbl hs23 h1 h2 h3 kk hI)
    by_cases c24 : z = 24
    · exact y_tabI (pc := 32) (tgt := 756) (off := 724) C dL_law_32 (by rw [c24]; decide) (by rw [c24]; decide) (by rw [c24]; decide +kernel) (by decide) (lc_springs C hX hbl hs24 h1 h2 h3 kk hI)
    by_cases c25 : z = 25
    · exact y_tabI (pc := 32) (tgt := 789) (off := 757) C dL_law_32 (by rw [c25]; decide) (by rw [c25]; decide) (by rw [c25]; decide +kernel) (by decide) (lc_image C hX hbl hs25 h1 h2 h3 kk hI)
    by_cases c26 : z = 26
    · exact y_tabI (pc := 32) (tgt := 802) (off := 770) C dL_law_32 (by rw [c26]; decide) (by rw [c26]; decide) (by rw [c26]; decide +kernel) (by decide) (lc_restore C hX hbl hs26 h1 h2 h3 kk hI)
    by_cases c27 : z = 27
    · exact y_tabI (pc := 32) (tgt := 815) (off := 783) C dL_law_32 (by rw [c27]; decide) (by rw [c27]; decide) (by rw [c27]; decide +kernel) (by decide) (lc_count C hX hbl hs27 h1 h2 h3 kk hI)
    by_cases c28 : z = 28
    · exact y_tabI (pc := 32) (tgt := 838) (off := 806) C dL_law_32 (by rw [c28]; decide) (by rw [c28]; decide) (by rw [c28]; decide +kernel) (by decide) (lc_digest C hX hbl hs28 h1 h2 h3 kk hI)
    exact y_tabO (pc := 32) (tgt := 852) C dL_law_32 (by have := lv_neT (a := 0) c0 (by decide); have := lv_neT (a := 1) c1 (by decide); have := lv_neT (a := 2) c2 (by decide); have := lv_neT (a := 3) c3 (by decide); have := lv_neT (a := 4) c4 (by decide); have := lv_neT (a := 5) c5 (by decide); have := lv_neT (a := 6) c6 (by decide); have := lv_neT (a := 7) c7 (by decide); have := lv_neT (a := 8) c8 (by decide); have := lv_neT (a := 9) c9 (by decide); have := lv_neT (a := 10) c10 (by decide); have := lv_neT (a := 11) c11 (by decide); have := lv_neT (a := 12) c12 (by decide); have := lv_neT (a := 13) c13 (by decide); have := lv_neT (a := 14) c14 (by decide); have := lv_neT (a := 15) c15 (by decide); have := lv_neT (a := 16) c16 (by decide); have := lv_neT (a := 17) c17 (by decide); have := lv_neT (a := 18) c18 (by decide); have := lv_neT (a := 19) c19 (by decide); have := lv_neT (a := 20) c20 (by decide); have := lv_neT (a := 21) c21 (by decide); have := lv_neT (a := 22) c22 (by decide); have := lv_neT (a := 23) c23 (by decide); have := lv_neT (a := 24) c24 (by decide); have := lv_neT (a := 25) c25 (by decide); have := lv_neT (a := 26) c26 (by decide); have := lv_neT (a := 27) c27 (by decide); have := lv_neT (a := 28) c28 (by decide); omega) (by decide) (kk σ hI)
