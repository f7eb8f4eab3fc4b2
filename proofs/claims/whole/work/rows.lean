section
-- ===== PART A: goes FIRST, ahead of the names: the tables' words, and 'selects' of the private methods out of them =====
/-- a private method of a class that the tables say can be made, by its rows of tables_1 -/
def lw_okq (q : MethodName × Nat) : Prop := (q.1.cls ≠ "java/lang/invoke/MethodHandle" ∧ q.1.cls ≠ "java/lang/invoke/VarHandle") ∧ Cond.instantiable q.1.cls q.2 ∈ tables_1 ∧ Cond.privateMethod q.1 ∈ tables_1 ∧ Cond.instanceMethod q.1 ∈ tables_1
theorem lw_p0 : lw_okq (⟨"PavedAnew$Law", "take", "(II)V"⟩, 4) := ⟨⟨by decide +kernel, by decide +kernel⟩, List.mem_of_getElem? (i := 38) (by decide +kernel), List.mem_of_getElem? (i := 271) (by decide +kernel), List.mem_of_getElem? (i := 272) (by decide +kernel)⟩
theorem lw_p1 : lw_okq (⟨"PavedAnew$Street", "put", "(II)V"⟩, 8) := ⟨⟨by decide +kernel, by decide +kernel⟩, List.mem_of_getElem? (i := 57) (by decide +kernel), List.mem_of_getElem? (i := 295) (by decide +kernel), List.mem_of_getElem? (i := 296) (by decide +kernel)⟩
theorem lw_p2 : lw_okq (⟨"PavedAnew", "isTooShort", "()Z"⟩, 13) := ⟨⟨by decide +kernel, by decide +kernel⟩, List.mem_of_getElem? (i := 16) (by decide +kernel), List.mem_of_getElem? (i := 366) (by decide +kernel), List.mem_of_getElem? (i := 367) (by decide +kernel)⟩
theorem lw_p3 : lw_okq (⟨"PavedAnew$Layings", "noteWear", "(LPavedAnew$Street;LPavedAnew$Law;)V"⟩, 7) := ⟨⟨by decide +kernel, by decide +kernel⟩, List.mem_of_getElem? (i := 101) (by decide +kernel), List.mem_of_getElem? (i := 465) (by decide +kernel), List.mem_of_getElem? (i := 466) (by decide +kernel)⟩
theorem lw_p4 : lw_okq (⟨"PavedAnew$Layings", "noteNeighbours", "(LPavedAnew$Street;LPavedAnew$Law;)V"⟩, 7) := ⟨⟨by decide +kernel, by decide +kernel⟩, List.mem_of_getElem? (i := 101) (by decide +kernel), List.mem_of_getElem? (i := 474) (by decide +kernel), List.mem_of_getElem? (i := 475) (by decide +kernel)⟩
theorem lw_p5 : lw_okq (⟨"PavedAnew$Layings", "settle", "(IIIZ)V"⟩, 7) := ⟨⟨by decide +kernel, by decide +kernel⟩, List.mem_of_getElem? (i := 101) (by decide +kernel), List.mem_of_getElem? (i := 487) (by decide +kernel), List.mem_of_getElem? (i := 488) (by decide +kernel)⟩
theorem lw_p6 : lw_okq (⟨"PavedAnew$Layings", "openTo", "(III)I"⟩, 7) := ⟨⟨by decide +kernel, by decide +kernel⟩, List.mem_of_getElem? (i := 101) (by decide +kernel), List.mem_of_getElem? (i := 497) (by decide +kernel), List.mem_of_getElem? (i := 498) (by decide +kernel)⟩
theorem lw_p7 : lw_okq (⟨"PavedAnew$Layings", "stateThen", "(III)I"⟩, 7) := ⟨⟨by decide +kernel, by decide +kernel⟩, List.mem_of_getElem? (i := 101) (by decide +kernel), List.mem_of_getElem? (i := 501) (by decide +kernel), List.mem_of_getElem? (i := 502) (by decide +kernel)⟩
theorem lw_p8 : lw_okq (⟨"PavedAnew$Layings", "aloneThen", "(II)I"⟩, 7) := ⟨⟨by decide +kernel, by decide +kernel⟩, List.mem_of_getElem? (i := 101) (by decide +kernel), List.mem_of_getElem? (i := 505) (by decide +kernel), List.mem_of_getElem? (i := 506) (by decide +kernel)⟩
theorem lw_p9 : lw_okq (⟨"PavedAnew$Layings", "firstToward", "(IIII)I"⟩, 7) := ⟨⟨by decide +kernel, by decide +kernel⟩, List.mem_of_getElem? (i := 101) (by decide +kernel), List.mem_of_getElem? (i := 528) (by decide +kernel), List.mem_of_getElem? (i := 529) (by decide +kernel)⟩
theorem lw_p10 : lw_okq (⟨"PavedAnew$LastYear", "countWays", "()V"⟩, 4) := ⟨⟨by decide +kernel, by decide +kernel⟩, List.mem_of_getElem? (i := 131) (by decide +kernel), List.mem_of_getElem? (i := 630) (by decide +kernel), List.mem_of_getElem? (i := 631) (by decide +kernel)⟩
theorem lw_p11 : lw_okq (⟨"PavedAnew$LastYear", "mayCome", "(III)Z"⟩, 4) := ⟨⟨by decide +kernel, by decide +kernel⟩, List.mem_of_getElem? (i := 131) (by decide +kernel), List.mem_of_getElem? (i := 635) (by decide +kernel), List.mem_of_getElem? (i := 636) (by decide +kernel)⟩
theorem lw_p12 : lw_okq (⟨"PavedAnew$LastYear", "firstFor", "(II)I"⟩, 4) := ⟨⟨by decide +kernel, by decide +kernel⟩, List.mem_of_getElem? (i := 131) (by decide +kernel), List.mem_of_getElem? (i := 648) (by decide +kernel), List.mem_of_getElem? (i := 649) (by decide +kernel)⟩
theorem lw_p13 : lw_okq (⟨"PavedAnew$Forecast", "note", "(II)V"⟩, 3) := ⟨⟨by decide +kernel, by decide +kernel⟩, List.mem_of_getElem? (i := 152) (by decide +kernel), List.mem_of_getElem? (i := 697) (by decide +kernel), List.mem_of_getElem? (i := 698) (by decide +kernel)⟩
theorem lw_p14 : lw_okq (⟨"PavedAnew", "mixBlocks", "(J)J"⟩, 13) := ⟨⟨by decide +kernel, by decide +kernel⟩, List.mem_of_getElem? (i := 16) (by decide +kernel), List.mem_of_getElem? (i := 732) (by decide +kernel), List.mem_of_getElem? (i := 733) (by decide +kernel)⟩
theorem lw_p15 : lw_okq (⟨"PavedAnew", "mixLaying", "(J)J"⟩, 13) := ⟨⟨by decide +kernel, by decide +kernel⟩, List.mem_of_getElem? (i := 16) (by decide +kernel), List.mem_of_getElem? (i := 740) (by decide +kernel), List.mem_of_getElem? (i := 741) (by decide +kernel)⟩
def lw_privs_1 : List (MethodName × Nat) := [(⟨"PavedAnew$Law", "take", "(II)V"⟩, 4), (⟨"PavedAnew$Street", "put", "(II)V"⟩, 8), (⟨"PavedAnew", "isTooShort", "()Z"⟩, 13), (⟨"PavedAnew$Layings", "noteWear", "(LPavedAnew$Street;LPavedAnew$Law;)V"⟩, 7), (⟨"PavedAnew$Layings", "noteNeighbours", "(LPavedAnew$Street;LPavedAnew$Law;)V"⟩, 7), (⟨"PavedAnew$Layings", "settle", "(IIIZ)V"⟩, 7), (⟨"PavedAnew$Layings", "openTo", "(III)I"⟩, 7), (⟨"PavedAnew$Layings", "stateThen", "(III)I"⟩, 7), (⟨"PavedAnew$Layings", "aloneThen", "(II)I"⟩, 7), (⟨"PavedAnew$Layings", "firstToward", "(IIII)I"⟩, 7), (⟨"PavedAnew$LastYear", "countWays", "()V"⟩, 4), (⟨"PavedAnew$LastYear", "mayCome", "(III)Z"⟩, 4), (⟨"PavedAnew$LastYear", "firstFor", "(II)I"⟩, 4), (⟨"PavedAnew$Forecast", "note", "(II)V"⟩, 3), (⟨"PavedAnew", "mixBlocks", "(J)J"⟩, 13), (⟨"PavedAnew", "mixLaying", "(J)J"⟩, 13)]
theorem lw_r1 : ∀ q ∈ lw_privs_1, lw_okq q := List.forall_mem_cons.mpr ⟨lw_p0, List.forall_mem_cons.mpr ⟨lw_p1, List.forall_mem_cons.mpr ⟨lw_p2, List.forall_mem_cons.mpr ⟨lw_p3, List.forall_mem_cons.mpr ⟨lw_p4, List.forall_mem_cons.mpr ⟨lw_p5, List.forall_mem_cons.mpr ⟨lw_p6, List.forall_mem_cons.mpr ⟨lw_p7, List.forall_mem_cons.mpr ⟨lw_p8, List.forall_mem_cons.mpr ⟨lw_p9, List.forall_mem_cons.mpr ⟨lw_p10, List.forall_mem_cons.mpr ⟨lw_p11, List.forall_mem_cons.mpr ⟨lw_p12, List.forall_mem_cons.mpr ⟨lw_p13, List.forall_mem_cons.mpr ⟨lw_p14, List.forall_mem_cons.mpr ⟨lw_p15, fun _ h => absurd h List.not_mem_nil⟩⟩⟩⟩⟩⟩⟩⟩⟩⟩⟩⟩⟩⟩⟩⟩
theorem lw_p16 : lw_okq (⟨"PavedAnewModel", "faultOf", "()I"⟩, 32) := ⟨⟨by decide +kernel, by decide +kernel⟩, List.mem_of_getElem? (i := 752) (by decide +kernel), List.mem_of_getElem? (i := 868) (by decide +kernel), List.mem_of_getElem? (i := 869) (by decide +kernel)⟩
theorem lw_p17 : lw_okq (⟨"PavedAnewModel", "go", "(I)Z"⟩, 32) := ⟨⟨by decide +kernel, by decide +kernel⟩, List.mem_of_getElem? (i := 752) (by decide +kernel), List.mem_of_getElem? (i := 872) (by decide +kernel), List.mem_of_getElem? (i := 873) (by decide +kernel)⟩
theorem lw_p18 : lw_okq (⟨"PavedAnewModel", "tellLaw", "(I)I"⟩, 32) := ⟨⟨by decide +kernel, by decide +kernel⟩, List.mem_of_getElem? (i := 752) (by decide +kernel), List.mem_of_getElem? (i := 889) (by decide +kernel), List.mem_of_getElem? (i := 890) (by decide +kernel)⟩
theorem lw_p19 : lw_okq (⟨"PavedAnewModel", "isBlock", "(I)Z"⟩, 32) := ⟨⟨by decide +kernel, by decide +kernel⟩, List.mem_of_getElem? (i := 752) (by decide +kernel), List.mem_of_getElem? (i := 903) (by decide +kernel), List.mem_of_getElem? (i := 904) (by decide +kernel)⟩
theorem lw_p20 : lw_okq (⟨"PavedAnewModel", "tell", "(II)I"⟩, 32) := ⟨⟨by decide +kernel, by decide +kernel⟩, List.mem_of_getElem? (i := 752) (by decide +kernel), List.mem_of_getElem? (i := 907) (by decide +kernel), List.mem_of_getElem? (i := 908) (by decide +kernel)⟩
theorem lw_p21 : lw_okq (⟨"PavedAnewModel", "blockAt", "(I)I"⟩, 32) := ⟨⟨by decide +kernel, by decide +kernel⟩, List.mem_of_getElem? (i := 752) (by decide +kernel), List.mem_of_getElem? (i := 925) (by decide +kernel), List.mem_of_getElem? (i := 926) (by decide +kernel)⟩
theorem lw_p22 : lw_okq (⟨"PavedAnewModel", "lacks", "()Z"⟩, 32) := ⟨⟨by decide +kernel, by decide +kernel⟩, List.mem_of_getElem? (i := 752) (by decide +kernel), List.mem_of_getElem? (i := 944) (by decide +kernel), List.mem_of_getElem? (i := 945) (by decide +kernel)⟩
theorem lw_p23 : lw_okq (⟨"PavedAnewModel", "readOrder", "(I)Z"⟩, 32) := ⟨⟨by decide +kernel, by decide +kernel⟩, List.mem_of_getElem? (i := 752) (by decide +kernel), List.mem_of_getElem? (i := 948) (by decide +kernel), List.mem_of_getElem? (i := 949) (by decide +kernel)⟩
theorem lw_p24 : lw_okq (⟨"PavedAnewModel", "isLawful", "([I)Z"⟩, 32) := ⟨⟨by decide +kernel, by decide +kernel⟩, List.mem_of_getElem? (i := 752) (by decide +kernel), List.mem_of_getElem? (i := 952) (by decide +kernel), List.mem_of_getElem? (i := 953) (by decide +kernel)⟩
theorem lw_p25 : lw_okq (⟨"PavedAnewModel", "layOn", "([I[I[I)V"⟩, 32) := ⟨⟨by decide +kernel, by decide +kernel⟩, List.mem_of_getElem? (i := 752) (by decide +kernel), List.mem_of_getElem? (i := 959) (by decide +kernel), List.mem_of_getElem? (i := 960) (by decide +kernel)⟩
theorem lw_p26 : lw_okq (⟨"PavedAnewModel", "worstOf", "([I)I"⟩, 32) := ⟨⟨by decide +kernel, by decide +kernel⟩, List.mem_of_getElem? (i := 752) (by decide +kernel), List.mem_of_getElem? (i := 963) (by decide +kernel), List.mem_of_getElem? (i := 964) (by decide +kernel)⟩
theorem lw_p27 : lw_okq (⟨"PavedAnewModel", "yearOn", "([I[I)V"⟩, 32) := ⟨⟨by decide +kernel, by decide +kernel⟩, List.mem_of_getElem? (i := 752) (by decide +kernel), List.mem_of_getElem? (i := 976) (by decide +kernel), List.mem_of_getElem? (i := 977) (by decide +kernel)⟩
theorem lw_p28 : lw_okq (⟨"PavedAnewModel", "findBest", "([I[I[I)I"⟩, 32) := ⟨⟨by decide +kernel, by decide +kernel⟩, List.mem_of_getElem? (i := 752) (by decide +kernel), List.mem_of_getElem? (i := 991) (by decide +kernel), List.mem_of_getElem? (i := 992) (by decide +kernel)⟩
theorem lw_p29 : lw_okq (⟨"PavedAnewModel", "firstOrder", "()V"⟩, 32) := ⟨⟨by decide +kernel, by decide +kernel⟩, List.mem_of_getElem? (i := 752) (by decide +kernel), List.mem_of_getElem? (i := 996) (by decide +kernel), List.mem_of_getElem? (i := 997) (by decide +kernel)⟩
theorem lw_p30 : lw_okq (⟨"PavedAnewModel", "wouldBe", "([I[I)I"⟩, 32) := ⟨⟨by decide +kernel, by decide +kernel⟩, List.mem_of_getElem? (i := 752) (by decide +kernel), List.mem_of_getElem? (i := 1000) (by decide +kernel), List.mem_of_getElem? (i := 1001) (by decide +kernel)⟩
theorem lw_p31 : lw_okq (⟨"PavedAnewModel", "numberOf", "()I"⟩, 32) := ⟨⟨by decide +kernel, by decide +kernel⟩, List.mem_of_getElem? (i := 752) (by decide +kernel), List.mem_of_getElem? (i := 1004) (by decide +kernel), List.mem_of_getElem? (i := 1005) (by decide +kernel)⟩
def lw_privs_2 : List (MethodName × Nat) := [(⟨"PavedAnewModel", "faultOf", "()I"⟩, 32), (⟨"PavedAnewModel", "go", "(I)Z"⟩, 32), (⟨"PavedAnewModel", "tellLaw", "(I)I"⟩, 32), (⟨"PavedAnewModel", "isBlock", "(I)Z"⟩, 32), (⟨"PavedAnewModel", "tell", "(II)I"⟩, 32), (⟨"PavedAnewModel", "blockAt", "(I)I"⟩, 32), (⟨"PavedAnewModel", "lacks", "()Z"⟩, 32), (⟨"PavedAnewModel", "readOrder", "(I)Z"⟩, 32), (⟨"PavedAnewModel", "isLawful", "([I)Z"⟩, 32), (⟨"PavedAnewModel", "layOn", "([I[I[I)V"⟩, 32), (⟨"PavedAnewModel", "worstOf", "([I)I"⟩, 32), (⟨"PavedAnewModel", "yearOn", "([I[I)V"⟩, 32), (⟨"PavedAnewModel", "findBest", "([I[I[I)I"⟩, 32), (⟨"PavedAnewModel", "firstOrder", "()V"⟩, 32), (⟨"PavedAnewModel", "wouldBe", "([I[I)I"⟩, 32), (⟨"PavedAnewModel", "numberOf", "()I"⟩, 32)]
theorem lw_r2 : ∀ q ∈ lw_privs_2, lw_okq q := List.forall_mem_cons.mpr ⟨lw_p16, List.forall_mem_cons.mpr ⟨lw_p17, List.forall_mem_cons.mpr ⟨lw_p18, List.forall_mem_cons.mpr ⟨lw_p19, List.forall_mem_cons.mpr ⟨lw_p20, List.forall_mem_cons.mpr ⟨lw_p21, List.forall_mem_cons.mpr ⟨lw_p22, List.forall_mem_cons.mpr ⟨lw_p23, List.forall_mem_cons.mpr ⟨lw_p24, List.forall_mem_cons.mpr ⟨lw_p25, List.forall_mem_cons.mpr ⟨lw_p26, List.forall_mem_cons.mpr ⟨lw_p27, List.forall_mem_cons.mpr ⟨lw_p28, List.forall_mem_cons.mpr ⟨lw_p29, List.forall_mem_cons.mpr ⟨lw_p30, List.forall_mem_cons.mpr ⟨lw_p31, fun _ h => absurd h List.not_mem_nil⟩⟩⟩⟩⟩⟩⟩⟩⟩⟩⟩⟩⟩⟩⟩⟩
theorem lw_p32 : lw_okq (⟨"PavedAnewModel", "nextOrder", "()Z"⟩, 32) := ⟨⟨by decide +kernel, by decide +kernel⟩, List.mem_of_getElem? (i := 752) (by decide +kernel), List.mem_of_getElem? (i := 1008) (by decide +kernel), List.mem_of_getElem? (i := 1009) (by decide +kernel)⟩
theorem lw_p33 : lw_okq (⟨"PavedAnewModel", "tellCarried", "(I)I"⟩, 32) := ⟨⟨by decide +kernel, by decide +kernel⟩, List.mem_of_getElem? (i := 752) (by decide +kernel), List.mem_of_getElem? (i := 1021) (by decide +kernel), List.mem_of_getElem? (i := 1022) (by decide +kernel)⟩
theorem lw_p34 : lw_okq (⟨"PavedAnewModel", "draw", "(I)I"⟩, 32) := ⟨⟨by decide +kernel, by decide +kernel⟩, List.mem_of_getElem? (i := 752) (by decide +kernel), List.mem_of_getElem? (i := 1029) (by decide +kernel), List.mem_of_getElem? (i := 1030) (by decide +kernel)⟩
theorem lw_p35 : lw_okq (⟨"PavedAnewModel", "looksOf", "()I"⟩, 32) := ⟨⟨by decide +kernel, by decide +kernel⟩, List.mem_of_getElem? (i := 752) (by decide +kernel), List.mem_of_getElem? (i := 1041) (by decide +kernel), List.mem_of_getElem? (i := 1042) (by decide +kernel)⟩
theorem lw_p36 : lw_okq (⟨"PavedAnewModel", "isLast", "()Z"⟩, 32) := ⟨⟨by decide +kernel, by decide +kernel⟩, List.mem_of_getElem? (i := 752) (by decide +kernel), List.mem_of_getElem? (i := 1054) (by decide +kernel), List.mem_of_getElem? (i := 1055) (by decide +kernel)⟩
theorem lw_p37 : lw_okq (⟨"PavedAnewModel", "oneSpring", "()V"⟩, 32) := ⟨⟨by decide +kernel, by decide +kernel⟩, List.mem_of_getElem? (i := 752) (by decide +kernel), List.mem_of_getElem? (i := 1067) (by decide +kernel), List.mem_of_getElem? (i := 1068) (by decide +kernel)⟩
theorem lw_p38 : lw_okq (⟨"PavedAnewModel", "burn", "()I"⟩, 32) := ⟨⟨by decide +kernel, by decide +kernel⟩, List.mem_of_getElem? (i := 752) (by decide +kernel), List.mem_of_getElem? (i := 1071) (by decide +kernel), List.mem_of_getElem? (i := 1072) (by decide +kernel)⟩
theorem lw_p39 : lw_okq (⟨"PavedAnewModel", "countOf", "(I)I"⟩, 32) := ⟨⟨by decide +kernel, by decide +kernel⟩, List.mem_of_getElem? (i := 752) (by decide +kernel), List.mem_of_getElem? (i := 1087) (by decide +kernel), List.mem_of_getElem? (i := 1088) (by decide +kernel)⟩
theorem lw_p40 : lw_okq (⟨"PavedAnewModel", "wheelsOf", "()I"⟩, 32) := ⟨⟨by decide +kernel, by decide +kernel⟩, List.mem_of_getElem? (i := 752) (by decide +kernel), List.mem_of_getElem? (i := 1091) (by decide +kernel), List.mem_of_getElem? (i := 1092) (by decide +kernel)⟩
theorem lw_p41 : lw_okq (⟨"PavedAnewModel", "say", "(J)V"⟩, 32) := ⟨⟨by decide +kernel, by decide +kernel⟩, List.mem_of_getElem? (i := 752) (by decide +kernel), List.mem_of_getElem? (i := 1100) (by decide +kernel), List.mem_of_getElem? (i := 1101) (by decide +kernel)⟩
theorem lw_p42 : lw_okq (⟨"PavedAnewModel", "sayStreet", "()V"⟩, 32) := ⟨⟨by decide +kernel, by decide +kernel⟩, List.mem_of_getElem? (i := 752) (by decide +kernel), List.mem_of_getElem? (i := 1105) (by decide +kernel), List.mem_of_getElem? (i := 1106) (by decide +kernel)⟩
def lw_privs_3 : List (MethodName × Nat) := [(⟨"PavedAnewModel", "nextOrder", "()Z"⟩, 32), (⟨"PavedAnewModel", "tellCarried", "(I)I"⟩, 32), (⟨"PavedAnewModel", "draw", "(I)I"⟩, 32), (⟨"PavedAnewModel", "looksOf", "()I"⟩, 32), (⟨"PavedAnewModel", "isLast", "()Z"⟩, 32), (⟨"PavedAnewModel", "oneSpring", "()V"⟩, 32), (⟨"PavedAnewModel", "burn", "()I"⟩, 32), (⟨"PavedAnewModel", "countOf", "(I)I"⟩, 32), (⟨"PavedAnewModel", "wheelsOf", "()I"⟩, 32), (⟨"PavedAnewModel", "say", "(J)V"⟩, 32), (⟨"PavedAnewModel", "sayStreet", "()V"⟩, 32)]
theorem lw_r3 : ∀ q ∈ lw_privs_3, lw_okq q := List.forall_mem_cons.mpr ⟨lw_p32, List.forall_mem_cons.mpr ⟨lw_p33, List.forall_mem_cons.mpr ⟨lw_p34, List.forall_mem_cons.mpr ⟨lw_p35, List.forall_mem_cons.mpr ⟨lw_p36, List.forall_mem_cons.mpr ⟨lw_p37, List.forall_mem_cons.mpr ⟨lw_p38, List.forall_mem_cons.mpr ⟨lw_p39, List.forall_mem_cons.mpr ⟨lw_p40, List.forall_mem_cons.mpr ⟨lw_p41, List.forall_mem_cons.mpr ⟨lw_p42, fun _ h => absurd h List.not_mem_nil⟩⟩⟩⟩⟩⟩⟩⟩⟩⟩⟩
def lw_privs : List (MethodName × Nat) := lw_privs_1 ++ (lw_privs_2 ++ (lw_privs_3))
def lw_tbl : List Cond := k2_sels lw_privs ++ tables_1
theorem lw_privs_ok : ∀ q ∈ lw_privs, lw_okq q := by
  show ∀ q ∈ lw_privs_1 ++ (lw_privs_2 ++ (lw_privs_3)), lw_okq q
  exact List.forall_mem_append.mpr ⟨lw_r1, List.forall_mem_append.mpr ⟨lw_r2, lw_r3⟩⟩
end
section
def RX0 : String := "PavedAnew$Carrying"
def TX0 : u_T := fun k => match k with
  | _ => ("", "", "", false)
def tyX0 : Nat → FieldType := fun k => match k with
  | _ => .int
abbrev wsX00 : List Cond := u_ws RX0 TX0 0
theorem nmX0 : ∀ a, a < 0 → ∀ b, b < 0 → a ≠ b → (TX0 a).2.1 ≠ (TX0 b).2.1 := by decide +kernel
theorem tyX0_ok : ∀ k, k < 0 → parseFieldDescriptor (TX0 k).2.2.1 = some (tyX0 k) := by decide +kernel
abbrev cX0_told : ByteArray := prog_2_method_2_code
def yX0_told : MethodName := ⟨RX0, "told", "(LPavedAnew$Street;LPavedAnew$Order;I)I"⟩
abbrev cX0_wayTo : ByteArray := prog_2_method_3_code
def yX0_wayTo : MethodName := ⟨RX0, "wayTo", "(LPavedAnew$Street;LPavedAnew$Order;II)I"⟩
abbrev cX0_greaterGang : ByteArray := prog_2_method_4_code
def yX0_greaterGang : MethodName := ⟨RX0, "greaterGang", "(LPavedAnew$Street;LPavedAnew$Order;)I"⟩
abbrev cX0_exchangesTo : ByteArray := prog_2_method_5_code
def yX0_exchangesTo : MethodName := ⟨RX0, "exchangesTo", "(LPavedAnew$Street;LPavedAnew$Order;)I"⟩
abbrev cX0_ringFrom : ByteArray := prog_2_method_6_code
def yX0_ringFrom : MethodName := ⟨RX0, "ringFrom", "(LPavedAnew$Street;LPavedAnew$Order;II)I"⟩
def RX1 : String := "PavedAnew$Flood"
def TX1 : u_T := fun k => match k with
  | _ => ("", "", "", false)
def tyX1 : Nat → FieldType := fun k => match k with
  | _ => .int
abbrev wsX10 : List Cond := u_ws RX1 TX1 0
theorem nmX1 : ∀ a, a < 0 → ∀ b, b < 0 → a ≠ b → (TX1 a).2.1 ≠ (TX1 b).2.1 := by decide +kernel
theorem tyX1_ok : ∀ k, k < 0 → parseFieldDescriptor (TX1 k).2.2.1 = some (tyX1 k) := by decide +kernel
abbrev cX1_swim : ByteArray := prog_3_method_2_code
def yX1_swim : MethodName := ⟨RX1, "swim", "(LPavedAnew$Street;I)I"⟩
abbrev cX1_nextSeed : ByteArray := prog_3_method_3_code
def yX1_nextSeed : MethodName := ⟨RX1, "nextSeed", "(I)I"⟩
abbrev cX1_rest : ByteArray := prog_3_method_4_code
def yX1_rest : MethodName := ⟨RX1, "rest", "(II)I"⟩
def RX2 : String := "PavedAnew$Forecast"
def TX2 : u_T := fun k => match k with
  | 0 => ("PavedAnew$Forecast", "street", "LPavedAnew$Street;", true)
  | 1 => ("PavedAnew$Forecast", "bought", "I", false)
  | _ => ("PavedAnew$Forecast", "firstBought", "I", false)
def tyX2 : Nat → FieldType := fun k => match k with
  | 0 => .object "PavedAnew$Street"
  | 1 => .int
  | _ => .int
abbrev wsX20 : List Cond := u_ws RX2 TX2 3
theorem nmX2 : ∀ a, a < 3 → ∀ b, b < 3 → a ≠ b → (TX2 a).2.1 ≠ (TX2 b).2.1 := by decide +kernel
theorem tyX2_ok : ∀ k, k < 3 → parseFieldDescriptor (TX2 k).2.2.1 = some (tyX2 k) := by decide +kernel
abbrev cX2_init : ByteArray := prog_4_method_1_code
def yX2_init : MethodName := ⟨RX2, "<init>", "()V"⟩
abbrev cX2_run : ByteArray := prog_4_method_2_code
def yX2_run : MethodName := ⟨RX2, "run", "(LPavedAnew$Street;LPavedAnew$Law;LPavedAnew$Layings;I)V"⟩
abbrev cX2_note : ByteArray := prog_4_method_3_code
def yX2_note : MethodName := ⟨RX2, "note", "(II)V"⟩
abbrev cX2_told : ByteArray := prog_4_method_4_code
def yX2_told : MethodName := ⟨RX2, "told", "(I)I"⟩
def RX3 : String := "PavedAnew$LastYear"
def TX3 : u_T := fun k => match k with
  | 0 => ("PavedAnew$LastYear", "ways", "[I", true)
  | 1 => ("PavedAnew$LastYear", "placesFor", "[I", true)
  | 2 => ("PavedAnew$LastYear", "found", "LPavedAnew$Order;", true)
  | _ => ("PavedAnew$LastYear", "size", "I", false)
def tyX3 : Nat → FieldType := fun k => match k with
  | 0 => .array .int
  | 1 => .array .int
  | 2 => .object "PavedAnew$Order"
  | _ => .int
abbrev wsX30 : List Cond := u_ws RX3 TX3 4
theorem nmX3 : ∀ a, a < 4 → ∀ b, b < 4 → a ≠ b → (TX3 a).2.1 ≠ (TX3 b).2.1 := by decide +kernel
theorem tyX3_ok : ∀ k, k < 4 → parseFieldDescriptor (TX3 k).2.2.1 = some (tyX3 k) := by decide +kernel
abbrev cX3_init : ByteArray := prog_5_method_1_code
def yX3_init : MethodName := ⟨RX3, "<init>", "()V"⟩
abbrev cX3_study : ByteArray := prog_5_method_2_code
def yX3_study : MethodName := ⟨RX3, "study", "(LPavedAnew$Street;)V"⟩
abbrev cX3_ordersFound : ByteArray := prog_5_method_3_code
def yX3_ordersFound : MethodName := ⟨RX3, "ordersFound", "()I"⟩
abbrev cX3_firstOrder : ByteArray := prog_5_method_4_code
def yX3_firstOrder : MethodName := ⟨RX3, "firstOrder", "()LPavedAnew$Order;"⟩
abbrev cX3_surePlaceOf : ByteArray := prog_5_method_5_code
def yX3_surePlaceOf : MethodName := ⟨RX3, "surePlaceOf", "(I)I"⟩
abbrev cX3_placeIn : ByteArray := prog_5_method_6_code
def yX3_placeIn : MethodName := ⟨RX3, "placeIn", "(LPavedAnew$Order;I)I"⟩
abbrev cX3_placesFitting : ByteArray := prog_5_method_7_code
def yX3_placesFitting : MethodName := ⟨RX3, "placesFitting", "(LPavedAnew$Street;I)I"⟩
abbrev cX3_fits : ByteArray := prog_5_method_8_code
def yX3_fits : MethodName := ⟨RX3, "fits", "(LPavedAnew$Street;II)Z"⟩
abbrev cX3_countWays : ByteArray := prog_5_method_9_code
def yX3_countWays : MethodName := ⟨RX3, "countWays", "()V"⟩
abbrev cX3_firstFor : ByteArray := prog_5_method_10_code
def yX3_firstFor : MethodName := ⟨RX3, "firstFor", "(II)I"⟩
abbrev cX3_mayCome : ByteArray := prog_5_method_11_code
def yX3_mayCome : MethodName := ⟨RX3, "mayCome", "(III)Z"⟩
def RX4 : String := "PavedAnew$Law"
def TX4 : u_T := fun k => match k with
  | 0 => ("PavedAnew$Law", "neighboursNew", "Z", false)
  | 1 => ("PavedAnew$Law", "turns", "Z", false)
  | 2 => ("PavedAnew$Law", "twinsTogether", "Z", false)
  | _ => ("PavedAnew$Law", "most", "I", false)
def tyX4 : Nat → FieldType := fun k => match k with
  | 0 => .boolean
  | 1 => .boolean
  | 2 => .boolean
  | _ => .int
abbrev wsX40 : List Cond := u_ws RX4 TX4 4
theorem nmX4 : ∀ a, a < 4 → ∀ b, b < 4 → a ≠ b → (TX4 a).2.1 ≠ (TX4 b).2.1 := by decide +kernel
theorem tyX4_ok : ∀ k, k < 4 → parseFieldDescriptor (TX4 k).2.2.1 = some (tyX4 k) := by decide +kernel
abbrev cX4_init : ByteArray := prog_6_method_1_code
def yX4_init : MethodName := ⟨RX4, "<init>", "()V"⟩
abbrev cX4_readFrom : ByteArray := prog_6_method_2_code
def yX4_readFrom : MethodName := ⟨RX4, "readFrom", "(LPavedAnew$Page;)V"⟩
abbrev cX4_take : ByteArray := prog_6_method_3_code
def yX4_take : MethodName := ⟨RX4, "take", "(II)V"⟩
abbrev cX4_told : ByteArray := prog_6_method_4_code
def yX4_told : MethodName := ⟨RX4, "told", "(I)I"⟩
abbrev cX4_turns : ByteArray := prog_6_method_5_code
def yX4_turns : MethodName := ⟨RX4, "turns", "()Z"⟩
abbrev cX4_wantsTwinsTogether : ByteArray := prog_6_method_6_code
def yX4_wantsTwinsTogether : MethodName := ⟨RX4, "wantsTwinsTogether", "()Z"⟩
abbrev cX4_burningWear : ByteArray := prog_6_method_7_code
def yX4_burningWear : MethodName := ⟨RX4, "burningWear", "()I"⟩
abbrev cX4_letsLieTogether : ByteArray := prog_6_method_8_code
def yX4_letsLieTogether : MethodName := ⟨RX4, "letsLieTogether", "(LPavedAnew$Street;II)Z"⟩
abbrev cX4_allows : ByteArray := prog_6_method_9_code
def yX4_allows : MethodName := ⟨RX4, "allows", "(LPavedAnew$Street;LPavedAnew$Order;)Z"⟩
abbrev cX4_hasTwinBeside : ByteArray := prog_6_method_10_code
def yX4_hasTwinBeside : MethodName := ⟨RX4, "hasTwinBeside", "(LPavedAnew$Street;LPavedAnew$Order;I)Z"⟩
def RX5 : String := "PavedAnew$Layings"
def TX5 : u_T := fun k => match k with
  | 0 => ("PavedAnew$Layings", "ways", "[I", true)
  | 1 => ("PavedAnew$Layings", "least", "[I", true)
  | 2 => ("PavedAnew$Layings", "wearIn", "[I", true)
  | 3 => ("PavedAnew$Layings", "mayBeside", "[I", true)
  | 4 => ("PavedAnew$Layings", "found", "LPavedAnew$Order;", true)
  | 5 => ("PavedAnew$Layings", "size", "I", false)
  | _ => ("PavedAnew$Layings", "needy", "I", false)
def tyX5 : Nat → FieldType := fun k => match k with
  | 0 => .array .int
  | 1 => .array .int
  | 2 => .array .int
  | 3 => .array .int
  | 4 => .object "PavedAnew$Order"
  | 5 => .int
  | _ => .int
abbrev wsX50 : List Cond := u_ws RX5 TX5 7
theorem nmX5 : ∀ a, a < 7 → ∀ b, b < 7 → a ≠ b → (TX5 a).2.1 ≠ (TX5 b).2.1 := by decide +kernel
theorem tyX5_ok : ∀ k, k < 7 → parseFieldDescriptor (TX5 k).2.2.1 = some (tyX5 k) := by decide +kernel
abbrev cX5_init : ByteArray := prog_7_method_1_code
def yX5_init : MethodName := ⟨RX5, "<init>", "()V"⟩
abbrev cX5_study : ByteArray := prog_7_method_2_code
def yX5_study : MethodName := ⟨RX5, "study", "(LPavedAnew$Street;LPavedAnew$Law;)V"⟩
abbrev cX5_ordersFound : ByteArray := prog_7_method_3_code
def yX5_ordersFound : MethodName := ⟨RX5, "ordersFound", "()I"⟩
abbrev cX5_leastWorst : ByteArray := prog_7_method_4_code
def yX5_leastWorst : MethodName := ⟨RX5, "leastWorst", "()I"⟩
abbrev cX5_bestOrder : ByteArray := prog_7_method_5_code
def yX5_bestOrder : MethodName := ⟨RX5, "bestOrder", "()LPavedAnew$Order;"⟩
abbrev cX5_firstToward : ByteArray := prog_7_method_6_code
def yX5_firstToward : MethodName := ⟨RX5, "firstToward", "(IIII)I"⟩
abbrev cX5_noteWear : ByteArray := prog_7_method_7_code
def yX5_noteWear : MethodName := ⟨RX5, "noteWear", "(LPavedAnew$Street;LPavedAnew$Law;)V"⟩
abbrev cX5_noteNeighbours : ByteArray := prog_7_method_8_code
def yX5_noteNeighbours : MethodName := ⟨RX5, "noteNeighbours", "(LPavedAnew$Street;LPavedAnew$Law;)V"⟩
abbrev cX5_settle : ByteArray := prog_7_method_9_code
def yX5_settle : MethodName := ⟨RX5, "settle", "(IIIZ)V"⟩
abbrev cX5_openTo : ByteArray := prog_7_method_10_code
def yX5_openTo : MethodName := ⟨RX5, "openTo", "(III)I"⟩
abbrev cX5_stateThen : ByteArray := prog_7_method_11_code
def yX5_stateThen : MethodName := ⟨RX5, "stateThen", "(III)I"⟩
abbrev cX5_aloneThen : ByteArray := prog_7_method_12_code
def yX5_aloneThen : MethodName := ⟨RX5, "aloneThen", "(II)I"⟩
abbrev cX5_isIn : ByteArray := prog_7_method_13_code
def yX5_isIn : MethodName := ⟨RX5, "isIn", "(II)Z"⟩
abbrev cX5_stateOf : ByteArray := prog_7_method_14_code
def yX5_stateOf : MethodName := ⟨RX5, "stateOf", "(III)I"⟩
def RX6 : String := "PavedAnew$Order"
def TX6 : u_T := fun k => match k with
  | 0 => ("PavedAnew$Order", "blocks", "[I", true)
  | _ => ("PavedAnew$Order", "size", "I", false)
def tyX6 : Nat → FieldType := fun k => match k with
  | 0 => .array .int
  | _ => .int
abbrev wsX60 : List Cond := u_ws RX6 TX6 2
theorem nmX6 : ∀ a, a < 2 → ∀ b, b < 2 → a ≠ b → (TX6 a).2.1 ≠ (TX6 b).2.1 := by decide +kernel
theorem tyX6_ok : ∀ k, k < 2 → parseFieldDescriptor (TX6 k).2.2.1 = some (tyX6 k) := by decide +kernel
abbrev cX6_init : ByteArray := prog_8_method_1_code
def yX6_init : MethodName := ⟨RX6, "<init>", "()V"⟩
abbrev cX6_size : ByteArray := prog_8_method_2_code
def yX6_size : MethodName := ⟨RX6, "size", "()I"⟩
abbrev cX6_blockIn : ByteArray := prog_8_method_3_code
def yX6_blockIn : MethodName := ⟨RX6, "blockIn", "(I)I"⟩
abbrev cX6_clear : ByteArray := prog_8_method_4_code
def yX6_clear : MethodName := ⟨RX6, "clear", "()V"⟩
abbrev cX6_append : ByteArray := prog_8_method_5_code
def yX6_append : MethodName := ⟨RX6, "append", "(I)V"⟩
abbrev cX6_read : ByteArray := prog_8_method_6_code
def yX6_read : MethodName := ⟨RX6, "read", "(II)Z"⟩
abbrev cX6_turnRound : ByteArray := prog_8_method_7_code
def yX6_turnRound : MethodName := ⟨RX6, "turnRound", "(LPavedAnew$Street;)V"⟩
abbrev cX6_told : ByteArray := prog_8_method_8_code
def yX6_told : MethodName := ⟨RX6, "told", "()I"⟩
def RX7 : String := "PavedAnew$Page"
def TX7 : u_T := fun k => match k with
  | 0 => ("PavedAnew$Page", "codes", "[I", true)
  | _ => ("PavedAnew$Page", "length", "I", false)
def tyX7 : Nat → FieldType := fun k => match k with
  | 0 => .array .int
  | _ => .int
abbrev wsX70 : List Cond := u_ws RX7 TX7 2
theorem nmX7 : ∀ a, a < 2 → ∀ b, b < 2 → a ≠ b → (TX7 a).2.1 ≠ (TX7 b).2.1 := by decide +kernel
theorem tyX7_ok : ∀ k, k < 2 → parseFieldDescriptor (TX7 k).2.2.1 = some (tyX7 k) := by decide +kernel
abbrev cX7_init : ByteArray := prog_9_method_1_code
def yX7_init : MethodName := ⟨RX7, "<init>", "()V"⟩
abbrev cX7_length : ByteArray := prog_9_method_2_code
def yX7_length : MethodName := ⟨RX7, "length", "()I"⟩
abbrev cX7_letterAt : ByteArray := prog_9_method_3_code
def yX7_letterAt : MethodName := ⟨RX7, "letterAt", "(I)I"⟩
abbrev cX7_clear : ByteArray := prog_9_method_4_code
def yX7_clear : MethodName := ⟨RX7, "clear", "()V"⟩
abbrev cX7_lettersIn : ByteArray := prog_9_method_5_code
def yX7_lettersIn : MethodName := ⟨RX7, "lettersIn", "(J)I"⟩
abbrev cX7_append : ByteArray := prog_9_method_6_code
def yX7_append : MethodName := ⟨RX7, "append", "(JI)V"⟩
abbrev cX7_codeIn : ByteArray := prog_9_method_7_code
def yX7_codeIn : MethodName := ⟨RX7, "codeIn", "(JI)I"⟩
abbrev cX7_firstWrong : ByteArray := prog_9_method_8_code
def yX7_firstWrong : MethodName := ⟨RX7, "firstWrong", "()I"⟩
abbrev cX7_isLaw : ByteArray := prog_9_method_9_code
def yX7_isLaw : MethodName := ⟨RX7, "isLaw", "()Z"⟩
abbrev cX7_reachedBy : ByteArray := prog_9_method_10_code
def yX7_reachedBy : MethodName := ⟨RX7, "reachedBy", "(II)I"⟩
abbrev cX7_partOf : ByteArray := prog_9_method_11_code
def yX7_partOf : MethodName := ⟨RX7, "partOf", "(I)I"⟩
def RX8 : String := "PavedAnew$Street"
def TX8 : u_T := fun k => match k with
  | 0 => ("PavedAnew$Street", "kinds", "[I", true)
  | 1 => ("PavedAnew$Street", "above", "[I", true)
  | 2 => ("PavedAnew$Street", "below", "[I", true)
  | 3 => ("PavedAnew$Street", "yearAgo", "[I", true)
  | 4 => ("PavedAnew$Street", "places", "[I", true)
  | 5 => ("PavedAnew$Street", "lying", "[I", true)
  | 6 => ("PavedAnew$Street", "wheelsIn", "[I", true)
  | _ => ("PavedAnew$Street", "size", "I", false)
def tyX8 : Nat → FieldType := fun k => match k with
  | 0 => .array .int
  | 1 => .array .int
  | 2 => .array .int
  | 3 => .array .int
  | 4 => .array .int
  | 5 => .array .int
  | 6 => .array .int
  | _ => .int
abbrev wsX80 : List Cond := u_ws RX8 TX8 8
theorem nmX8 : ∀ a, a < 8 → ∀ b, b < 8 → a ≠ b → (TX8 a).2.1 ≠ (TX8 b).2.1 := by decide +kernel
theorem tyX8_ok : ∀ k, k < 8 → parseFieldDescriptor (TX8 k).2.2.1 = some (tyX8 k) := by decide +kernel
abbrev cX8_init : ByteArray := prog_10_method_1_code
def yX8_init : MethodName := ⟨RX8, "<init>", "()V"⟩
abbrev cX8_size : ByteArray := prog_10_method_2_code
def yX8_size : MethodName := ⟨RX8, "size", "()I"⟩
abbrev cX8_hasBlock : ByteArray := prog_10_method_3_code
def yX8_hasBlock : MethodName := ⟨RX8, "hasBlock", "(I)Z"⟩
abbrev cX8_kindOf : ByteArray := prog_10_method_4_code
def yX8_kindOf : MethodName := ⟨RX8, "kindOf", "(I)I"⟩
abbrev cX8_isTwin : ByteArray := prog_10_method_5_code
def yX8_isTwin : MethodName := ⟨RX8, "isTwin", "(I)Z"⟩
abbrev cX8_aboveOf : ByteArray := prog_10_method_6_code
def yX8_aboveOf : MethodName := ⟨RX8, "aboveOf", "(I)I"⟩
abbrev cX8_wasOf : ByteArray := prog_10_method_7_code
def yX8_wasOf : MethodName := ⟨RX8, "wasOf", "(I)I"⟩
abbrev cX8_placeOf : ByteArray := prog_10_method_8_code
def yX8_placeOf : MethodName := ⟨RX8, "placeOf", "(I)I"⟩
abbrev cX8_blockIn : ByteArray := prog_10_method_9_code
def yX8_blockIn : MethodName := ⟨RX8, "blockIn", "(I)I"⟩
abbrev cX8_wheelsIn : ByteArray := prog_10_method_10_code
def yX8_wheelsIn : MethodName := ⟨RX8, "wheelsIn", "(I)I"⟩
abbrev cX8_told : ByteArray := prog_10_method_11_code
def yX8_told : MethodName := ⟨RX8, "told", "(II)I"⟩
abbrev cX8_add : ByteArray := prog_10_method_12_code
def yX8_add : MethodName := ⟨RX8, "add", "(III)I"⟩
abbrev cX8_takeAway : ByteArray := prog_10_method_13_code
def yX8_takeAway : MethodName := ⟨RX8, "takeAway", "(I)V"⟩
abbrev cX8_copyFrom : ByteArray := prog_10_method_14_code
def yX8_copyFrom : MethodName := ⟨RX8, "copyFrom", "(LPavedAnew$Street;)V"⟩
abbrev cX8_put : ByteArray := prog_10_method_15_code
def yX8_put : MethodName := ⟨RX8, "put", "(II)V"⟩
abbrev cX8_exchange : ByteArray := prog_10_method_16_code
def yX8_exchange : MethodName := ⟨RX8, "exchange", "(II)V"⟩
abbrev cX8_putDown : ByteArray := prog_10_method_17_code
def yX8_putDown : MethodName := ⟨RX8, "putDown", "(LPavedAnew$Order;Z)V"⟩
abbrev cX8_turnOver : ByteArray := prog_10_method_18_code
def yX8_turnOver : MethodName := ⟨RX8, "turnOver", "(I)V"⟩
abbrev cX8_changeWheels : ByteArray := prog_10_method_19_code
def yX8_changeWheels : MethodName := ⟨RX8, "changeWheels", "(II)I"⟩
abbrev cX8_changeWas : ByteArray := prog_10_method_20_code
def yX8_changeWas : MethodName := ⟨RX8, "changeWas", "(II)I"⟩
abbrev cX8_lieTogether : ByteArray := prog_10_method_21_code
def yX8_lieTogether : MethodName := ⟨RX8, "lieTogether", "(II)Z"⟩
abbrev cX8_yearlyWear : ByteArray := prog_10_method_22_code
def yX8_yearlyWear : MethodName := ⟨RX8, "yearlyWear", "(II)I"⟩
abbrev cX8_wornHead : ByteArray := prog_10_method_23_code
def yX8_wornHead : MethodName := ⟨RX8, "wornHead", "(III)I"⟩
abbrev cX8_wearIfLaid : ByteArray := prog_10_method_24_code
def yX8_wearIfLaid : MethodName := ⟨RX8, "wearIfLaid", "(IIZ)I"⟩
abbrev cX8_wearForAYear : ByteArray := prog_10_method_25_code
def yX8_wearForAYear : MethodName := ⟨RX8, "wearForAYear", "()V"⟩
abbrev cX8_burnWorn : ByteArray := prog_10_method_26_code
def yX8_burnWorn : MethodName := ⟨RX8, "burnWorn", "(I)I"⟩
abbrev cX8_worstWear : ByteArray := prog_10_method_27_code
def yX8_worstWear : MethodName := ⟨RX8, "worstWear", "()I"⟩
abbrev cX8_looksNeeded : ByteArray := prog_10_method_28_code
def yX8_looksNeeded : MethodName := ⟨RX8, "looksNeeded", "()I"⟩
abbrev cX8_wheelsInUse : ByteArray := prog_10_method_29_code
def yX8_wheelsInUse : MethodName := ⟨RX8, "wheelsInUse", "()I"⟩
def RX9 : String := "PavedAnew"
def TX9 : u_T := fun k => match k with
  | 0 => ("PavedAnew", "page", "LPavedAnew$Page;", true)
  | 1 => ("PavedAnew", "theLaw", "LPavedAnew$Law;", true)
  | 2 => ("PavedAnew", "street", "LPavedAnew$Street;", true)
  | 3 => ("PavedAnew", "kept", "LPavedAnew$Street;", true)
  | 4 => ("PavedAnew", "wanted", "LPavedAnew$Order;", true)
  | 5 => ("PavedAnew", "layings", "LPavedAnew$Layings;", true)
  | 6 => ("PavedAnew", "lastYear", "LPavedAnew$LastYear;", true)
  | 7 => ("PavedAnew", "forecast", "LPavedAnew$Forecast;", true)
  | 8 => ("PavedAnew", "imageKept", "Z", false)
  | 9 => ("PavedAnew", "lawsRead", "I", false)
  | 10 => ("PavedAnew", "searches", "I", false)
  | 11 => ("PavedAnew", "looksBack", "I", false)
  | _ => ("PavedAnew", "forecasts", "I", false)
def tyX9 : Nat → FieldType := fun k => match k with
  | 0 => .object "PavedAnew$Page"
  | 1 => .object "PavedAnew$Law"
  | 2 => .object "PavedAnew$Street"
  | 3 => .object "PavedAnew$Street"
  | 4 => .object "PavedAnew$Order"
  | 5 => .object "PavedAnew$Layings"
  | 6 => .object "PavedAnew$LastYear"
  | 7 => .object "PavedAnew$Forecast"
  | 8 => .boolean
  | 9 => .int
  | 10 => .int
  | 11 => .int
  | _ => .int
abbrev wsX90 : List Cond := u_ws RX9 TX9 13
theorem nmX9 : ∀ a, a < 13 → ∀ b, b < 13 → a ≠ b → (TX9 a).2.1 ≠ (TX9 b).2.1 := by decide +kernel
theorem tyX9_ok : ∀ k, k < 13 → parseFieldDescriptor (TX9 k).2.2.1 = some (tyX9 k) := by decide +kernel
abbrev cX9_init : ByteArray := prog_1_method_1_code
def yX9_init : MethodName := ⟨RX9, "<init>", "()V"⟩
abbrev cX9_letters : ByteArray := prog_1_method_2_code
def yX9_letters : MethodName := ⟨RX9, "letters", "(J)I"⟩
abbrev cX9_blank : ByteArray := prog_1_method_3_code
def yX9_blank : MethodName := ⟨RX9, "blank", "()I"⟩
abbrev cX9_fault : ByteArray := prog_1_method_4_code
def yX9_fault : MethodName := ⟨RX9, "fault", "()I"⟩
abbrev cX9_law : ByteArray := prog_1_method_5_code
def yX9_law : MethodName := ⟨RX9, "law", "()I"⟩
abbrev cX9_lawTold : ByteArray := prog_1_method_6_code
def yX9_lawTold : MethodName := ⟨RX9, "lawTold", "(I)I"⟩
abbrev cX9_block : ByteArray := prog_1_method_7_code
def yX9_block : MethodName := ⟨RX9, "block", "(III)I"⟩
abbrev cX9_about : ByteArray := prog_1_method_8_code
def yX9_about : MethodName := ⟨RX9, "about", "(II)I"⟩
abbrev cX9_as : ByteArray := prog_1_method_9_code
def yX9_as : MethodName := ⟨RX9, "as", "(II)I"⟩
abbrev cX9_wheels : ByteArray := prog_1_method_10_code
def yX9_wheels : MethodName := ⟨RX9, "wheels", "(II)I"⟩
abbrev cX9_at : ByteArray := prog_1_method_11_code
def yX9_at : MethodName := ⟨RX9, "at", "(I)I"⟩
abbrev cX9_turn : ByteArray := prog_1_method_12_code
def yX9_turn : MethodName := ⟨RX9, "turn", "(I)I"⟩
abbrev cX9_thief : ByteArray := prog_1_method_13_code
def yX9_thief : MethodName := ⟨RX9, "thief", "(I)I"⟩
abbrev cX9_lay : ByteArray := prog_1_method_14_code
def yX9_lay : MethodName := ⟨RX9, "lay", "(I)I"⟩
abbrev cX9_lawful : ByteArray := prog_1_method_15_code
def yX9_lawful : MethodName := ⟨RX9, "lawful", "(I)I"⟩
abbrev cX9_years : ByteArray := prog_1_method_16_code
def yX9_years : MethodName := ⟨RX9, "years", "(I)I"⟩
abbrev cX9_worst : ByteArray := prog_1_method_17_code
def yX9_worst : MethodName := ⟨RX9, "worst", "()I"⟩
abbrev cX9_best : ByteArray := prog_1_method_18_code
def yX9_best : MethodName := ⟨RX9, "best", "(I)I"⟩
abbrev cX9_howMany : ByteArray := prog_1_method_19_code
def yX9_howMany : MethodName := ⟨RX9, "howMany", "()I"⟩
abbrev cX9_carried : ByteArray := prog_1_method_20_code
def yX9_carried : MethodName := ⟨RX9, "carried", "(II)I"⟩
abbrev cX9_flood : ByteArray := prog_1_method_21_code
def yX9_flood : MethodName := ⟨RX9, "flood", "(I)I"⟩
abbrev cX9_looks : ByteArray := prog_1_method_22_code
def yX9_looks : MethodName := ⟨RX9, "looks", "()I"⟩
abbrev cX9_was : ByteArray := prog_1_method_23_code
def yX9_was : MethodName := ⟨RX9, "was", "(II)I"⟩
abbrev cX9_last : ByteArray := prog_1_method_24_code
def yX9_last : MethodName := ⟨RX9, "last", "(I)I"⟩
abbrev cX9_sure : ByteArray := prog_1_method_25_code
def yX9_sure : MethodName := ⟨RX9, "sure", "(I)I"⟩
abbrev cX9_springs : ByteArray := prog_1_method_26_code
def yX9_springs : MethodName := ⟨RX9, "springs", "(II)I"⟩
abbrev cX9_image : ByteArray := prog_1_method_27_code
def yX9_image : MethodName := ⟨RX9, "image", "()I"⟩
abbrev cX9_restore : ByteArray := prog_1_method_28_code
def yX9_restore : MethodName := ⟨RX9, "restore", "()I"⟩
abbrev cX9_count : ByteArray := prog_1_method_29_code
def yX9_count : MethodName := ⟨RX9, "count", "(I)I"⟩
abbrev cX9_digest : ByteArray := prog_1_method_30_code
def yX9_digest : MethodName := ⟨RX9, "digest", "()J"⟩
abbrev cX9_mixBlocks : ByteArray := prog_1_method_31_code
def yX9_mixBlocks : MethodName := ⟨RX9, "mixBlocks", "(J)J"⟩
abbrev cX9_mixLaying : ByteArray := prog_1_method_32_code
def yX9_mixLaying : MethodName := ⟨RX9, "mixLaying", "(J)J"⟩
abbrev cX9_isTooShort : ByteArray := prog_1_method_33_code
def yX9_isTooShort : MethodName := ⟨RX9, "isTooShort", "()Z"⟩
abbrev cX9_mix : ByteArray := prog_1_method_34_code
def yX9_mix : MethodName := ⟨RX9, "mix", "(JJ)J"⟩
abbrev cX9_isWithin : ByteArray := prog_1_method_35_code
def yX9_isWithin : MethodName := ⟨RX9, "isWithin", "(III)Z"⟩
abbrev cX9_isKind : ByteArray := prog_1_method_36_code
def yX9_isKind : MethodName := ⟨RX9, "isKind", "(I)Z"⟩
abbrev cX9_isAlso : ByteArray := prog_1_method_37_code
def yX9_isAlso : MethodName := ⟨RX9, "isAlso", "(II)Z"⟩
def RX10 : String := "PavedAnewModel"
def TX10 : u_T := fun k => match k with
  | 0 => ("PavedAnewModel", "page", "[I", true)
  | 1 => ("PavedAnewModel", "pageMany", "I", false)
  | 2 => ("PavedAnewModel", "isNew", "I", false)
  | 3 => ("PavedAnewModel", "isTurned", "I", false)
  | 4 => ("PavedAnewModel", "isTwin", "I", false)
  | 5 => ("PavedAnewModel", "most", "I", false)
  | 6 => ("PavedAnewModel", "lawsRead", "I", false)
  | 7 => ("PavedAnewModel", "state", "I", false)
  | 8 => ("PavedAnewModel", "readNew", "I", false)
  | 9 => ("PavedAnewModel", "readTurned", "I", false)
  | 10 => ("PavedAnewModel", "readTwin", "I", false)
  | 11 => ("PavedAnewModel", "readMost", "I", false)
  | 12 => ("PavedAnewModel", "blocks", "I", false)
  | 13 => ("PavedAnewModel", "kinds", "[I", true)
  | 14 => ("PavedAnewModel", "above", "[I", true)
  | 15 => ("PavedAnewModel", "below", "[I", true)
  | 16 => ("PavedAnewModel", "placeOf", "[I", true)
  | 17 => ("PavedAnewModel", "wasOf", "[I", true)
  | 18 => ("PavedAnewModel", "wheelsAt", "[I", true)
  | 19 => ("PavedAnewModel", "order", "[I", true)
  | 20 => ("PavedAnewModel", "nextAbove", "[I", true)
  | 21 => ("PavedAnewModel", "nextBelow", "[I", true)
  | 22 => ("PavedAnewModel", "nextPlace", "[I", true)
  | 23 => ("PavedAnewModel", "bestNumber", "I", false)
  | 24 => ("PavedAnewModel", "bestWorst", "I", false)
  | 25 => ("PavedAnewModel", "doneBest", "I", false)
  | 26 => ("PavedAnewModel", "seedNow", "I", false)
  | 27 => ("PavedAnewModel", "doneLast", "I", false)
  | 28 => ("PavedAnewModel", "doneSprings", "I", false)
  | 29 => ("PavedAnewModel", "keptMany", "I", false)
  | 30 => ("PavedAnewModel", "keptRows", "[I", true)
  | _ => ("PavedAnewModel", "hash", "J", false)
def tyX10 : Nat → FieldType := fun k => match k with
  | 0 => .array .int
  | 1 => .int
  | 2 => .int
  | 3 => .int
  | 4 => .int
  | 5 => .int
  | 6 => .int
  | 7 => .int
  | 8 => .int
  | 9 => .int
  | 10 => .int
  | 11 => .int
  | 12 => .int
  | 13 => .array .int
  | 14 => .array .int
  | 15 => .array .int
  | 16 => .array .int
  | 17 => .array .int
  | 18 => .array .int
  | 19 => .array .int
  | 20 => .array .int
  | 21 => .array .int
  | 22 => .array .int
  | 23 => .int
  | 24 => .int
  | 25 => .int
  | 26 => .int
  | 27 => .int
  | 28 => .int
  | 29 => .int
  | 30 => .array .int
  | _ => .long
abbrev wsX100 : List Cond := u_ws RX10 TX10 32
theorem nmX10 : ∀ a, a < 32 → ∀ b, b < 32 → a ≠ b → (TX10 a).2.1 ≠ (TX10 b).2.1 := by decide +kernel
theorem tyX10_ok : ∀ k, k < 32 → parseFieldDescriptor (TX10 k).2.2.1 = some (tyX10 k) := by decide +kernel
abbrev cX10_init : ByteArray := prog_12_method_1_code
def yX10_init : MethodName := ⟨RX10, "<init>", "()V"⟩
abbrev cX10_in : ByteArray := prog_12_method_2_code
def yX10_in : MethodName := ⟨RX10, "in", "(JJJ)Z"⟩
abbrev cX10_letters : ByteArray := prog_12_method_3_code
def yX10_letters : MethodName := ⟨RX10, "letters", "(J)I"⟩
abbrev cX10_blank : ByteArray := prog_12_method_4_code
def yX10_blank : MethodName := ⟨RX10, "blank", "()I"⟩
abbrev cX10_go : ByteArray := prog_12_method_5_code
def yX10_go : MethodName := ⟨RX10, "go", "(I)Z"⟩
abbrev cX10_faultOf : ByteArray := prog_12_method_6_code
def yX10_faultOf : MethodName := ⟨RX10, "faultOf", "()I"⟩
abbrev cX10_fault : ByteArray := prog_12_method_7_code
def yX10_fault : MethodName := ⟨RX10, "fault", "()I"⟩
abbrev cX10_law : ByteArray := prog_12_method_8_code
def yX10_law : MethodName := ⟨RX10, "law", "()I"⟩
abbrev cX10_tellLaw : ByteArray := prog_12_method_9_code
def yX10_tellLaw : MethodName := ⟨RX10, "tellLaw", "(I)I"⟩
abbrev cX10_lawTold : ByteArray := prog_12_method_10_code
def yX10_lawTold : MethodName := ⟨RX10, "lawTold", "(I)I"⟩
abbrev cX10_isBlock : ByteArray := prog_12_method_11_code
def yX10_isBlock : MethodName := ⟨RX10, "isBlock", "(I)Z"⟩
abbrev cX10_block : ByteArray := prog_12_method_12_code
def yX10_block : MethodName := ⟨RX10, "block", "(III)I"⟩
abbrev cX10_tell : ByteArray := prog_12_method_13_code
def yX10_tell : MethodName := ⟨RX10, "tell", "(II)I"⟩
abbrev cX10_about : ByteArray := prog_12_method_14_code
def yX10_about : MethodName := ⟨RX10, "about", "(II)I"⟩
abbrev cX10_as : ByteArray := prog_12_method_15_code
def yX10_as : MethodName := ⟨RX10, "as", "(II)I"⟩
abbrev cX10_wheels : ByteArray := prog_12_method_16_code
def yX10_wheels : MethodName := ⟨RX10, "wheels", "(II)I"⟩
abbrev cX10_blockAt : ByteArray := prog_12_method_17_code
def yX10_blockAt : MethodName := ⟨RX10, "blockAt", "(I)I"⟩
abbrev cX10_at : ByteArray := prog_12_method_18_code
def yX10_at : MethodName := ⟨RX10, "at", "(I)I"⟩
abbrev cX10_exchange : ByteArray := prog_12_method_19_code
def yX10_exchange : MethodName := ⟨RX10, "exchange", "([I[II)V"⟩
abbrev cX10_turn : ByteArray := prog_12_method_20_code
def yX10_turn : MethodName := ⟨RX10, "turn", "(I)I"⟩
abbrev cX10_thief : ByteArray := prog_12_method_21_code
def yX10_thief : MethodName := ⟨RX10, "thief", "(I)I"⟩
abbrev cX10_lacks : ByteArray := prog_12_method_22_code
def yX10_lacks : MethodName := ⟨RX10, "lacks", "()Z"⟩
abbrev cX10_readOrder : ByteArray := prog_12_method_23_code
def yX10_readOrder : MethodName := ⟨RX10, "readOrder", "(I)Z"⟩
abbrev cX10_numberOf : ByteArray := prog_12_method_24_code
def yX10_numberOf : MethodName := ⟨RX10, "numberOf", "()I"⟩
abbrev cX10_firstOrder : ByteArray := prog_12_method_25_code
def yX10_firstOrder : MethodName := ⟨RX10, "firstOrder", "()V"⟩
abbrev cX10_nextOrder : ByteArray := prog_12_method_26_code
def yX10_nextOrder : MethodName := ⟨RX10, "nextOrder", "()Z"⟩
abbrev cX10_size : ByteArray := prog_12_method_27_code
def yX10_size : MethodName := ⟨RX10, "size", "(I)I"⟩
abbrev cX10_isLawful : ByteArray := prog_12_method_28_code
def yX10_isLawful : MethodName := ⟨RX10, "isLawful", "([I)Z"⟩
abbrev cX10_worn : ByteArray := prog_12_method_29_code
def yX10_worn : MethodName := ⟨RX10, "worn", "(III)I"⟩
abbrev cX10_worstOf : ByteArray := prog_12_method_30_code
def yX10_worstOf : MethodName := ⟨RX10, "worstOf", "([I)I"⟩
abbrev cX10_yearOn : ByteArray := prog_12_method_31_code
def yX10_yearOn : MethodName := ⟨RX10, "yearOn", "([I[I)V"⟩
abbrev cX10_layOn : ByteArray := prog_12_method_32_code
def yX10_layOn : MethodName := ⟨RX10, "layOn", "([I[I[I)V"⟩
abbrev cX10_lay : ByteArray := prog_12_method_33_code
def yX10_lay : MethodName := ⟨RX10, "lay", "(I)I"⟩
abbrev cX10_lawful : ByteArray := prog_12_method_34_code
def yX10_lawful : MethodName := ⟨RX10, "lawful", "(I)I"⟩
abbrev cX10_years : ByteArray := prog_12_method_35_code
def yX10_years : MethodName := ⟨RX10, "years", "(I)I"⟩
abbrev cX10_worst : ByteArray := prog_12_method_36_code
def yX10_worst : MethodName := ⟨RX10, "worst", "()I"⟩
abbrev cX10_wouldBe : ByteArray := prog_12_method_37_code
def yX10_wouldBe : MethodName := ⟨RX10, "wouldBe", "([I[I)I"⟩
abbrev cX10_findBest : ByteArray := prog_12_method_38_code
def yX10_findBest : MethodName := ⟨RX10, "findBest", "([I[I[I)I"⟩
abbrev cX10_best : ByteArray := prog_12_method_39_code
def yX10_best : MethodName := ⟨RX10, "best", "(I)I"⟩
abbrev cX10_howMany : ByteArray := prog_12_method_40_code
def yX10_howMany : MethodName := ⟨RX10, "howMany", "()I"⟩
abbrev cX10_tellCarried : ByteArray := prog_12_method_41_code
def yX10_tellCarried : MethodName := ⟨RX10, "tellCarried", "(I)I"⟩
abbrev cX10_carried : ByteArray := prog_12_method_42_code
def yX10_carried : MethodName := ⟨RX10, "carried", "(II)I"⟩
abbrev cX10_draw : ByteArray := prog_12_method_43_code
def yX10_draw : MethodName := ⟨RX10, "draw", "(I)I"⟩
abbrev cX10_flood : ByteArray := prog_12_method_44_code
def yX10_flood : MethodName := ⟨RX10, "flood", "(I)I"⟩
abbrev cX10_looksOf : ByteArray := prog_12_method_45_code
def yX10_looksOf : MethodName := ⟨RX10, "looksOf", "()I"⟩
abbrev cX10_looks : ByteArray := prog_12_method_46_code
def yX10_looks : MethodName := ⟨RX10, "looks", "()I"⟩
abbrev cX10_was : ByteArray := prog_12_method_47_code
def yX10_was : MethodName := ⟨RX10, "was", "(II)I"⟩
abbrev cX10_isLast : ByteArray := prog_12_method_48_code
def yX10_isLast : MethodName := ⟨RX10, "isLast", "()Z"⟩
abbrev cX10_last : ByteArray := prog_12_method_49_code
def yX10_last : MethodName := ⟨RX10, "last", "(I)I"⟩
abbrev cX10_sure : ByteArray := prog_12_method_50_code
def yX10_sure : MethodName := ⟨RX10, "sure", "(I)I"⟩
abbrev cX10_oneSpring : ByteArray := prog_12_method_51_code
def yX10_oneSpring : MethodName := ⟨RX10, "oneSpring", "()V"⟩
abbrev cX10_burn : ByteArray := prog_12_method_52_code
def yX10_burn : MethodName := ⟨RX10, "burn", "()I"⟩
abbrev cX10_springs : ByteArray := prog_12_method_53_code
def yX10_springs : MethodName := ⟨RX10, "springs", "(II)I"⟩
abbrev cX10_image : ByteArray := prog_12_method_54_code
def yX10_image : MethodName := ⟨RX10, "image", "()I"⟩
abbrev cX10_restore : ByteArray := prog_12_method_55_code
def yX10_restore : MethodName := ⟨RX10, "restore", "()I"⟩
abbrev cX10_wheelsOf : ByteArray := prog_12_method_56_code
def yX10_wheelsOf : MethodName := ⟨RX10, "wheelsOf", "()I"⟩
abbrev cX10_countOf : ByteArray := prog_12_method_57_code
def yX10_countOf : MethodName := ⟨RX10, "countOf", "(I)I"⟩
abbrev cX10_count : ByteArray := prog_12_method_58_code
def yX10_count : MethodName := ⟨RX10, "count", "(I)I"⟩
abbrev cX10_say : ByteArray := prog_12_method_59_code
def yX10_say : MethodName := ⟨RX10, "say", "(J)V"⟩
abbrev cX10_sayStreet : ByteArray := prog_12_method_60_code
def yX10_sayStreet : MethodName := ⟨RX10, "sayStreet", "()V"⟩
abbrev cX10_digest : ByteArray := prog_12_method_61_code
def yX10_digest : MethodName := ⟨RX10, "digest", "()J"⟩
def RJ6 : String := "java/lang/Integer"
def TJ6 : u_T := fun k => match k with
  | _ => ("", "", "", false)
def tyJ6 : Nat → FieldType := fun k => match k with
  | _ => .int
abbrev wsJ60 : List Cond := u_ws RJ6 TJ6 0
theorem nmJ6 : ∀ a, a < 0 → ∀ b, b < 0 → a ≠ b → (TJ6 a).2.1 ≠ (TJ6 b).2.1 := by decide +kernel
theorem tyJ6_ok : ∀ k, k < 0 → parseFieldDescriptor (TJ6 k).2.2.1 = some (tyJ6 k) := by decide +kernel
abbrev cJ6_bitCount_0f7a4 : ByteArray := prog_13_method_49_code
def yJ6_bitCount_0f7a4 : MethodName := ⟨RJ6, "bitCount", "(I)I"⟩
def RJ9 : String := "java/lang/Math"
def TJ9 : u_T := fun k => match k with
  | _ => ("", "", "", false)
def tyJ9 : Nat → FieldType := fun k => match k with
  | _ => .int
abbrev wsJ90 : List Cond := u_ws RJ9 TJ9 0
theorem nmJ9 : ∀ a, a < 0 → ∀ b, b < 0 → a ≠ b → (TJ9 a).2.1 ≠ (TJ9 b).2.1 := by decide +kernel
theorem tyJ9_ok : ∀ k, k < 0 → parseFieldDescriptor (TJ9 k).2.2.1 = some (tyJ9 k) := by decide +kernel
abbrev cJ9_abs_0f7a4 : ByteArray := prog_14_method_59_code
def yJ9_abs_0f7a4 : MethodName := ⟨RJ9, "abs", "(I)I"⟩
abbrev cJ9_max_7cf53 : ByteArray := prog_14_method_65_code
def yJ9_max_7cf53 : MethodName := ⟨RJ9, "max", "(II)I"⟩
abbrev cJ9_min_7cf53 : ByteArray := prog_14_method_69_code
def yJ9_min_7cf53 : MethodName := ⟨RJ9, "min", "(II)I"⟩
def RJ10 : String := "java/lang/System"
def TJ10 : u_T := fun k => match k with
  | _ => ("", "", "", false)
def tyJ10 : Nat → FieldType := fun k => match k with
  | _ => .int
abbrev wsJ100 : List Cond := u_ws RJ10 TJ10 0
theorem nmJ10 : ∀ a, a < 0 → ∀ b, b < 0 → a ≠ b → (TJ10 a).2.1 ≠ (TJ10 b).2.1 := by decide +kernel
theorem tyJ10_ok : ∀ k, k < 0 → parseFieldDescriptor (TJ10 k).2.2.1 = some (tyJ10 k) := by decide +kernel
def RL : String := "PavedAnewLaw"
abbrev cL_law : ByteArray := code
def yL_law : MethodName := ⟨RL, "law", "([I)Z"⟩
abbrev vwCl : List vw_C := [(RX2, TX2, 3), (RX3, TX3, 4), (RX4, TX4, 4), (RX5, TX5, 7), (RX6, TX6, 2), (RX7, TX7, 2), (RX8, TX8, 8), (RX9, TX9, 13), (RX10, TX10, 32)]
end
section
theorem dX0_told_0 : decode cX0_told 0 = .ok (.iload_n 2, 1) := by decide +kernel
theorem dX0_told_1 : decode cX0_told 1 = .ok (.lookupswitch 44 #[(0, 27), (1, 38)], 27) := by decide +kernel
theorem dX0_told_28 : decode cX0_told 28 = .ok (.aload_n 0, 1) := by decide +kernel
theorem dX0_told_29 : decode cX0_told 29 = .ok (.aload_n 1, 1) := by decide +kernel
theorem dX0_told_30 : decode cX0_told 30 = .ok (.iconst 0, 1) := by decide +kernel
theorem dX0_told_31 : decode cX0_told 31 = .ok (.aload_n 1, 1) := by decide +kernel
theorem dX0_told_32 : decode cX0_told 32 = .ok (.invokevirtual 7, 3) := by decide +kernel
theorem dX0_told_35 : decode cX0_told 35 = .ok (.invokestatic 13, 3) := by decide +kernel
theorem dX0_told_38 : decode cX0_told 38 = .ok (.ireturn, 1) := by decide +kernel
theorem dX0_told_39 : decode cX0_told 39 = .ok (.aload_n 0, 1) := by decide +kernel
theorem dX0_told_40 : decode cX0_told 40 = .ok (.aload_n 1, 1) := by decide +kernel
theorem dX0_told_41 : decode cX0_told 41 = .ok (.invokestatic 19, 3) := by decide +kernel
theorem dX0_told_44 : decode cX0_told 44 = .ok (.ireturn, 1) := by decide +kernel
theorem dX0_told_45 : decode cX0_told 45 = .ok (.aload_n 0, 1) := by decide +kernel
theorem dX0_told_46 : decode cX0_told 46 = .ok (.aload_n 1, 1) := by decide +kernel
theorem dX0_told_47 : decode cX0_told 47 = .ok (.invokestatic 23, 3) := by decide +kernel
theorem dX0_told_50 : decode cX0_told 50 = .ok (.ireturn, 1) := by decide +kernel
theorem dX0_wayTo_0 : decode cX0_wayTo 0 = .ok (.iconst 0, 1) := by decide +kernel
theorem dX0_wayTo_1 : decode cX0_wayTo 1 = .ok (.istore 4, 2) := by decide +kernel
theorem dX0_wayTo_3 : decode cX0_wayTo 3 = .ok (.iload_n 2, 1) := by decide +kernel
theorem dX0_wayTo_4 : decode cX0_wayTo 4 = .ok (.istore 5, 2) := by decide +kernel
theorem dX0_wayTo_6 : decode cX0_wayTo 6 = .ok (.iload 5, 2) := by decide +kernel
theorem dX0_wayTo_8 : decode cX0_wayTo 8 = .ok (.iload_n 3, 1) := by decide +kernel
theorem dX0_wayTo_9 : decode cX0_wayTo 9 = .ok (.if_icmp .ge 30, 3) := by decide +kernel
theorem dX0_wayTo_12 : decode cX0_wayTo 12 = .ok (.iload 4, 2) := by decide +kernel
theorem dX0_wayTo_14 : decode cX0_wayTo 14 = .ok (.aload_n 0, 1) := by decide +kernel
theorem dX0_wayTo_15 : decode cX0_wayTo 15 = .ok (.aload_n 1, 1) := by decide +kernel
theorem dX0_wayTo_16 : decode cX0_wayTo 16 = .ok (.iload 5, 2) := by decide +kernel
theorem dX0_wayTo_18 : decode cX0_wayTo 18 = .ok (.invokevirtual 26, 3) := by decide +kernel
theorem dX0_wayTo_21 : decode cX0_wayTo 21 = .ok (.invokevirtual 30, 3) := by decide +kernel
theorem dX0_wayTo_24 : decode cX0_wayTo 24 = .ok (.iload 5, 2) := by decide +kernel
theorem dX0_wayTo_26 : decode cX0_wayTo 26 = .ok (.isub, 1) := by decide +kernel
theorem dX0_wayTo_27 : decode cX0_wayTo 27 = .ok (.invokestatic 35, 3) := by decide +kernel
theorem dX0_wayTo_30 : decode cX0_wayTo 30 = .ok (.iadd, 1) := by decide +kernel
theorem dX0_wayTo_31 : decode cX0_wayTo 31 = .ok (.istore 4, 2) := by decide +kernel
theorem dX0_wayTo_33 : decode cX0_wayTo 33 = .ok (.iinc 5 1, 3) := by decide +kernel
theorem dX0_wayTo_36 : decode cX0_wayTo 36 = .ok (.goto (-30), 3) := by decide +kernel
theorem dX0_wayTo_39 : decode cX0_wayTo 39 = .ok (.iload 4, 2) := by decide +kernel
theorem dX0_wayTo_41 : decode cX0_wayTo 41 = .ok (.ireturn, 1) := by decide +kernel
theorem dX0_greaterGang_0 : decode cX0_greaterGang 0 = .ok (.aload_n 1, 1) := by decide +kernel
theorem dX0_greaterGang_1 : decode cX0_greaterGang 1 = .ok (.invokevirtual 7, 3) := by decide +kernel
theorem dX0_greaterGang_4 : decode cX0_greaterGang 4 = .ok (.iconst 2, 1) := by decide +kernel
theorem dX0_greaterGang_5 : decode cX0_greaterGang 5 = .ok (.idiv, 1) := by decide +kernel
theorem dX0_greaterGang_6 : decode cX0_greaterGang 6 = .ok (.istore_n 2, 1) := by decide +kernel
theorem dX0_greaterGang_7 : decode cX0_greaterGang 7 = .ok (.aload_n 0, 1) := by decide +kernel
theorem dX0_greaterGang_8 : decode cX0_greaterGang 8 = .ok (.aload_n 1, 1) := by decide +kernel
theorem dX0_greaterGang_9 : decode cX0_greaterGang 9 = .ok (.iconst 0, 1) := by decide +kernel
theorem dX0_greaterGang_10 : decode cX0_greaterGang 10 = .ok (.iload_n 2, 1) := by decide +kernel
theorem dX0_greaterGang_11 : decode cX0_greaterGang 11 = .ok (.invokestatic 13, 3) := by decide +kernel
theorem dX0_greaterGang_14 : decode cX0_greaterGang 14 = .ok (.aload_n 0, 1) := by decide +kernel
theorem dX0_greaterGang_15 : decode cX0_greaterGang 15 = .ok (.aload_n 1, 1) := by decide +kernel
theorem dX0_greaterGang_16 : decode cX0_greaterGang 16 = .ok (.iload_n 2, 1) := by decide +kernel
theorem dX0_greaterGang_17 : decode cX0_greaterGang 17 = .ok (.aload_n 1, 1) := by decide +kernel
theorem dX0_greaterGang_18 : decode cX0_greaterGang 18 = .ok (.invokevirtual 7, 3) := by decide +kernel
theorem dX0_greaterGang_21 : decode cX0_greaterGang 21 = .ok (.invokestatic 13, 3) := by decide +kernel
theorem dX0_greaterGang_24 : decode cX0_greaterGang 24 = .ok (.invokestatic 40, 3) := by decide +kernel
theorem dX0_greaterGang_27 : decode cX0_greaterGang 27 = .ok (.ireturn, 1) := by decide +kernel
theorem dX0_exchangesTo_0 : decode cX0_exchangesTo 0 = .ok (.iconst 0, 1) := by decide +kernel
theorem dX0_exchangesTo_1 : decode cX0_exchangesTo 1 = .ok (.istore_n 2, 1) := by decide +kernel
theorem dX0_exchangesTo_2 : decode cX0_exchangesTo 2 = .ok (.iconst 0, 1) := by decide +kernel
theorem dX0_exchangesTo_3 : decode cX0_exchangesTo 3 = .ok (.istore_n 3, 1) := by decide +kernel
theorem dX0_exchangesTo_4 : decode cX0_exchangesTo 4 = .ok (.iconst 0, 1) := by decide +kernel
theorem dX0_exchangesTo_5 : decode cX0_exchangesTo 5 = .ok (.istore 4, 2) := by decide +kernel
theorem dX0_exchangesTo_7 : decode cX0_exchangesTo 7 = .ok (.iload 4, 2) := by decide +kernel
theorem dX0_exchangesTo_9 : decode cX0_exchangesTo 9 = .ok (.aload_n 1, 1) := by decide +kernel
theorem dX0_exchangesTo_10 : decode cX0_exchangesTo 10 = .ok (.invokevirtual 7, 3) := by decide +kernel
theorem dX0_exchangesTo_13 : decode cX0_exchangesTo 13 = .ok (.if_icmp .ge 30, 3) := by decide +kernel
theorem dX0_exchangesTo_16 : decode cX0_exchangesTo 16 = .ok (.iload_n 3, 1) := by decide +kernel
theorem dX0_exchangesTo_17 : decode cX0_exchangesTo 17 = .ok (.iload 4, 2) := by decide +kernel
theorem dX0_exchangesTo_19 : decode cX0_exchangesTo 19 = .ok (.ishr, 1) := by decide +kernel
theorem dX0_exchangesTo_20 : decode cX0_exchangesTo 20 = .ok (.iconst 1, 1) := by decide +kernel
theorem dX0_exchangesTo_21 : decode cX0_exchangesTo 21 = .ok (.iand, 1) := by decide +kernel
theorem dX0_exchangesTo_22 : decode cX0_exchangesTo 22 = .ok (.ifCond .ne 15, 3) := by decide +kernel
theorem dX0_exchangesTo_25 : decode cX0_exchangesTo 25 = .ok (.iinc 2 1, 3) := by decide +kernel
theorem dX0_exchangesTo_28 : decode cX0_exchangesTo 28 = .ok (.aload_n 0, 1) := by decide +kernel
theorem dX0_exchangesTo_29 : decode cX0_exchangesTo 29 = .ok (.aload_n 1, 1) := by decide +kernel
theorem dX0_exchangesTo_30 : decode cX0_exchangesTo 30 = .ok (.iload 4, 2) := by decide +kernel
theorem dX0_exchangesTo_32 : decode cX0_exchangesTo 32 = .ok (.iload_n 3, 1) := by decide +kernel
theorem dX0_exchangesTo_33 : decode cX0_exchangesTo 33 = .ok (.invokestatic 44, 3) := by decide +kernel
theorem dX0_exchangesTo_36 : decode cX0_exchangesTo 36 = .ok (.istore_n 3, 1) := by decide +kernel
theorem dX0_exchangesTo_37 : decode cX0_exchangesTo 37 = .ok (.iinc 4 1, 3) := by decide +kernel
theorem dX0_exchangesTo_40 : decode cX0_exchangesTo 40 = .ok (.goto (-33), 3) := by decide +kernel
theorem dX0_exchangesTo_43 : decode cX0_exchangesTo 43 = .ok (.aload_n 1, 1) := by decide +kernel
theorem dX0_exchangesTo_44 : decode cX0_exchangesTo 44 = .ok (.invokevirtual 7, 3) := by decide +kernel
theorem dX0_exchangesTo_47 : decode cX0_exchangesTo 47 = .ok (.iload_n 2, 1) := by decide +kernel
theorem dX0_exchangesTo_48 : decode cX0_exchangesTo 48 = .ok (.isub, 1) := by decide +kernel
theorem dX0_exchangesTo_49 : decode cX0_exchangesTo 49 = .ok (.ireturn, 1) := by decide +kernel
theorem dX0_ringFrom_0 : decode cX0_ringFrom 0 = .ok (.iload_n 3, 1) := by decide +kernel
theorem dX0_ringFrom_1 : decode cX0_ringFrom 1 = .ok (.istore 4, 2) := by decide +kernel
theorem dX0_ringFrom_3 : decode cX0_ringFrom 3 = .ok (.iload_n 2, 1) := by decide +kernel
theorem dX0_ringFrom_4 : decode cX0_ringFrom 4 = .ok (.istore 5, 2) := by decide +kernel
theorem dX0_ringFrom_6 : decode cX0_ringFrom 6 = .ok (.iconst 0, 1) := by decide +kernel
theorem dX0_ringFrom_7 : decode cX0_ringFrom 7 = .ok (.istore 6, 2) := by decide +kernel
theorem dX0_ringFrom_9 : decode cX0_ringFrom 9 = .ok (.iload 6, 2) := by decide +kernel
theorem dX0_ringFrom_11 : decode cX0_ringFrom 11 = .ok (.aload_n 1, 1) := by decide +kernel
theorem dX0_ringFrom_12 : decode cX0_ringFrom 12 = .ok (.invokevirtual 7, 3) := by decide +kernel
theorem dX0_ringFrom_15 : decode cX0_ringFrom 15 = .ok (.if_icmp .ge 30, 3) := by decide +kernel
theorem dX0_ringFrom_18 : decode cX0_ringFrom 18 = .ok (.iload 4, 2) := by decide +kernel
theorem dX0_ringFrom_20 : decode cX0_ringFrom 20 = .ok (.iconst 1, 1) := by decide +kernel
theorem dX0_ringFrom_21 : decode cX0_ringFrom 21 = .ok (.iload 5, 2) := by decide +kernel
theorem dX0_ringFrom_23 : decode cX0_ringFrom 23 = .ok (.ishl, 1) := by decide +kernel
theorem dX0_ringFrom_24 : decode cX0_ringFrom 24 = .ok (.ior, 1) := by decide +kernel
theorem dX0_ringFrom_25 : decode cX0_ringFrom 25 = .ok (.istore 4, 2) := by decide +kernel
theorem dX0_ringFrom_27 : decode cX0_ringFrom 27 = .ok (.aload_n 0, 1) := by decide +kernel
theorem dX0_ringFrom_28 : decode cX0_ringFrom 28 = .ok (.aload_n 1, 1) := by decide +kernel
theorem dX0_ringFrom_29 : decode cX0_ringFrom 29 = .ok (.iload 5, 2) := by decide +kernel
theorem dX0_ringFrom_31 : decode cX0_ringFrom 31 = .ok (.invokevirtual 26, 3) := by decide +kernel
theorem dX0_ringFrom_34 : decode cX0_ringFrom 34 = .ok (.invokevirtual 30, 3) := by decide +kernel
theorem dX0_ringFrom_37 : decode cX0_ringFrom 37 = .ok (.istore 5, 2) := by decide +kernel
theorem dX0_ringFrom_39 : decode cX0_ringFrom 39 = .ok (.iinc 6 1, 3) := by decide +kernel
theorem dX0_ringFrom_42 : decode cX0_ringFrom 42 = .ok (.goto (-33), 3) := by decide +kernel
theorem dX0_ringFrom_45 : decode cX0_ringFrom 45 = .ok (.iload 4, 2) := by decide +kernel
theorem dX0_ringFrom_47 : decode cX0_ringFrom 47 = .ok (.ireturn, 1) := by decide +kernel
theorem dX1_swim_0 : decode cX1_swim 0 = .ok (.iload_n 1, 1) := by decide +kernel
theorem dX1_swim_1 : decode cX1_swim 1 = .ok (.istore_n 2, 1) := by decide +kernel
theorem dX1_swim_2 : decode cX1_swim 2 = .ok (.aload_n 0, 1) := by decide +kernel
theorem dX1_swim_3 : decode cX1_swim 3 = .ok (.invokevirtual 7, 3) := by decide +kernel
theorem dX1_swim_6 : decode cX1_swim 6 = .ok (.iconst 1, 1) := by decide +kernel
theorem dX1_swim_7 : decode cX1_swim 7 = .ok (.isub, 1) := by decide +kernel
theorem dX1_swim_8 : decode cX1_swim 8 = .ok (.istore_n 3, 1) := by decide +kernel
theorem dX1_swim_9 : decode cX1_swim 9 = .ok (.iload_n 3, 1) := by decide +kernel
theorem dX1_swim_10 : decode cX1_swim 10 = .ok (.iconst 1, 1) := by decide +kernel
theorem dX1_swim_11 : decode cX1_swim 11 = .ok (.if_icmp .lt 49, 3) := by decide +kernel
theorem dX1_swim_14 : decode cX1_swim 14 = .ok (.iload_n 2, 1) := by decide +kernel
theorem dX1_swim_15 : decode cX1_swim 15 = .ok (.invokestatic 13, 3) := by decide +kernel
theorem dX1_swim_18 : decode cX1_swim 18 = .ok (.istore_n 2, 1) := by decide +kernel
theorem dX1_swim_19 : decode cX1_swim 19 = .ok (.aload_n 0, 1) := by decide +kernel
theorem dX1_swim_20 : decode cX1_swim 20 = .ok (.iload_n 3, 1) := by decide +kernel
theorem dX1_swim_21 : decode cX1_swim 21 = .ok (.iload_n 2, 1) := by decide +kernel
theorem dX1_swim_22 : decode cX1_swim 22 = .ok (.iload_n 3, 1) := by decide +kernel
theorem dX1_swim_23 : decode cX1_swim 23 = .ok (.iconst 1, 1) := by decide +kernel
theorem dX1_swim_24 : decode cX1_swim 24 = .ok (.iadd, 1) := by decide +kernel
theorem dX1_swim_25 : decode cX1_swim 25 = .ok (.invokestatic 19, 3) := by decide +kernel
theorem dX1_swim_28 : decode cX1_swim 28 = .ok (.invokevirtual 23, 3) := by decide +kernel
theorem dX1_swim_31 : decode cX1_swim 31 = .ok (.iload_n 2, 1) := by decide +kernel
theorem dX1_swim_32 : decode cX1_swim 32 = .ok (.invokestatic 13, 3) := by decide +kernel
theorem dX1_swim_35 : decode cX1_swim 35 = .ok (.istore_n 2, 1) := by decide +kernel
theorem dX1_swim_36 : decode cX1_swim 36 = .ok (.iload_n 2, 1) := by decide +kernel
theorem dX1_swim_37 : decode cX1_swim 37 = .ok (.iconst 2, 1) := by decide +kernel
theorem dX1_swim_38 : decode cX1_swim 38 = .ok (.invokestatic 19, 3) := by decide +kernel
theorem dX1_swim_41 : decode cX1_swim 41 = .ok (.iconst 1, 1) := by decide +kernel
theorem dX1_swim_42 : decode cX1_swim 42 = .ok (.if_icmp .ne 12, 3) := by decide +kernel
theorem dX1_swim_45 : decode cX1_swim 45 = .ok (.aload_n 0, 1) := by decide +kernel
theorem dX1_swim_46 : decode cX1_swim 46 = .ok (.aload_n 0, 1) := by decide +kernel
theorem dX1_swim_47 : decode cX1_swim 47 = .ok (.iload_n 3, 1) := by decide +kernel
theorem dX1_swim_48 : decode cX1_swim 48 = .ok (.invokevirtual 27, 3) := by decide +kernel
theorem dX1_swim_51 : decode cX1_swim 51 = .ok (.invokevirtual 30, 3) := by decide +kernel
theorem dX1_swim_54 : decode cX1_swim 54 = .ok (.iinc 3 (-1), 3) := by decide +kernel
theorem dX1_swim_57 : decode cX1_swim 57 = .ok (.goto (-48), 3) := by decide +kernel
theorem dX1_swim_60 : decode cX1_swim 60 = .ok (.iload_n 2, 1) := by decide +kernel
theorem dX1_swim_61 : decode cX1_swim 61 = .ok (.ireturn, 1) := by decide +kernel
theorem dX1_nextSeed_0 : decode cX1_nextSeed 0 = .ok (.ldc2_w 34, 3) := by decide +kernel
theorem dX1_nextSeed_3 : decode cX1_nextSeed 3 = .ok (.iload_n 0, 1) := by decide +kernel
theorem dX1_nextSeed_4 : decode cX1_nextSeed 4 = .ok (.i2l, 1) := by decide +kernel
theorem dX1_nextSeed_5 : decode cX1_nextSeed 5 = .ok (.lmul, 1) := by decide +kernel
theorem dX1_nextSeed_6 : decode cX1_nextSeed 6 = .ok (.ldc2_w 36, 3) := by decide +kernel
theorem dX1_nextSeed_9 : decode cX1_nextSeed 9 = .ok (.ladd, 1) := by decide +kernel
theorem dX1_nextSeed_10 : decode cX1_nextSeed 10 = .ok (.ldc2_w 38, 3) := by decide +kernel
theorem dX1_nextSeed_13 : decode cX1_nextSeed 13 = .ok (.land, 1) := by decide +kernel
theorem dX1_nextSeed_14 : decode cX1_nextSeed 14 = .ok (.l2i, 1) := by decide +kernel
theorem dX1_nextSeed_15 : decode cX1_nextSeed 15 = .ok (.ireturn, 1) := by decide +kernel
theorem dX1_rest_0 : decode cX1_rest 0 = .ok (.iload_n 1, 1) := by decide +kernel
theorem dX1_rest_1 : decode cX1_rest 1 = .ok (.ifCond .le 12, 3) := by decide +kernel
theorem dX1_rest_4 : decode cX1_rest 4 = .ok (.iload_n 0, 1) := by decide +kernel
theorem dX1_rest_5 : decode cX1_rest 5 = .ok (.ldc 40, 2) := by decide +kernel
theorem dX1_rest_7 : decode cX1_rest 7 = .ok (.idiv, 1) := by decide +kernel
theorem dX1_rest_8 : decode cX1_rest 8 = .ok (.iload_n 1, 1) := by decide +kernel
theorem dX1_rest_9 : decode cX1_rest 9 = .ok (.irem, 1) := by decide +kernel
theorem dX1_rest_10 : decode cX1_rest 10 = .ok (.goto 4, 3) := by decide +kernel
theorem dX1_rest_13 : decode cX1_rest 13 = .ok (.iconst 0, 1) := by decide +kernel
theorem dX1_rest_14 : decode cX1_rest 14 = .ok (.ireturn, 1) := by decide +kernel
theorem dX2_init_0 : decode cX2_init 0 = .ok (.aload_n 0, 1) := by decide +kernel
theorem dX2_init_1 : decode cX2_init 1 = .ok (.invokespecial 3, 3) := by decide +kernel
theorem dX2_init_4 : decode cX2_init 4 = .ok (.aload_n 0, 1) := by decide +kernel
theorem dX2_init_5 : decode cX2_init 5 = .ok (.new 9, 3) := by decide +kernel
theorem dX2_init_8 : decode cX2_init 8 = .ok (.dup, 1) := by decide +kernel
theorem dX2_init_9 : decode cX2_init 9 = .ok (.invokespecial 11, 3) := by decide +kernel
theorem dX2_init_12 : decode cX2_init 12 = .ok (.putfield 12, 3) := by decide +kernel
theorem dX2_init_15 : decode cX2_init 15 = .ok (.return_, 1) := by decide +kernel
theorem dX2_run_0 : decode cX2_run 0 = .ok (.aload_n 0, 1) := by decide +kernel
theorem dX2_run_1 : decode cX2_run 1 = .ok (.getfield 12, 3) := by decide +kernel
theorem dX2_run_4 : decode cX2_run 4 = .ok (.aload_n 1, 1) := by decide +kernel
theorem dX2_run_5 : decode cX2_run 5 = .ok (.invokevirtual 18, 3) := by decide +kernel
theorem dX2_run_8 : decode cX2_run 8 = .ok (.aload_n 0, 1) := by decide +kernel
theorem dX2_run_9 : decode cX2_run 9 = .ok (.iconst 0, 1) := by decide +kernel
theorem dX2_run_10 : decode cX2_run 10 = .ok (.putfield 22, 3) := by decide +kernel
theorem dX2_run_13 : decode cX2_run 13 = .ok (.aload_n 0, 1) := by decide +kernel
theorem dX2_run_14 : decode cX2_run 14 = .ok (.iconst (-1), 1) := by decide +kernel
theorem dX2_run_15 : decode cX2_run 15 = .ok (.putfield 26, 3) := by decide +kernel
theorem dX2_run_18 : decode cX2_run 18 = .ok (.iconst 1, 1) := by decide +kernel
theorem dX2_run_19 : decode cX2_run 19 = .ok (.istore 5, 2) := by decide +kernel
theorem dX2_run_21 : decode cX2_run 21 = .ok (.iload 5, 2) := by decide +kernel
theorem dX2_run_23 : decode cX2_run 23 = .ok (.iload 4, 2) := by decide +kernel
theorem dX2_run_25 : decode cX2_run 25 = .ok (.if_icmp .gt 64, 3) := by decide +kernel
theorem dX2_run_28 : decode cX2_run 28 = .ok (.aload_n 3, 1) := by decide +kernel
theorem dX2_run_29 : decode cX2_run 29 = .ok (.aload_n 0, 1) := by decide +kernel
theorem dX2_run_30 : decode cX2_run 30 = .ok (.getfield 12, 3) := by decide +kernel
theorem dX2_run_33 : decode cX2_run 33 = .ok (.aload_n 2, 1) := by decide +kernel
theorem dX2_run_34 : decode cX2_run 34 = .ok (.invokevirtual 29, 3) := by decide +kernel
theorem dX2_run_37 : decode cX2_run 37 = .ok (.aload_n 3, 1) := by decide +kernel
theorem dX2_run_38 : decode cX2_run 38 = .ok (.invokevirtual 35, 3) := by decide +kernel
theorem dX2_run_41 : decode cX2_run 41 = .ok (.ifCond .le 18, 3) := by decide +kernel
theorem dX2_run_44 : decode cX2_run 44 = .ok (.aload_n 0, 1) := by decide +kernel
theorem dX2_run_45 : decode cX2_run 45 = .ok (.getfield 12, 3) := by decide +kernel
theorem dX2_run_48 : decode cX2_run 48 = .ok (.aload_n 3, 1) := by decide +kernel
theorem dX2_run_49 : decode cX2_run 49 = .ok (.invokevirtual 39, 3) := by decide +kernel
theorem dX2_run_52 : decode cX2_run 52 = .ok (.aload_n 2, 1) := by decide +kernel
theorem dX2_run_53 : decode cX2_run 53 = .ok (.invokevirtual 43, 3) := by decide +kernel
theorem dX2_run_56 : decode cX2_run 56 = .ok (.invokevirtual 49, 3) := by decide +kernel
theorem dX2_run_59 : decode cX2_run 59 = .ok (.aload_n 0, 1) := by decide +kernel
theorem dX2_run_60 : decode cX2_run 60 = .ok (.getfield 12, 3) := by decide +kernel
theorem dX2_run_63 : decode cX2_run 63 = .ok (.invokevirtual 53, 3) := by decide +kernel
theorem dX2_run_66 : decode cX2_run 66 = .ok (.aload_n 0, 1) := by decide +kernel
theorem dX2_run_67 : decode cX2_run 67 = .ok (.iload 5, 2) := by decide +kernel
theorem dX2_run_69 : decode cX2_run 69 = .ok (.aload_n 0, 1) := by decide +kernel
theorem dX2_run_70 : decode cX2_run 70 = .ok (.getfield 12, 3) := by decide +kernel
theorem dX2_run_73 : decode cX2_run 73 = .ok (.aload_n 2, 1) := by decide +kernel
theorem dX2_run_74 : decode cX2_run 74 = .ok (.invokevirtual 56, 3) := by decide +kernel
theorem dX2_run_77 : decode cX2_run 77 = .ok (.invokevirtual 59, 3) := by decide +kernel
theorem dX2_run_80 : decode cX2_run 80 = .ok (.invokevirtual 63, 3) := by decide +kernel
theorem dX2_run_83 : decode cX2_run 83 = .ok (.iinc 5 1, 3) := by decide +kernel
theorem dX2_run_86 : decode cX2_run 86 = .ok (.goto (-65), 3) := by decide +kernel
theorem dX2_run_89 : decode cX2_run 89 = .ok (.return_, 1) := by decide +kernel
theorem dX2_note_0 : decode cX2_note 0 = .ok (.iload_n 2, 1) := by decide +kernel
theorem dX2_note_1 : decode cX2_note 1 = .ok (.ifCond .le 16, 3) := by decide +kernel
theorem dX2_note_4 : decode cX2_note 4 = .ok (.aload_n 0, 1) := by decide +kernel
theorem dX2_note_5 : decode cX2_note 5 = .ok (.getfield 26, 3) := by decide +kernel
theorem dX2_note_8 : decode cX2_note 8 = .ok (.iconst (-1), 1) := by decide +kernel
theorem dX2_note_9 : decode cX2_note 9 = .ok (.if_icmp .ne 8, 3) := by decide +kernel
theorem dX2_note_12 : decode cX2_note 12 = .ok (.aload_n 0, 1) := by decide +kernel
theorem dX2_note_13 : decode cX2_note 13 = .ok (.iload_n 1, 1) := by decide +kernel
theorem dX2_note_14 : decode cX2_note 14 = .ok (.putfield 26, 3) := by decide +kernel
theorem dX2_note_17 : decode cX2_note 17 = .ok (.aload_n 0, 1) := by decide +kernel
theorem dX2_note_18 : decode cX2_note 18 = .ok (.dup, 1) := by decide +kernel
theorem dX2_note_19 : decode cX2_note 19 = .ok (.getfield 22, 3) := by decide +kernel
theorem dX2_note_22 : decode cX2_note 22 = .ok (.iload_n 2, 1) := by decide +kernel
theorem dX2_note_23 : decode cX2_note 23 = .ok (.iadd, 1) := by decide +kernel
theorem dX2_note_24 : decode cX2_note 24 = .ok (.putfield 22, 3) := by decide +kernel
theorem dX2_note_27 : decode cX2_note 27 = .ok (.return_, 1) := by decide +kernel
theorem dX2_told_0 : decode cX2_told 0 = .ok (.iload_n 1, 1) := by decide +kernel
theorem dX2_told_1 : decode cX2_told 1 = .ok (.lookupswitch 37 #[(0, 27), (1, 32)], 27) := by decide +kernel
theorem dX2_told_28 : decode cX2_told 28 = .ok (.aload_n 0, 1) := by decide +kernel
theorem dX2_told_29 : decode cX2_told 29 = .ok (.getfield 22, 3) := by decide +kernel
theorem dX2_told_32 : decode cX2_told 32 = .ok (.ireturn, 1) := by decide +kernel
theorem dX2_told_33 : decode cX2_told 33 = .ok (.aload_n 0, 1) := by decide +kernel
theorem dX2_told_34 : decode cX2_told 34 = .ok (.getfield 26, 3) := by decide +kernel
theorem dX2_told_37 : decode cX2_told 37 = .ok (.ireturn, 1) := by decide +kernel
theorem dX2_told_38 : decode cX2_told 38 = .ok (.aload_n 0, 1) := by decide +kernel
theorem dX2_told_39 : decode cX2_told 39 = .ok (.getfield 12, 3) := by decide +kernel
theorem dX2_told_42 : decode cX2_told 42 = .ok (.invokevirtual 67, 3) := by decide +kernel
theorem dX2_told_45 : decode cX2_told 45 = .ok (.ireturn, 1) := by decide +kernel
theorem dX3_init_0 : decode cX3_init 0 = .ok (.aload_n 0, 1) := by decide +kernel
theorem dX3_init_1 : decode cX3_init 1 = .ok (.invokespecial 3, 3) := by decide +kernel
theorem dX3_init_4 : decode cX3_init 4 = .ok (.aload_n 0, 1) := by decide +kernel
theorem dX3_init_5 : decode cX3_init 5 = .ok (.sipush 128, 3) := by decide +kernel
theorem dX3_init_8 : decode cX3_init 8 = .ok (.newarray .int, 2) := by decide +kernel
theorem dX3_init_10 : decode cX3_init 10 = .ok (.putfield 11, 3) := by decide +kernel
theorem dX3_init_13 : decode cX3_init 13 = .ok (.aload_n 0, 1) := by decide +kernel
theorem dX3_init_14 : decode cX3_init 14 = .ok (.bipush 7, 2) := by decide +kernel
theorem dX3_init_16 : decode cX3_init 16 = .ok (.newarray .int, 2) := by decide +kernel
theorem dX3_init_18 : decode cX3_init 18 = .ok (.putfield 15, 3) := by decide +kernel
theorem dX3_init_21 : decode cX3_init 21 = .ok (.aload_n 0, 1) := by decide +kernel
theorem dX3_init_22 : decode cX3_init 22 = .ok (.new 18, 3) := by decide +kernel
theorem dX3_init_25 : decode cX3_init 25 = .ok (.dup, 1) := by decide +kernel
theorem dX3_init_26 : decode cX3_init 26 = .ok (.invokespecial 20, 3) := by decide +kernel
theorem dX3_init_29 : decode cX3_init 29 = .ok (.putfield 21, 3) := by decide +kernel
theorem dX3_init_32 : decode cX3_init 32 = .ok (.return_, 1) := by decide +kernel
theorem dX3_study_0 : decode cX3_study 0 = .ok (.aload_n 0, 1) := by decide +kernel
theorem dX3_study_1 : decode cX3_study 1 = .ok (.aload_n 1, 1) := by decide +kernel
theorem dX3_study_2 : decode cX3_study 2 = .ok (.invokevirtual 25, 3) := by decide +kernel
theorem dX3_study_5 : decode cX3_study 5 = .ok (.putfield 31, 3) := by decide +kernel
theorem dX3_study_8 : decode cX3_study 8 = .ok (.iconst 0, 1) := by decide +kernel
theorem dX3_study_9 : decode cX3_study 9 = .ok (.istore_n 2, 1) := by decide +kernel
theorem dX3_study_10 : decode cX3_study 10 = .ok (.iload_n 2, 1) := by decide +kernel
theorem dX3_study_11 : decode cX3_study 11 = .ok (.aload_n 0, 1) := by decide +kernel
theorem dX3_study_12 : decode cX3_study 12 = .ok (.getfield 31, 3) := by decide +kernel
theorem dX3_study_15 : decode cX3_study 15 = .ok (.if_icmp .ge 20, 3) := by decide +kernel
theorem dX3_study_18 : decode cX3_study 18 = .ok (.aload_n 0, 1) := by decide +kernel
theorem dX3_study_19 : decode cX3_study 19 = .ok (.getfield 15, 3) := by decide +kernel
theorem dX3_study_22 : decode cX3_study 22 = .ok (.iload_n 2, 1) := by decide +kernel
theorem dX3_study_23 : decode cX3_study 23 = .ok (.aload_n 1, 1) := by decide +kernel
theorem dX3_study_24 : decode cX3_study 24 = .ok (.iload_n 2, 1) := by decide +kernel
theorem dX3_study_25 : decode cX3_study 25 = .ok (.invokestatic 34, 3) := by decide +kernel
theorem dX3_study_28 : decode cX3_study 28 = .ok (.iastore, 1) := by decide +kernel
theorem dX3_study_29 : decode cX3_study 29 = .ok (.iinc 2 1, 3) := by decide +kernel
theorem dX3_study_32 : decode cX3_study 32 = .ok (.goto (-22), 3) := by decide +kernel
theorem dX3_study_35 : decode cX3_study 35 = .ok (.aload_n 0, 1) := by decide +kernel
theorem dX3_study_36 : decode cX3_study 36 = .ok (.invokevirtual 38, 3) := by decide +kernel
theorem dX3_study_39 : decode cX3_study 39 = .ok (.return_, 1) := by decide +kernel
theorem dX3_ordersFound_0 : decode cX3_ordersFound 0 = .ok (.aload_n 0, 1) := by decide +kernel
theorem dX3_ordersFound_1 : decode cX3_ordersFound 1 = .ok (.getfield 11, 3) := by decide +kernel
theorem dX3_ordersFound_4 : decode cX3_ordersFound 4 = .ok (.iconst 0, 1) := by decide +kernel
theorem dX3_ordersFound_5 : decode cX3_ordersFound 5 = .ok (.iaload, 1) := by decide +kernel
theorem dX3_ordersFound_6 : decode cX3_ordersFound 6 = .ok (.ireturn, 1) := by decide +kernel
theorem dX3_firstOrder_0 : decode cX3_firstOrder 0 = .ok (.aload_n 0, 1) := by decide +kernel
theorem dX3_firstOrder_1 : decode cX3_firstOrder 1 = .ok (.getfield 21, 3) := by decide +kernel
theorem dX3_firstOrder_4 : decode cX3_firstOrder 4 = .ok (.invokevirtual 41, 3) := by decide +kernel
theorem dX3_firstOrder_7 : decode cX3_firstOrder 7 = .ok (.iconst 0, 1) := by decide +kernel
theorem dX3_firstOrder_8 : decode cX3_firstOrder 8 = .ok (.istore_n 1, 1) := by decide +kernel
theorem dX3_firstOrder_9 : decode cX3_firstOrder 9 = .ok (.iconst 0, 1) := by decide +kernel
theorem dX3_firstOrder_10 : decode cX3_firstOrder 10 = .ok (.istore_n 2, 1) := by decide +kernel
theorem dX3_firstOrder_11 : decode cX3_firstOrder 11 = .ok (.iload_n 2, 1) := by decide +kernel
theorem dX3_firstOrder_12 : decode cX3_firstOrder 12 = .ok (.aload_n 0, 1) := by decide +kernel
theorem dX3_firstOrder_13 : decode cX3_firstOrder 13 = .ok (.getfield 31, 3) := by decide +kernel
theorem dX3_firstOrder_16 : decode cX3_firstOrder 16 = .ok (.if_icmp .ge 30, 3) := by decide +kernel
theorem dX3_firstOrder_19 : decode cX3_firstOrder 19 = .ok (.aload_n 0, 1) := by decide +kernel
theorem dX3_firstOrder_20 : decode cX3_firstOrder 20 = .ok (.iload_n 1, 1) := by decide +kernel
theorem dX3_firstOrder_21 : decode cX3_firstOrder 21 = .ok (.iload_n 2, 1) := by decide +kernel
theorem dX3_firstOrder_22 : decode cX3_firstOrder 22 = .ok (.invokevirtual 44, 3) := by decide +kernel
theorem dX3_firstOrder_25 : decode cX3_firstOrder 25 = .ok (.istore_n 3, 1) := by decide +kernel
theorem dX3_firstOrder_26 : decode cX3_firstOrder 26 = .ok (.iload_n 1, 1) := by decide +kernel
theorem dX3_firstOrder_27 : decode cX3_firstOrder 27 = .ok (.iconst 1, 1) := by decide +kernel
theorem dX3_firstOrder_28 : decode cX3_firstOrder 28 = .ok (.iload_n 3, 1) := by decide +kernel
theorem dX3_firstOrder_29 : decode cX3_firstOrder 29 = .ok (.ishl, 1) := by decide +kernel
theorem dX3_firstOrder_30 : decode cX3_firstOrder 30 = .ok (.ior, 1) := by decide +kernel
theorem dX3_firstOrder_31 : decode cX3_firstOrder 31 = .ok (.istore_n 1, 1) := by decide +kernel
theorem dX3_firstOrder_32 : decode cX3_firstOrder 32 = .ok (.aload_n 0, 1) := by decide +kernel
theorem dX3_firstOrder_33 : decode cX3_firstOrder 33 = .ok (.getfield 21, 3) := by decide +kernel
theorem dX3_firstOrder_36 : decode cX3_firstOrder 36 = .ok (.iload_n 3, 1) := by decide +kernel
theorem dX3_firstOrder_37 : decode cX3_firstOrder 37 = .ok (.invokevirtual 48, 3) := by decide +kernel
theorem dX3_firstOrder_40 : decode cX3_firstOrder 40 = .ok (.iinc 2 1, 3) := by decide +kernel
theorem dX3_firstOrder_43 : decode cX3_firstOrder 43 = .ok (.goto (-32), 3) := by decide +kernel
theorem dX3_firstOrder_46 : decode cX3_firstOrder 46 = .ok (.aload_n 0, 1) := by decide +kernel
theorem dX3_firstOrder_47 : decode cX3_firstOrder 47 = .ok (.getfield 21, 3) := by decide +kernel
theorem dX3_firstOrder_50 : decode cX3_firstOrder 50 = .ok (.areturn, 1) := by decide +kernel
theorem dX3_surePlaceOf_0 : decode cX3_surePlaceOf 0 = .ok (.aload_n 0, 1) := by decide +kernel
theorem dX3_surePlaceOf_1 : decode cX3_surePlaceOf 1 = .ok (.invokevirtual 52, 3) := by decide +kernel
theorem dX3_surePlaceOf_4 : decode cX3_surePlaceOf 4 = .ok (.ifCond .ne 5, 3) := by decide +kernel
theorem dX3_surePlaceOf_7 : decode cX3_surePlaceOf 7 = .ok (.iconst (-1), 1) := by decide +kernel
theorem dX3_surePlaceOf_8 : decode cX3_surePlaceOf 8 = .ok (.ireturn, 1) := by decide +kernel
theorem dX3_surePlaceOf_9 : decode cX3_surePlaceOf 9 = .ok (.aload_n 0, 1) := by decide +kernel
theorem dX3_surePlaceOf_10 : decode cX3_surePlaceOf 10 = .ok (.invokevirtual 55, 3) := by decide +kernel
theorem dX3_surePlaceOf_13 : decode cX3_surePlaceOf 13 = .ok (.iload_n 1, 1) := by decide +kernel
theorem dX3_surePlaceOf_14 : decode cX3_surePlaceOf 14 = .ok (.invokestatic 59, 3) := by decide +kernel
theorem dX3_surePlaceOf_17 : decode cX3_surePlaceOf 17 = .ok (.istore_n 2, 1) := by decide +kernel
theorem dX3_surePlaceOf_18 : decode cX3_surePlaceOf 18 = .ok (.aload_n 0, 1) := by decide +kernel
theorem dX3_surePlaceOf_19 : decode cX3_surePlaceOf 19 = .ok (.getfield 15, 3) := by decide +kernel
theorem dX3_surePlaceOf_22 : decode cX3_surePlaceOf 22 = .ok (.iload_n 1, 1) := by decide +kernel
theorem dX3_surePlaceOf_23 : decode cX3_surePlaceOf 23 = .ok (.dup2, 1) := by decide +kernel
theorem dX3_surePlaceOf_24 : decode cX3_surePlaceOf 24 = .ok (.iaload, 1) := by decide +kernel
theorem dX3_surePlaceOf_25 : decode cX3_surePlaceOf 25 = .ok (.iconst 1, 1) := by decide +kernel
theorem dX3_surePlaceOf_26 : decode cX3_surePlaceOf 26 = .ok (.iload_n 2, 1) := by decide +kernel
theorem dX3_surePlaceOf_27 : decode cX3_surePlaceOf 27 = .ok (.ishl, 1) := by decide +kernel
theorem dX3_surePlaceOf_28 : decode cX3_surePlaceOf 28 = .ok (.iconst (-1), 1) := by decide +kernel
theorem dX3_surePlaceOf_29 : decode cX3_surePlaceOf 29 = .ok (.ixor, 1) := by decide +kernel
theorem dX3_surePlaceOf_30 : decode cX3_surePlaceOf 30 = .ok (.iand, 1) := by decide +kernel
theorem dX3_surePlaceOf_31 : decode cX3_surePlaceOf 31 = .ok (.iastore, 1) := by decide +kernel
theorem dX3_surePlaceOf_32 : decode cX3_surePlaceOf 32 = .ok (.aload_n 0, 1) := by decide +kernel
theorem dX3_surePlaceOf_33 : decode cX3_surePlaceOf 33 = .ok (.invokevirtual 38, 3) := by decide +kernel
theorem dX3_surePlaceOf_36 : decode cX3_surePlaceOf 36 = .ok (.aload_n 0, 1) := by decide +kernel
theorem dX3_surePlaceOf_37 : decode cX3_surePlaceOf 37 = .ok (.invokevirtual 52, 3) := by decide +kernel
theorem dX3_surePlaceOf_40 : decode cX3_surePlaceOf 40 = .ok (.ifCond .ne 7, 3) := by decide +kernel
theorem dX3_surePlaceOf_43 : decode cX3_surePlaceOf 43 = .ok (.iload_n 2, 1) := by decide +kernel
theorem dX3_surePlaceOf_44 : decode cX3_surePlaceOf 44 = .ok (.goto 4, 3) := by decide +kernel
theorem dX3_surePlaceOf_47 : decode cX3_surePlaceOf 47 = .ok (.iconst (-1), 1) := by decide +kernel
theorem dX3_surePlaceOf_48 : decode cX3_surePlaceOf 48 = .ok (.ireturn, 1) := by decide +kernel
theorem dX3_placeIn_0 : decode cX3_placeIn 0 = .ok (.iconst 0, 1) := by decide +kernel
theorem dX3_placeIn_1 : decode cX3_placeIn 1 = .ok (.istore_n 2, 1) := by decide +kernel
theorem dX3_placeIn_2 : decode cX3_placeIn 2 = .ok (.iload_n 2, 1) := by decide +kernel
theorem dX3_placeIn_3 : decode cX3_placeIn 3 = .ok (.iconst 1, 1) := by decide +kernel
theorem dX3_placeIn_4 : decode cX3_placeIn 4 = .ok (.iadd, 1) := by decide +kernel
theorem dX3_placeIn_5 : decode cX3_placeIn 5 = .ok (.aload_n 0, 1) := by decide +kernel
theorem dX3_placeIn_6 : decode cX3_placeIn 6 = .ok (.invokevirtual 63, 3) := by decide +kernel
theorem dX3_placeIn_9 : decode cX3_placeIn 9 = .ok (.if_icmp .ge 18, 3) := by decide +kernel
theorem dX3_placeIn_12 : decode cX3_placeIn 12 = .ok (.aload_n 0, 1) := by decide +kernel
theorem dX3_placeIn_13 : decode cX3_placeIn 13 = .ok (.iload_n 2, 1) := by decide +kernel
theorem dX3_placeIn_14 : decode cX3_placeIn 14 = .ok (.invokevirtual 64, 3) := by decide +kernel
theorem dX3_placeIn_17 : decode cX3_placeIn 17 = .ok (.iload_n 1, 1) := by decide +kernel
theorem dX3_placeIn_18 : decode cX3_placeIn 18 = .ok (.if_icmp .eq 9, 3) := by decide +kernel
theorem dX3_placeIn_21 : decode cX3_placeIn 21 = .ok (.iinc 2 1, 3) := by decide +kernel
theorem dX3_placeIn_24 : decode cX3_placeIn 24 = .ok (.goto (-22), 3) := by decide +kernel
theorem dX3_placeIn_27 : decode cX3_placeIn 27 = .ok (.iload_n 2, 1) := by decide +kernel
theorem dX3_placeIn_28 : decode cX3_placeIn 28 = .ok (.ireturn, 1) := by decide +kernel
theorem dX3_placesFitting_0 : decode cX3_placesFitting 0 = .ok (.iconst 0, 1) := by decide +kernel
theorem dX3_placesFitting_1 : decode cX3_placesFitting 1 = .ok (.istore_n 2, 1) := by decide +kernel
theorem dX3_placesFitting_2 : decode cX3_placesFitting 2 = .ok (.iconst 0, 1) := by decide +kernel
theorem dX3_placesFitting_3 : decode cX3_placesFitting 3 = .ok (.istore_n 3, 1) := by decide +kernel
theorem dX3_placesFitting_4 : decode cX3_placesFitting 4 = .ok (.iload_n 3, 1) := by decide +kernel
theorem dX3_placesFitting_5 : decode cX3_placesFitting 5 = .ok (.aload_n 0, 1) := by decide +kernel
theorem dX3_placesFitting_6 : decode cX3_placesFitting 6 = .ok (.invokevirtual 25, 3) := by decide +kernel
theorem dX3_placesFitting_9 : decode cX3_placesFitting 9 = .ok (.if_icmp .ge 24, 3) := by decide +kernel
theorem dX3_placesFitting_12 : decode cX3_placesFitting 12 = .ok (.aload_n 0, 1) := by decide +kernel
theorem dX3_placesFitting_13 : decode cX3_placesFitting 13 = .ok (.iload_n 1, 1) := by decide +kernel
theorem dX3_placesFitting_14 : decode cX3_placesFitting 14 = .ok (.iload_n 3, 1) := by decide +kernel
theorem dX3_placesFitting_15 : decode cX3_placesFitting 15 = .ok (.invokestatic 68, 3) := by decide +kernel
theorem dX3_placesFitting_18 : decode cX3_placesFitting 18 = .ok (.ifCond .eq 9, 3) := by decide +kernel
theorem dX3_placesFitting_21 : decode cX3_placesFitting 21 = .ok (.iload_n 2, 1) := by decide +kernel
theorem dX3_placesFitting_22 : decode cX3_placesFitting 22 = .ok (.iconst 1, 1) := by decide +kernel
theorem dX3_placesFitting_23 : decode cX3_placesFitting 23 = .ok (.iload_n 3, 1) := by decide +kernel
theorem dX3_placesFitting_24 : decode cX3_placesFitting 24 = .ok (.ishl, 1) := by decide +kernel
theorem dX3_placesFitting_25 : decode cX3_placesFitting 25 = .ok (.ior, 1) := by decide +kernel
theorem dX3_placesFitting_26 : decode cX3_placesFitting 26 = .ok (.istore_n 2, 1) := by decide +kernel
theorem dX3_placesFitting_27 : decode cX3_placesFitting 27 = .ok (.iinc 3 1, 3) := by decide +kernel
theorem dX3_placesFitting_30 : decode cX3_placesFitting 30 = .ok (.goto (-26), 3) := by decide +kernel
theorem dX3_placesFitting_33 : decode cX3_placesFitting 33 = .ok (.iload_n 2, 1) := by decide +kernel
theorem dX3_placesFitting_34 : decode cX3_placesFitting 34 = .ok (.ireturn, 1) := by decide +kernel
theorem dX3_fits_0 : decode cX3_fits 0 = .ok (.aload_n 0, 1) := by decide +kernel
theorem dX3_fits_1 : decode cX3_fits 1 = .ok (.iload_n 1, 1) := by decide +kernel
theorem dX3_fits_2 : decode cX3_fits 2 = .ok (.invokevirtual 72, 3) := by decide +kernel
theorem dX3_fits_5 : decode cX3_fits 5 = .ok (.istore_n 3, 1) := by decide +kernel
theorem dX3_fits_6 : decode cX3_fits 6 = .ok (.iload_n 3, 1) := by decide +kernel
theorem dX3_fits_7 : decode cX3_fits 7 = .ok (.iconst (-1), 1) := by decide +kernel
theorem dX3_fits_8 : decode cX3_fits 8 = .ok (.if_icmp .eq 18, 3) := by decide +kernel
theorem dX3_fits_11 : decode cX3_fits 11 = .ok (.aload_n 0, 1) := by decide +kernel
theorem dX3_fits_12 : decode cX3_fits 12 = .ok (.iload_n 3, 1) := by decide +kernel
theorem dX3_fits_13 : decode cX3_fits 13 = .ok (.iload_n 1, 1) := by decide +kernel
theorem dX3_fits_14 : decode cX3_fits 14 = .ok (.iload_n 2, 1) := by decide +kernel
theorem dX3_fits_15 : decode cX3_fits 15 = .ok (.invokevirtual 75, 3) := by decide +kernel
theorem dX3_fits_18 : decode cX3_fits 18 = .ok (.aload_n 0, 1) := by decide +kernel
theorem dX3_fits_19 : decode cX3_fits 19 = .ok (.iload_n 1, 1) := by decide +kernel
theorem dX3_fits_20 : decode cX3_fits 20 = .ok (.invokevirtual 79, 3) := by decide +kernel
theorem dX3_fits_23 : decode cX3_fits 23 = .ok (.if_icmp .ne 7, 3) := by decide +kernel
theorem dX3_fits_26 : decode cX3_fits 26 = .ok (.iconst 1, 1) := by decide +kernel
theorem dX3_fits_27 : decode cX3_fits 27 = .ok (.goto 4, 3) := by decide +kernel
theorem dX3_fits_30 : decode cX3_fits 30 = .ok (.iconst 0, 1) := by decide +kernel
theorem dX3_fits_31 : decode cX3_fits 31 = .ok (.ireturn, 1) := by decide +kernel
theorem dX3_countWays_0 : decode cX3_countWays 0 = .ok (.iconst 1, 1) := by decide +kernel
theorem dX3_countWays_1 : decode cX3_countWays 1 = .ok (.aload_n 0, 1) := by decide +kernel
theorem dX3_countWays_2 : decode cX3_countWays 2 = .ok (.getfield 31, 3) := by decide +kernel
theorem dX3_countWays_5 : decode cX3_countWays 5 = .ok (.ishl, 1) := by decide +kernel
theorem dX3_countWays_6 : decode cX3_countWays 6 = .ok (.iconst 1, 1) := by decide +kernel
theorem dX3_countWays_7 : decode cX3_countWays 7 = .ok (.isub, 1) := by decide +kernel
theorem dX3_countWays_8 : decode cX3_countWays 8 = .ok (.istore_n 1, 1) := by decide +kernel
theorem dX3_countWays_9 : decode cX3_countWays 9 = .ok (.aload_n 0, 1) := by decide +kernel
theorem dX3_countWays_10 : decode cX3_countWays 10 = .ok (.getfield 11, 3) := by decide +kernel
theorem dX3_countWays_13 : decode cX3_countWays 13 = .ok (.iload_n 1, 1) := by decide +kernel
theorem dX3_countWays_14 : decode cX3_countWays 14 = .ok (.iconst 1, 1) := by decide +kernel
theorem dX3_countWays_15 : decode cX3_countWays 15 = .ok (.iastore, 1) := by decide +kernel
theorem dX3_countWays_16 : decode cX3_countWays 16 = .ok (.iload_n 1, 1) := by decide +kernel
theorem dX3_countWays_17 : decode cX3_countWays 17 = .ok (.iconst 1, 1) := by decide +kernel
theorem dX3_countWays_18 : decode cX3_countWays 18 = .ok (.isub, 1) := by decide +kernel
theorem dX3_countWays_19 : decode cX3_countWays 19 = .ok (.istore_n 2, 1) := by decide +kernel
theorem dX3_countWays_20 : decode cX3_countWays 20 = .ok (.iload_n 2, 1) := by decide +kernel
theorem dX3_countWays_21 : decode cX3_countWays 21 = .ok (.ifCond .lt 70, 3) := by decide +kernel
theorem dX3_countWays_24 : decode cX3_countWays 24 = .ok (.iload_n 2, 1) := by decide +kernel
theorem dX3_countWays_25 : decode cX3_countWays 25 = .ok (.invokestatic 82, 3) := by decide +kernel
theorem dX3_countWays_28 : decode cX3_countWays 28 = .ok (.istore_n 3, 1) := by decide +kernel
theorem dX3_countWays_29 : decode cX3_countWays 29 = .ok (.iconst 0, 1) := by decide +kernel
theorem dX3_countWays_30 : decode cX3_countWays 30 = .ok (.istore 4, 2) := by decide +kernel
theorem dX3_countWays_32 : decode cX3_countWays 32 = .ok (.iconst 0, 1) := by decide +kernel
theorem dX3_countWays_33 : decode cX3_countWays 33 = .ok (.istore 5, 2) := by decide +kernel
theorem dX3_countWays_35 : decode cX3_countWays 35 = .ok (.iload 5, 2) := by decide +kernel
theorem dX3_countWays_37 : decode cX3_countWays 37 = .ok (.aload_n 0, 1) := by decide +kernel
theorem dX3_countWays_38 : decode cX3_countWays 38 = .ok (.getfield 31, 3) := by decide +kernel
theorem dX3_countWays_41 : decode cX3_countWays 41 = .ok (.if_icmp .ge 36, 3) := by decide +kernel
theorem dX3_countWays_44 : decode cX3_countWays 44 = .ok (.aload_n 0, 1) := by decide +kernel
theorem dX3_countWays_45 : decode cX3_countWays 45 = .ok (.iload_n 2, 1) := by decide +kernel
theorem dX3_countWays_46 : decode cX3_countWays 46 = .ok (.iload 5, 2) := by decide +kernel
theorem dX3_countWays_48 : decode cX3_countWays 48 = .ok (.iload_n 3, 1) := by decide +kernel
theorem dX3_countWays_49 : decode cX3_countWays 49 = .ok (.invokevirtual 87, 3) := by decide +kernel
theorem dX3_countWays_52 : decode cX3_countWays 52 = .ok (.ifCond .eq 19, 3) := by decide +kernel
theorem dX3_countWays_55 : decode cX3_countWays 55 = .ok (.iload 4, 2) := by decide +kernel
theorem dX3_countWays_57 : decode cX3_countWays 57 = .ok (.aload_n 0, 1) := by decide +kernel
theorem dX3_countWays_58 : decode cX3_countWays 58 = .ok (.getfield 11, 3) := by decide +kernel
theorem dX3_countWays_61 : decode cX3_countWays 61 = .ok (.iload_n 2, 1) := by decide +kernel
theorem dX3_countWays_62 : decode cX3_countWays 62 = .ok (.iconst 1, 1) := by decide +kernel
theorem dX3_countWays_63 : decode cX3_countWays 63 = .ok (.iload 5, 2) := by decide +kernel
theorem dX3_countWays_65 : decode cX3_countWays 65 = .ok (.ishl, 1) := by decide +kernel
theorem dX3_countWays_66 : decode cX3_countWays 66 = .ok (.ior, 1) := by decide +kernel
theorem dX3_countWays_67 : decode cX3_countWays 67 = .ok (.iaload, 1) := by decide +kernel
theorem dX3_countWays_68 : decode cX3_countWays 68 = .ok (.iadd, 1) := by decide +kernel
theorem dX3_countWays_69 : decode cX3_countWays 69 = .ok (.istore 4, 2) := by decide +kernel
theorem dX3_countWays_71 : decode cX3_countWays 71 = .ok (.iinc 5 1, 3) := by decide +kernel
theorem dX3_countWays_74 : decode cX3_countWays 74 = .ok (.goto (-39), 3) := by decide +kernel
theorem dX3_countWays_77 : decode cX3_countWays 77 = .ok (.aload_n 0, 1) := by decide +kernel
theorem dX3_countWays_78 : decode cX3_countWays 78 = .ok (.getfield 11, 3) := by decide +kernel
theorem dX3_countWays_81 : decode cX3_countWays 81 = .ok (.iload_n 2, 1) := by decide +kernel
theorem dX3_countWays_82 : decode cX3_countWays 82 = .ok (.iload 4, 2) := by decide +kernel
theorem dX3_countWays_84 : decode cX3_countWays 84 = .ok (.iastore, 1) := by decide +kernel
theorem dX3_countWays_85 : decode cX3_countWays 85 = .ok (.iinc 2 (-1), 3) := by decide +kernel
theorem dX3_countWays_88 : decode cX3_countWays 88 = .ok (.goto (-68), 3) := by decide +kernel
theorem dX3_countWays_91 : decode cX3_countWays 91 = .ok (.return_, 1) := by decide +kernel
theorem dX3_firstFor_0 : decode cX3_firstFor 0 = .ok (.iconst 0, 1) := by decide +kernel
theorem dX3_firstFor_1 : decode cX3_firstFor 1 = .ok (.istore_n 3, 1) := by decide +kernel
theorem dX3_firstFor_2 : decode cX3_firstFor 2 = .ok (.iload_n 3, 1) := by decide +kernel
theorem dX3_firstFor_3 : decode cX3_firstFor 3 = .ok (.aload_n 0, 1) := by decide +kernel
theorem dX3_firstFor_4 : decode cX3_firstFor 4 = .ok (.getfield 31, 3) := by decide +kernel
theorem dX3_firstFor_7 : decode cX3_firstFor 7 = .ok (.if_icmp .ge 34, 3) := by decide +kernel
theorem dX3_firstFor_10 : decode cX3_firstFor 10 = .ok (.aload_n 0, 1) := by decide +kernel
theorem dX3_firstFor_11 : decode cX3_firstFor 11 = .ok (.iload_n 1, 1) := by decide +kernel
theorem dX3_firstFor_12 : decode cX3_firstFor 12 = .ok (.iload_n 3, 1) := by decide +kernel
theorem dX3_firstFor_13 : decode cX3_firstFor 13 = .ok (.iload_n 2, 1) := by decide +kernel
theorem dX3_firstFor_14 : decode cX3_firstFor 14 = .ok (.invokevirtual 87, 3) := by decide +kernel
theorem dX3_firstFor_17 : decode cX3_firstFor 17 = .ok (.ifCond .eq 18, 3) := by decide +kernel
theorem dX3_firstFor_20 : decode cX3_firstFor 20 = .ok (.aload_n 0, 1) := by decide +kernel
theorem dX3_firstFor_21 : decode cX3_firstFor 21 = .ok (.getfield 11, 3) := by decide +kernel
theorem dX3_firstFor_24 : decode cX3_firstFor 24 = .ok (.iload_n 1, 1) := by decide +kernel
theorem dX3_firstFor_25 : decode cX3_firstFor 25 = .ok (.iconst 1, 1) := by decide +kernel
theorem dX3_firstFor_26 : decode cX3_firstFor 26 = .ok (.iload_n 3, 1) := by decide +kernel
theorem dX3_firstFor_27 : decode cX3_firstFor 27 = .ok (.ishl, 1) := by decide +kernel
theorem dX3_firstFor_28 : decode cX3_firstFor 28 = .ok (.ior, 1) := by decide +kernel
theorem dX3_firstFor_29 : decode cX3_firstFor 29 = .ok (.iaload, 1) := by decide +kernel
theorem dX3_firstFor_30 : decode cX3_firstFor 30 = .ok (.ifCond .le 5, 3) := by decide +kernel
theorem dX3_firstFor_33 : decode cX3_firstFor 33 = .ok (.iload_n 3, 1) := by decide +kernel
theorem dX3_firstFor_34 : decode cX3_firstFor 34 = .ok (.ireturn, 1) := by decide +kernel
theorem dX3_firstFor_35 : decode cX3_firstFor 35 = .ok (.iinc 3 1, 3) := by decide +kernel
theorem dX3_firstFor_38 : decode cX3_firstFor 38 = .ok (.goto (-36), 3) := by decide +kernel
theorem dX3_firstFor_41 : decode cX3_firstFor 41 = .ok (.iconst 0, 1) := by decide +kernel
theorem dX3_firstFor_42 : decode cX3_firstFor 42 = .ok (.ireturn, 1) := by decide +kernel
theorem dX3_mayCome_0 : decode cX3_mayCome 0 = .ok (.iload_n 1, 1) := by decide +kernel
theorem dX3_mayCome_1 : decode cX3_mayCome 1 = .ok (.iload_n 2, 1) := by decide +kernel
theorem dX3_mayCome_2 : decode cX3_mayCome 2 = .ok (.ishr, 1) := by decide +kernel
theorem dX3_mayCome_3 : decode cX3_mayCome 3 = .ok (.iconst 1, 1) := by decide +kernel
theorem dX3_mayCome_4 : decode cX3_mayCome 4 = .ok (.iand, 1) := by decide +kernel
theorem dX3_mayCome_5 : decode cX3_mayCome 5 = .ok (.ifCond .ne 21, 3) := by decide +kernel
theorem dX3_mayCome_8 : decode cX3_mayCome 8 = .ok (.aload_n 0, 1) := by decide +kernel
theorem dX3_mayCome_9 : decode cX3_mayCome 9 = .ok (.getfield 15, 3) := by decide +kernel
theorem dX3_mayCome_12 : decode cX3_mayCome 12 = .ok (.iload_n 2, 1) := by decide +kernel
theorem dX3_mayCome_13 : decode cX3_mayCome 13 = .ok (.iaload, 1) := by decide +kernel
theorem dX3_mayCome_14 : decode cX3_mayCome 14 = .ok (.iload_n 3, 1) := by decide +kernel
theorem dX3_mayCome_15 : decode cX3_mayCome 15 = .ok (.ishr, 1) := by decide +kernel
theorem dX3_mayCome_16 : decode cX3_mayCome 16 = .ok (.iconst 1, 1) := by decide +kernel
theorem dX3_mayCome_17 : decode cX3_mayCome 17 = .ok (.iand, 1) := by decide +kernel
theorem dX3_mayCome_18 : decode cX3_mayCome 18 = .ok (.iconst 1, 1) := by decide +kernel
theorem dX3_mayCome_19 : decode cX3_mayCome 19 = .ok (.if_icmp .ne 7, 3) := by decide +kernel
theorem dX3_mayCome_22 : decode cX3_mayCome 22 = .ok (.iconst 1, 1) := by decide +kernel
theorem dX3_mayCome_23 : decode cX3_mayCome 23 = .ok (.goto 4, 3) := by decide +kernel
theorem dX3_mayCome_26 : decode cX3_mayCome 26 = .ok (.iconst 0, 1) := by decide +kernel
theorem dX3_mayCome_27 : decode cX3_mayCome 27 = .ok (.ireturn, 1) := by decide +kernel
theorem dX4_init_0 : decode cX4_init 0 = .ok (.aload_n 0, 1) := by decide +kernel
theorem dX4_init_1 : decode cX4_init 1 = .ok (.invokespecial 1, 3) := by decide +kernel
theorem dX4_init_4 : decode cX4_init 4 = .ok (.aload_n 0, 1) := by decide +kernel
theorem dX4_init_5 : decode cX4_init 5 = .ok (.bipush 10, 2) := by decide +kernel
theorem dX4_init_7 : decode cX4_init 7 = .ok (.putfield 9, 3) := by decide +kernel
theorem dX4_init_10 : decode cX4_init 10 = .ok (.return_, 1) := by decide +kernel
theorem dX4_readFrom_0 : decode cX4_readFrom 0 = .ok (.aload_n 0, 1) := by decide +kernel
theorem dX4_readFrom_1 : decode cX4_readFrom 1 = .ok (.iconst 0, 1) := by decide +kernel
theorem dX4_readFrom_2 : decode cX4_readFrom 2 = .ok (.putfield 13, 3) := by decide +kernel
theorem dX4_readFrom_5 : decode cX4_readFrom 5 = .ok (.aload_n 0, 1) := by decide +kernel
theorem dX4_readFrom_6 : decode cX4_readFrom 6 = .ok (.iconst 0, 1) := by decide +kernel
theorem dX4_readFrom_7 : decode cX4_readFrom 7 = .ok (.putfield 17, 3) := by decide +kernel
theorem dX4_readFrom_10 : decode cX4_readFrom 10 = .ok (.aload_n 0, 1) := by decide +kernel
theorem dX4_readFrom_11 : decode cX4_readFrom 11 = .ok (.iconst 0, 1) := by decide +kernel
theorem dX4_readFrom_12 : decode cX4_readFrom 12 = .ok (.putfield 20, 3) := by decide +kernel
theorem dX4_readFrom_15 : decode cX4_readFrom 15 = .ok (.aload_n 0, 1) := by decide +kernel
theorem dX4_readFrom_16 : decode cX4_readFrom 16 = .ok (.bipush 10, 2) := by decide +kernel
theorem dX4_readFrom_18 : decode cX4_readFrom 18 = .ok (.putfield 9, 3) := by decide +kernel
theorem dX4_readFrom_21 : decode cX4_readFrom 21 = .ok (.iconst 0, 1) := by decide +kernel
theorem dX4_readFrom_22 : decode cX4_readFrom 22 = .ok (.istore_n 2, 1) := by decide +kernel
theorem dX4_readFrom_23 : decode cX4_readFrom 23 = .ok (.iconst 0, 1) := by decide +kernel
theorem dX4_readFrom_24 : decode cX4_readFrom 24 = .ok (.istore_n 3, 1) := by decide +kernel
theorem dX4_readFrom_25 : decode cX4_readFrom 25 = .ok (.iload_n 3, 1) := by decide +kernel
theorem dX4_readFrom_26 : decode cX4_readFrom 26 = .ok (.aload_n 1, 1) := by decide +kernel
theorem dX4_readFrom_27 : decode cX4_readFrom 27 = .ok (.invokevirtual 25, 3) := by decide +kernel
theorem dX4_readFrom_30 : decode cX4_readFrom 30 = .ok (.if_icmp .ge 29, 3) := by decide +kernel
theorem dX4_readFrom_33 : decode cX4_readFrom 33 = .ok (.iload_n 2, 1) := by decide +kernel
theorem dX4_readFrom_34 : decode cX4_readFrom 34 = .ok (.aload_n 1, 1) := by decide +kernel
theorem dX4_readFrom_35 : decode cX4_readFrom 35 = .ok (.iload_n 3, 1) := by decide +kernel
theorem dX4_readFrom_36 : decode cX4_readFrom 36 = .ok (.invokevirtual 29, 3) := by decide +kernel
theorem dX4_readFrom_39 : decode cX4_readFrom 39 = .ok (.invokestatic 33, 3) := by decide +kernel
theorem dX4_readFrom_42 : decode cX4_readFrom 42 = .ok (.istore_n 2, 1) := by decide +kernel
theorem dX4_readFrom_43 : decode cX4_readFrom 43 = .ok (.aload_n 0, 1) := by decide +kernel
theorem dX4_readFrom_44 : decode cX4_readFrom 44 = .ok (.iload_n 2, 1) := by decide +kernel
theorem dX4_readFrom_45 : decode cX4_readFrom 45 = .ok (.aload_n 1, 1) := by decide +kernel
theorem dX4_readFrom_46 : decode cX4_readFrom 46 = .ok (.iload_n 3, 1) := by decide +kernel
theorem dX4_readFrom_47 : decode cX4_readFrom 47 = .ok (.invokevirtual 29, 3) := by decide +kernel
theorem dX4_readFrom_50 : decode cX4_readFrom 50 = .ok (.invokevirtual 37, 3) := by decide +kernel
theorem dX4_readFrom_53 : decode cX4_readFrom 53 = .ok (.iinc 3 1, 3) := by decide +kernel
theorem dX4_readFrom_56 : decode cX4_readFrom 56 = .ok (.goto (-31), 3) := by decide +kernel
theorem dX4_readFrom_59 : decode cX4_readFrom 59 = .ok (.return_, 1) := by decide +kernel
theorem dX4_take_0 : decode cX4_take 0 = .ok (.iload_n 1, 1) := by decide +kernel
theorem dX4_take_1 : decode cX4_take 1 = .ok (.tableswitch 70 1 5 #[35, 43, 51, 70, 59], 35) := by decide +kernel
theorem dX4_take_36 : decode cX4_take 36 = .ok (.aload_n 0, 1) := by decide +kernel
theorem dX4_take_37 : decode cX4_take 37 = .ok (.iconst 1, 1) := by decide +kernel
theorem dX4_take_38 : decode cX4_take 38 = .ok (.putfield 13, 3) := by decide +kernel
theorem dX4_take_41 : decode cX4_take 41 = .ok (.goto 30, 3) := by decide +kernel
theorem dX4_take_44 : decode cX4_take 44 = .ok (.aload_n 0, 1) := by decide +kernel
theorem dX4_take_45 : decode cX4_take 45 = .ok (.iconst 1, 1) := by decide +kernel
theorem dX4_take_46 : decode cX4_take 46 = .ok (.putfield 17, 3) := by decide +kernel
theorem dX4_take_49 : decode cX4_take 49 = .ok (.goto 22, 3) := by decide +kernel
theorem dX4_take_52 : decode cX4_take 52 = .ok (.aload_n 0, 1) := by decide +kernel
theorem dX4_take_53 : decode cX4_take 53 = .ok (.iconst 1, 1) := by decide +kernel
theorem dX4_take_54 : decode cX4_take 54 = .ok (.putfield 20, 3) := by decide +kernel
theorem dX4_take_57 : decode cX4_take 57 = .ok (.goto 14, 3) := by decide +kernel
theorem dX4_take_60 : decode cX4_take 60 = .ok (.aload_n 0, 1) := by decide +kernel
theorem dX4_take_61 : decode cX4_take 61 = .ok (.iload_n 2, 1) := by decide +kernel
theorem dX4_take_62 : decode cX4_take 62 = .ok (.bipush 48, 2) := by decide +kernel
theorem dX4_take_64 : decode cX4_take 64 = .ok (.isub, 1) := by decide +kernel
theorem dX4_take_65 : decode cX4_take 65 = .ok (.putfield 9, 3) := by decide +kernel
theorem dX4_take_68 : decode cX4_take 68 = .ok (.goto 3, 3) := by decide +kernel
theorem dX4_take_71 : decode cX4_take 71 = .ok (.return_, 1) := by decide +kernel
theorem dX4_told_0 : decode cX4_told 0 = .ok (.iload_n 1, 1) := by decide +kernel
theorem dX4_told_1 : decode cX4_told 1 = .ok (.tableswitch 66 0 2 #[27, 40, 53], 27) := by decide +kernel
theorem dX4_told_28 : decode cX4_told 28 = .ok (.aload_n 0, 1) := by decide +kernel
theorem dX4_told_29 : decode cX4_told 29 = .ok (.getfield 13, 3) := by decide +kernel
theorem dX4_told_32 : decode cX4_told 32 = .ok (.ifCond .eq 7, 3) := by decide +kernel
theorem dX4_told_35 : decode cX4_told 35 = .ok (.iconst 1, 1) := by decide +kernel
theorem dX4_told_36 : decode cX4_told 36 = .ok (.goto 4, 3) := by decide +kernel
theorem dX4_told_39 : decode cX4_told 39 = .ok (.iconst 0, 1) := by decide +kernel
theorem dX4_told_40 : decode cX4_told 40 = .ok (.ireturn, 1) := by decide +kernel
theorem dX4_told_41 : decode cX4_told 41 = .ok (.aload_n 0, 1) := by decide +kernel
theorem dX4_told_42 : decode cX4_told 42 = .ok (.getfield 17, 3) := by decide +kernel
theorem dX4_told_45 : decode cX4_told 45 = .ok (.ifCond .eq 7, 3) := by decide +kernel
theorem dX4_told_48 : decode cX4_told 48 = .ok (.iconst 1, 1) := by decide +kernel
theorem dX4_told_49 : decode cX4_told 49 = .ok (.goto 4, 3) := by decide +kernel
theorem dX4_told_52 : decode cX4_told 52 = .ok (.iconst 0, 1) := by decide +kernel
theorem dX4_told_53 : decode cX4_told 53 = .ok (.ireturn, 1) := by decide +kernel
theorem dX4_told_54 : decode cX4_told 54 = .ok (.aload_n 0, 1) := by decide +kernel
theorem dX4_told_55 : decode cX4_told 55 = .ok (.getfield 20, 3) := by decide +kernel
theorem dX4_told_58 : decode cX4_told 58 = .ok (.ifCond .eq 7, 3) := by decide +kernel
theorem dX4_told_61 : decode cX4_told 61 = .ok (.iconst 1, 1) := by decide +kernel
theorem dX4_told_62 : decode cX4_told 62 = .ok (.goto 4, 3) := by decide +kernel
theorem dX4_told_65 : decode cX4_told 65 = .ok (.iconst 0, 1) := by decide +kernel
theorem dX4_told_66 : decode cX4_told 66 = .ok (.ireturn, 1) := by decide +kernel
theorem dX4_told_67 : decode cX4_told 67 = .ok (.aload_n 0, 1) := by decide +kernel
theorem dX4_told_68 : decode cX4_told 68 = .ok (.getfield 9, 3) := by decide +kernel
theorem dX4_told_71 : decode cX4_told 71 = .ok (.ireturn, 1) := by decide +kernel
theorem dX4_turns_0 : decode cX4_turns 0 = .ok (.aload_n 0, 1) := by decide +kernel
theorem dX4_turns_1 : decode cX4_turns 1 = .ok (.getfield 17, 3) := by decide +kernel
theorem dX4_turns_4 : decode cX4_turns 4 = .ok (.ireturn, 1) := by decide +kernel
theorem dX4_wantsTwinsTogether_0 : decode cX4_wantsTwinsTogether 0 = .ok (.aload_n 0, 1) := by decide +kernel
theorem dX4_wantsTwinsTogether_1 : decode cX4_wantsTwinsTogether 1 = .ok (.getfield 20, 3) := by decide +kernel
theorem dX4_wantsTwinsTogether_4 : decode cX4_wantsTwinsTogether 4 = .ok (.ireturn, 1) := by decide +kernel
theorem dX4_burningWear_0 : decode cX4_burningWear 0 = .ok (.aload_n 0, 1) := by decide +kernel
theorem dX4_burningWear_1 : decode cX4_burningWear 1 = .ok (.getfield 9, 3) := by decide +kernel
theorem dX4_burningWear_4 : decode cX4_burningWear 4 = .ok (.bipush 100, 2) := by decide +kernel
theorem dX4_burningWear_6 : decode cX4_burningWear 6 = .ok (.imul, 1) := by decide +kernel
theorem dX4_burningWear_7 : decode cX4_burningWear 7 = .ok (.ireturn, 1) := by decide +kernel
theorem dX4_letsLieTogether_0 : decode cX4_letsLieTogether 0 = .ok (.aload_n 0, 1) := by decide +kernel
theorem dX4_letsLieTogether_1 : decode cX4_letsLieTogether 1 = .ok (.getfield 13, 3) := by decide +kernel
theorem dX4_letsLieTogether_4 : decode cX4_letsLieTogether 4 = .ok (.ifCond .eq 12, 3) := by decide +kernel
theorem dX4_letsLieTogether_7 : decode cX4_letsLieTogether 7 = .ok (.aload_n 1, 1) := by decide +kernel
theorem dX4_letsLieTogether_8 : decode cX4_letsLieTogether 8 = .ok (.iload_n 2, 1) := by decide +kernel
theorem dX4_letsLieTogether_9 : decode cX4_letsLieTogether 9 = .ok (.iload_n 3, 1) := by decide +kernel
theorem dX4_letsLieTogether_10 : decode cX4_letsLieTogether 10 = .ok (.invokevirtual 41, 3) := by decide +kernel
theorem dX4_letsLieTogether_13 : decode cX4_letsLieTogether 13 = .ok (.ifCond .ne 7, 3) := by decide +kernel
theorem dX4_letsLieTogether_16 : decode cX4_letsLieTogether 16 = .ok (.iconst 1, 1) := by decide +kernel
theorem dX4_letsLieTogether_17 : decode cX4_letsLieTogether 17 = .ok (.goto 4, 3) := by decide +kernel
theorem dX4_letsLieTogether_20 : decode cX4_letsLieTogether 20 = .ok (.iconst 0, 1) := by decide +kernel
theorem dX4_letsLieTogether_21 : decode cX4_letsLieTogether 21 = .ok (.ireturn, 1) := by decide +kernel
theorem dX4_allows_0 : decode cX4_allows 0 = .ok (.iconst 0, 1) := by decide +kernel
theorem dX4_allows_1 : decode cX4_allows 1 = .ok (.istore_n 3, 1) := by decide +kernel
theorem dX4_allows_2 : decode cX4_allows 2 = .ok (.iload_n 3, 1) := by decide +kernel
theorem dX4_allows_3 : decode cX4_allows 3 = .ok (.aload_n 2, 1) := by decide +kernel
theorem dX4_allows_4 : decode cX4_allows 4 = .ok (.invokevirtual 47, 3) := by decide +kernel
theorem dX4_allows_7 : decode cX4_allows 7 = .ok (.if_icmp .ge 66, 3) := by decide +kernel
theorem dX4_allows_10 : decode cX4_allows 10 = .ok (.aload_n 2, 1) := by decide +kernel
theorem dX4_allows_11 : decode cX4_allows 11 = .ok (.iload_n 3, 1) := by decide +kernel
theorem dX4_allows_12 : decode cX4_allows 12 = .ok (.invokevirtual 52, 3) := by decide +kernel
theorem dX4_allows_15 : decode cX4_allows 15 = .ok (.istore 4, 2) := by decide +kernel
theorem dX4_allows_17 : decode cX4_allows 17 = .ok (.iload_n 3, 1) := by decide +kernel
theorem dX4_allows_18 : decode cX4_allows 18 = .ok (.ifCond .le 22, 3) := by decide +kernel
theorem dX4_allows_21 : decode cX4_allows 21 = .ok (.aload_n 0, 1) := by decide +kernel
theorem dX4_allows_22 : decode cX4_allows 22 = .ok (.aload_n 1, 1) := by decide +kernel
theorem dX4_allows_23 : decode cX4_allows 23 = .ok (.aload_n 2, 1) := by decide +kernel
theorem dX4_allows_24 : decode cX4_allows 24 = .ok (.iload_n 3, 1) := by decide +kernel
theorem dX4_allows_25 : decode cX4_allows 25 = .ok (.iconst 1, 1) := by decide +kernel
theorem dX4_allows_26 : decode cX4_allows 26 = .ok (.isub, 1) := by decide +kernel
theorem dX4_allows_27 : decode cX4_allows 27 = .ok (.invokevirtual 52, 3) := by decide +kernel
theorem dX4_allows_30 : decode cX4_allows 30 = .ok (.iload 4, 2) := by decide +kernel
theorem dX4_allows_32 : decode cX4_allows 32 = .ok (.invokevirtual 55, 3) := by decide +kernel
theorem dX4_allows_35 : decode cX4_allows 35 = .ok (.ifCond .ne 5, 3) := by decide +kernel
theorem dX4_allows_38 : decode cX4_allows 38 = .ok (.iconst 0, 1) := by decide +kernel
theorem dX4_allows_39 : decode cX4_allows 39 = .ok (.ireturn, 1) := by decide +kernel
theorem dX4_allows_40 : decode cX4_allows 40 = .ok (.aload_n 0, 1) := by decide +kernel
theorem dX4_allows_41 : decode cX4_allows 41 = .ok (.getfield 20, 3) := by decide +kernel
theorem dX4_allows_44 : decode cX4_allows 44 = .ok (.ifCond .eq 23, 3) := by decide +kernel
theorem dX4_allows_47 : decode cX4_allows 47 = .ok (.aload_n 1, 1) := by decide +kernel
theorem dX4_allows_48 : decode cX4_allows 48 = .ok (.iload 4, 2) := by decide +kernel
theorem dX4_allows_50 : decode cX4_allows 50 = .ok (.invokevirtual 59, 3) := by decide +kernel
theorem dX4_allows_53 : decode cX4_allows 53 = .ok (.ifCond .eq 14, 3) := by decide +kernel
theorem dX4_allows_56 : decode cX4_allows 56 = .ok (.aload_n 1, 1) := by decide +kernel
theorem dX4_allows_57 : decode cX4_allows 57 = .ok (.aload_n 2, 1) := by decide +kernel
theorem dX4_allows_58 : decode cX4_allows 58 = .ok (.iload_n 3, 1) := by decide +kernel
theorem dX4_allows_59 : decode cX4_allows 59 = .ok (.invokestatic 63, 3) := by decide +kernel
theorem dX4_allows_62 : decode cX4_allows 62 = .ok (.ifCond .ne 5, 3) := by decide +kernel
theorem dX4_allows_65 : decode cX4_allows 65 = .ok (.iconst 0, 1) := by decide +kernel
theorem dX4_allows_66 : decode cX4_allows 66 = .ok (.ireturn, 1) := by decide +kernel
theorem dX4_allows_67 : decode cX4_allows 67 = .ok (.iinc 3 1, 3) := by decide +kernel
theorem dX4_allows_70 : decode cX4_allows 70 = .ok (.goto (-68), 3) := by decide +kernel
theorem dX4_allows_73 : decode cX4_allows 73 = .ok (.iconst 1, 1) := by decide +kernel
theorem dX4_allows_74 : decode cX4_allows 74 = .ok (.ireturn, 1) := by decide +kernel
theorem dX4_hasTwinBeside_0 : decode cX4_hasTwinBeside 0 = .ok (.iload_n 2, 1) := by decide +kernel
theorem dX4_hasTwinBeside_1 : decode cX4_hasTwinBeside 1 = .ok (.ifCond .le 17, 3) := by decide +kernel
theorem dX4_hasTwinBeside_4 : decode cX4_hasTwinBeside 4 = .ok (.aload_n 0, 1) := by decide +kernel
theorem dX4_hasTwinBeside_5 : decode cX4_hasTwinBeside 5 = .ok (.aload_n 1, 1) := by decide +kernel
theorem dX4_hasTwinBeside_6 : decode cX4_hasTwinBeside 6 = .ok (.iload_n 2, 1) := by decide +kernel
theorem dX4_hasTwinBeside_7 : decode cX4_hasTwinBeside 7 = .ok (.iconst 1, 1) := by decide +kernel
theorem dX4_hasTwinBeside_8 : decode cX4_hasTwinBeside 8 = .ok (.isub, 1) := by decide +kernel
theorem dX4_hasTwinBeside_9 : decode cX4_hasTwinBeside 9 = .ok (.invokevirtual 52, 3) := by decide +kernel
theorem dX4_hasTwinBeside_12 : decode cX4_hasTwinBeside 12 = .ok (.invokevirtual 59, 3) := by decide +kernel
theorem dX4_hasTwinBeside_15 : decode cX4_hasTwinBeside 15 = .ok (.ifCond .ne 27, 3) := by decide +kernel
theorem dX4_hasTwinBeside_18 : decode cX4_hasTwinBeside 18 = .ok (.iload_n 2, 1) := by decide +kernel
theorem dX4_hasTwinBeside_19 : decode cX4_hasTwinBeside 19 = .ok (.iconst 1, 1) := by decide +kernel
theorem dX4_hasTwinBeside_20 : decode cX4_hasTwinBeside 20 = .ok (.iadd, 1) := by decide +kernel
theorem dX4_hasTwinBeside_21 : decode cX4_hasTwinBeside 21 = .ok (.aload_n 1, 1) := by decide +kernel
theorem dX4_hasTwinBeside_22 : decode cX4_hasTwinBeside 22 = .ok (.invokevirtual 47, 3) := by decide +kernel
theorem dX4_hasTwinBeside_25 : decode cX4_hasTwinBeside 25 = .ok (.if_icmp .ge 21, 3) := by decide +kernel
theorem dX4_hasTwinBeside_28 : decode cX4_hasTwinBeside 28 = .ok (.aload_n 0, 1) := by decide +kernel
theorem dX4_hasTwinBeside_29 : decode cX4_hasTwinBeside 29 = .ok (.aload_n 1, 1) := by decide +kernel
theorem dX4_hasTwinBeside_30 : decode cX4_hasTwinBeside 30 = .ok (.iload_n 2, 1) := by decide +kernel
theorem dX4_hasTwinBeside_31 : decode cX4_hasTwinBeside 31 = .ok (.iconst 1, 1) := by decide +kernel
theorem dX4_hasTwinBeside_32 : decode cX4_hasTwinBeside 32 = .ok (.iadd, 1) := by decide +kernel
theorem dX4_hasTwinBeside_33 : decode cX4_hasTwinBeside 33 = .ok (.invokevirtual 52, 3) := by decide +kernel
theorem dX4_hasTwinBeside_36 : decode cX4_hasTwinBeside 36 = .ok (.invokevirtual 59, 3) := by decide +kernel
theorem dX4_hasTwinBeside_39 : decode cX4_hasTwinBeside 39 = .ok (.ifCond .eq 7, 3) := by decide +kernel
theorem dX4_hasTwinBeside_42 : decode cX4_hasTwinBeside 42 = .ok (.iconst 1, 1) := by decide +kernel
theorem dX4_hasTwinBeside_43 : decode cX4_hasTwinBeside 43 = .ok (.goto 4, 3) := by decide +kernel
theorem dX4_hasTwinBeside_46 : decode cX4_hasTwinBeside 46 = .ok (.iconst 0, 1) := by decide +kernel
theorem dX4_hasTwinBeside_47 : decode cX4_hasTwinBeside 47 = .ok (.ireturn, 1) := by decide +kernel
theorem dX5_init_0 : decode cX5_init 0 = .ok (.aload_n 0, 1) := by decide +kernel
theorem dX5_init_1 : decode cX5_init 1 = .ok (.invokespecial 5, 3) := by decide +kernel
theorem dX5_init_4 : decode cX5_init 4 = .ok (.aload_n 0, 1) := by decide +kernel
theorem dX5_init_5 : decode cX5_init 5 = .ok (.sipush 2048, 3) := by decide +kernel
theorem dX5_init_8 : decode cX5_init 8 = .ok (.newarray .int, 2) := by decide +kernel
theorem dX5_init_10 : decode cX5_init 10 = .ok (.putfield 11, 3) := by decide +kernel
theorem dX5_init_13 : decode cX5_init 13 = .ok (.aload_n 0, 1) := by decide +kernel
theorem dX5_init_14 : decode cX5_init 14 = .ok (.sipush 2048, 3) := by decide +kernel
theorem dX5_init_17 : decode cX5_init 17 = .ok (.newarray .int, 2) := by decide +kernel
theorem dX5_init_19 : decode cX5_init 19 = .ok (.putfield 15, 3) := by decide +kernel
theorem dX5_init_22 : decode cX5_init 22 = .ok (.aload_n 0, 1) := by decide +kernel
theorem dX5_init_23 : decode cX5_init 23 = .ok (.bipush 49, 2) := by decide +kernel
theorem dX5_init_25 : decode cX5_init 25 = .ok (.newarray .int, 2) := by decide +kernel
theorem dX5_init_27 : decode cX5_init 27 = .ok (.putfield 18, 3) := by decide +kernel
theorem dX5_init_30 : decode cX5_init 30 = .ok (.aload_n 0, 1) := by decide +kernel
theorem dX5_init_31 : decode cX5_init 31 = .ok (.bipush 8, 2) := by decide +kernel
theorem dX5_init_33 : decode cX5_init 33 = .ok (.newarray .int, 2) := by decide +kernel
theorem dX5_init_35 : decode cX5_init 35 = .ok (.putfield 21, 3) := by decide +kernel
theorem dX5_init_38 : decode cX5_init 38 = .ok (.aload_n 0, 1) := by decide +kernel
theorem dX5_init_39 : decode cX5_init 39 = .ok (.new 24, 3) := by decide +kernel
theorem dX5_init_42 : decode cX5_init 42 = .ok (.dup, 1) := by decide +kernel
theorem dX5_init_43 : decode cX5_init 43 = .ok (.invokespecial 26, 3) := by decide +kernel
theorem dX5_init_46 : decode cX5_init 46 = .ok (.putfield 27, 3) := by decide +kernel
theorem dX5_init_49 : decode cX5_init 49 = .ok (.return_, 1) := by decide +kernel
theorem dX5_study_0 : decode cX5_study 0 = .ok (.aload_n 0, 1) := by decide +kernel
theorem dX5_study_1 : decode cX5_study 1 = .ok (.aload_n 1, 1) := by decide +kernel
theorem dX5_study_2 : decode cX5_study 2 = .ok (.invokevirtual 31, 3) := by decide +kernel
theorem dX5_study_5 : decode cX5_study 5 = .ok (.putfield 37, 3) := by decide +kernel
theorem dX5_study_8 : decode cX5_study 8 = .ok (.aload_n 0, 1) := by decide +kernel
theorem dX5_study_9 : decode cX5_study 9 = .ok (.aload_n 1, 1) := by decide +kernel
theorem dX5_study_10 : decode cX5_study 10 = .ok (.aload_n 2, 1) := by decide +kernel
theorem dX5_study_11 : decode cX5_study 11 = .ok (.invokevirtual 40, 3) := by decide +kernel
theorem dX5_study_14 : decode cX5_study 14 = .ok (.aload_n 0, 1) := by decide +kernel
theorem dX5_study_15 : decode cX5_study 15 = .ok (.aload_n 1, 1) := by decide +kernel
theorem dX5_study_16 : decode cX5_study 16 = .ok (.aload_n 2, 1) := by decide +kernel
theorem dX5_study_17 : decode cX5_study 17 = .ok (.invokevirtual 44, 3) := by decide +kernel
theorem dX5_study_20 : decode cX5_study 20 = .ok (.iconst 1, 1) := by decide +kernel
theorem dX5_study_21 : decode cX5_study 21 = .ok (.aload_n 0, 1) := by decide +kernel
theorem dX5_study_22 : decode cX5_study 22 = .ok (.getfield 37, 3) := by decide +kernel
theorem dX5_study_25 : decode cX5_study 25 = .ok (.ishl, 1) := by decide +kernel
theorem dX5_study_26 : decode cX5_study 26 = .ok (.iconst 1, 1) := by decide +kernel
theorem dX5_study_27 : decode cX5_study 27 = .ok (.isub, 1) := by decide +kernel
theorem dX5_study_28 : decode cX5_study 28 = .ok (.istore_n 3, 1) := by decide +kernel
theorem dX5_study_29 : decode cX5_study 29 = .ok (.iload_n 3, 1) := by decide +kernel
theorem dX5_study_30 : decode cX5_study 30 = .ok (.istore 4, 2) := by decide +kernel
theorem dX5_study_32 : decode cX5_study 32 = .ok (.iload 4, 2) := by decide +kernel
theorem dX5_study_34 : decode cX5_study 34 = .ok (.iconst 1, 1) := by decide +kernel
theorem dX5_study_35 : decode cX5_study 35 = .ok (.if_icmp .lt 82, 3) := by decide +kernel
theorem dX5_study_38 : decode cX5_study 38 = .ok (.iconst 0, 1) := by decide +kernel
theorem dX5_study_39 : decode cX5_study 39 = .ok (.istore 5, 2) := by decide +kernel
theorem dX5_study_41 : decode cX5_study 41 = .ok (.iload 5, 2) := by decide +kernel
theorem dX5_study_43 : decode cX5_study 43 = .ok (.aload_n 0, 1) := by decide +kernel
theorem dX5_study_44 : decode cX5_study 44 = .ok (.getfield 37, 3) := by decide +kernel
theorem dX5_study_47 : decode cX5_study 47 = .ok (.if_icmp .ge 64, 3) := by decide +kernel
theorem dX5_study_50 : decode cX5_study 50 = .ok (.iload 4, 2) := by decide +kernel
theorem dX5_study_52 : decode cX5_study 52 = .ok (.iload 5, 2) := by decide +kernel
theorem dX5_study_54 : decode cX5_study 54 = .ok (.invokestatic 47, 3) := by decide +kernel
theorem dX5_study_57 : decode cX5_study 57 = .ok (.ifCond .eq 23, 3) := by decide +kernel
theorem dX5_study_60 : decode cX5_study 60 = .ok (.aload_n 0, 1) := by decide +kernel
theorem dX5_study_61 : decode cX5_study 61 = .ok (.iload 4, 2) := by decide +kernel
theorem dX5_study_63 : decode cX5_study 63 = .ok (.iload 5, 2) := by decide +kernel
theorem dX5_study_65 : decode cX5_study 65 = .ok (.iconst 0, 1) := by decide +kernel
theorem dX5_study_66 : decode cX5_study 66 = .ok (.iload 4, 2) := by decide +kernel
theorem dX5_study_68 : decode cX5_study 68 = .ok (.iload_n 3, 1) := by decide +kernel
theorem dX5_study_69 : decode cX5_study 69 = .ok (.if_icmp .ne 7, 3) := by decide +kernel
theorem dX5_study_72 : decode cX5_study 72 = .ok (.iconst 1, 1) := by decide +kernel
theorem dX5_study_73 : decode cX5_study 73 = .ok (.goto 4, 3) := by decide +kernel
theorem dX5_study_76 : decode cX5_study 76 = .ok (.iconst 0, 1) := by decide +kernel
theorem dX5_study_77 : decode cX5_study 77 = .ok (.invokevirtual 51, 3) := by decide +kernel
theorem dX5_study_80 : decode cX5_study 80 = .ok (.iload 4, 2) := by decide +kernel
theorem dX5_study_82 : decode cX5_study 82 = .ok (.aload_n 0, 1) := by decide +kernel
theorem dX5_study_83 : decode cX5_study 83 = .ok (.getfield 55, 3) := by decide +kernel
theorem dX5_study_86 : decode cX5_study 86 = .ok (.iand, 1) := by decide +kernel
theorem dX5_study_87 : decode cX5_study 87 = .ok (.iload 5, 2) := by decide +kernel
theorem dX5_study_89 : decode cX5_study 89 = .ok (.invokestatic 47, 3) := by decide +kernel
theorem dX5_study_92 : decode cX5_study 92 = .ok (.ifCond .eq 13, 3) := by decide +kernel
theorem dX5_study_95 : decode cX5_study 95 = .ok (.aload_n 0, 1) := by decide +kernel
theorem dX5_study_96 : decode cX5_study 96 = .ok (.iload 4, 2) := by decide +kernel
theorem dX5_study_98 : decode cX5_study 98 = .ok (.iload 5, 2) := by decide +kernel
theorem dX5_study_100 : decode cX5_study 100 = .ok (.iconst 1, 1) := by decide +kernel
theorem dX5_study_101 : decode cX5_study 101 = .ok (.iconst 0, 1) := by decide +kernel
theorem dX5_study_102 : decode cX5_study 102 = .ok (.invokevirtual 51, 3) := by decide +kernel
theorem dX5_study_105 : decode cX5_study 105 = .ok (.iinc 5 1, 3) := by decide +kernel
theorem dX5_study_108 : decode cX5_study 108 = .ok (.goto (-67), 3) := by decide +kernel
theorem dX5_study_111 : decode cX5_study 111 = .ok (.iinc 4 (-1), 3) := by decide +kernel
theorem dX5_study_114 : decode cX5_study 114 = .ok (.goto (-82), 3) := by decide +kernel
theorem dX5_study_117 : decode cX5_study 117 = .ok (.aload_n 0, 1) := by decide +kernel
theorem dX5_study_118 : decode cX5_study 118 = .ok (.iconst 0, 1) := by decide +kernel
theorem dX5_study_119 : decode cX5_study 119 = .ok (.bipush 7, 2) := by decide +kernel
theorem dX5_study_121 : decode cX5_study 121 = .ok (.iconst 0, 1) := by decide +kernel
theorem dX5_study_122 : decode cX5_study 122 = .ok (.iconst 0, 1) := by decide +kernel
theorem dX5_study_123 : decode cX5_study 123 = .ok (.invokevirtual 51, 3) := by decide +kernel
theorem dX5_study_126 : decode cX5_study 126 = .ok (.return_, 1) := by decide +kernel
theorem dX5_ordersFound_0 : decode cX5_ordersFound 0 = .ok (.aload_n 0, 1) := by decide +kernel
theorem dX5_ordersFound_1 : decode cX5_ordersFound 1 = .ok (.getfield 11, 3) := by decide +kernel
theorem dX5_ordersFound_4 : decode cX5_ordersFound 4 = .ok (.bipush 14, 2) := by decide +kernel
theorem dX5_ordersFound_6 : decode cX5_ordersFound 6 = .ok (.iaload, 1) := by decide +kernel
theorem dX5_ordersFound_7 : decode cX5_ordersFound 7 = .ok (.ireturn, 1) := by decide +kernel
theorem dX5_leastWorst_0 : decode cX5_leastWorst 0 = .ok (.aload_n 0, 1) := by decide +kernel
theorem dX5_leastWorst_1 : decode cX5_leastWorst 1 = .ok (.getfield 15, 3) := by decide +kernel
theorem dX5_leastWorst_4 : decode cX5_leastWorst 4 = .ok (.bipush 14, 2) := by decide +kernel
theorem dX5_leastWorst_6 : decode cX5_leastWorst 6 = .ok (.iaload, 1) := by decide +kernel
theorem dX5_leastWorst_7 : decode cX5_leastWorst 7 = .ok (.ireturn, 1) := by decide +kernel
theorem dX5_bestOrder_0 : decode cX5_bestOrder 0 = .ok (.aload_n 0, 1) := by decide +kernel
theorem dX5_bestOrder_1 : decode cX5_bestOrder 1 = .ok (.getfield 27, 3) := by decide +kernel
theorem dX5_bestOrder_4 : decode cX5_bestOrder 4 = .ok (.invokevirtual 58, 3) := by decide +kernel
theorem dX5_bestOrder_7 : decode cX5_bestOrder 7 = .ok (.iconst 0, 1) := by decide +kernel
theorem dX5_bestOrder_8 : decode cX5_bestOrder 8 = .ok (.istore_n 1, 1) := by decide +kernel
theorem dX5_bestOrder_9 : decode cX5_bestOrder 9 = .ok (.bipush 7, 2) := by decide +kernel
theorem dX5_bestOrder_11 : decode cX5_bestOrder 11 = .ok (.istore_n 2, 1) := by decide +kernel
theorem dX5_bestOrder_12 : decode cX5_bestOrder 12 = .ok (.iconst 0, 1) := by decide +kernel
theorem dX5_bestOrder_13 : decode cX5_bestOrder 13 = .ok (.istore_n 3, 1) := by decide +kernel
theorem dX5_bestOrder_14 : decode cX5_bestOrder 14 = .ok (.iconst 0, 1) := by decide +kernel
theorem dX5_bestOrder_15 : decode cX5_bestOrder 15 = .ok (.istore 4, 2) := by decide +kernel
theorem dX5_bestOrder_17 : decode cX5_bestOrder 17 = .ok (.iload 4, 2) := by decide +kernel
theorem dX5_bestOrder_19 : decode cX5_bestOrder 19 = .ok (.aload_n 0, 1) := by decide +kernel
theorem dX5_bestOrder_20 : decode cX5_bestOrder 20 = .ok (.getfield 37, 3) := by decide +kernel
theorem dX5_bestOrder_23 : decode cX5_bestOrder 23 = .ok (.if_icmp .ge 49, 3) := by decide +kernel
theorem dX5_bestOrder_26 : decode cX5_bestOrder 26 = .ok (.aload_n 0, 1) := by decide +kernel
theorem dX5_bestOrder_27 : decode cX5_bestOrder 27 = .ok (.aload_n 0, 1) := by decide +kernel
theorem dX5_bestOrder_28 : decode cX5_bestOrder 28 = .ok (.invokevirtual 61, 3) := by decide +kernel
theorem dX5_bestOrder_31 : decode cX5_bestOrder 31 = .ok (.iload_n 1, 1) := by decide +kernel
theorem dX5_bestOrder_32 : decode cX5_bestOrder 32 = .ok (.iload_n 2, 1) := by decide +kernel
theorem dX5_bestOrder_33 : decode cX5_bestOrder 33 = .ok (.iload_n 3, 1) := by decide +kernel
theorem dX5_bestOrder_34 : decode cX5_bestOrder 34 = .ok (.invokevirtual 64, 3) := by decide +kernel
theorem dX5_bestOrder_37 : decode cX5_bestOrder 37 = .ok (.istore 5, 2) := by decide +kernel
theorem dX5_bestOrder_39 : decode cX5_bestOrder 39 = .ok (.aload_n 0, 1) := by decide +kernel
theorem dX5_bestOrder_40 : decode cX5_bestOrder 40 = .ok (.iload_n 2, 1) := by decide +kernel
theorem dX5_bestOrder_41 : decode cX5_bestOrder 41 = .ok (.iload 5, 2) := by decide +kernel
theorem dX5_bestOrder_43 : decode cX5_bestOrder 43 = .ok (.invokevirtual 68, 3) := by decide +kernel
theorem dX5_bestOrder_46 : decode cX5_bestOrder 46 = .ok (.istore_n 3, 1) := by decide +kernel
theorem dX5_bestOrder_47 : decode cX5_bestOrder 47 = .ok (.iload_n 1, 1) := by decide +kernel
theorem dX5_bestOrder_48 : decode cX5_bestOrder 48 = .ok (.iconst 1, 1) := by decide +kernel
theorem dX5_bestOrder_49 : decode cX5_bestOrder 49 = .ok (.iload 5, 2) := by decide +kernel
theorem dX5_bestOrder_51 : decode cX5_bestOrder 51 = .ok (.ishl, 1) := by decide +kernel
theorem dX5_bestOrder_52 : decode cX5_bestOrder 52 = .ok (.ior, 1) := by decide +kernel
theorem dX5_bestOrder_53 : decode cX5_bestOrder 53 = .ok (.istore_n 1, 1) := by decide +kernel
theorem dX5_bestOrder_54 : decode cX5_bestOrder 54 = .ok (.iload 5, 2) := by decide +kernel
theorem dX5_bestOrder_56 : decode cX5_bestOrder 56 = .ok (.istore_n 2, 1) := by decide +kernel
theorem dX5_bestOrder_57 : decode cX5_bestOrder 57 = .ok (.aload_n 0, 1) := by decide +kernel
theorem dX5_bestOrder_58 : decode cX5_bestOrder 58 = .ok (.getfield 27, 3) := by decide +kernel
theorem dX5_bestOrder_61 : decode cX5_bestOrder 61 = .ok (.iload 5, 2) := by decide +kernel
theorem dX5_bestOrder_63 : decode cX5_bestOrder 63 = .ok (.invokevirtual 72, 3) := by decide +kernel
theorem dX5_bestOrder_66 : decode cX5_bestOrder 66 = .ok (.iinc 4 1, 3) := by decide +kernel
theorem dX5_bestOrder_69 : decode cX5_bestOrder 69 = .ok (.goto (-52), 3) := by decide +kernel
theorem dX5_bestOrder_72 : decode cX5_bestOrder 72 = .ok (.aload_n 0, 1) := by decide +kernel
theorem dX5_bestOrder_73 : decode cX5_bestOrder 73 = .ok (.getfield 27, 3) := by decide +kernel
theorem dX5_bestOrder_76 : decode cX5_bestOrder 76 = .ok (.areturn, 1) := by decide +kernel
theorem dX5_firstToward_0 : decode cX5_firstToward 0 = .ok (.iload_n 2, 1) := by decide +kernel
theorem dX5_firstToward_1 : decode cX5_firstToward 1 = .ok (.invokestatic 76, 3) := by decide +kernel
theorem dX5_firstToward_4 : decode cX5_firstToward 4 = .ok (.istore 5, 2) := by decide +kernel
theorem dX5_firstToward_6 : decode cX5_firstToward 6 = .ok (.aload_n 0, 1) := by decide +kernel
theorem dX5_firstToward_7 : decode cX5_firstToward 7 = .ok (.iload_n 2, 1) := by decide +kernel
theorem dX5_firstToward_8 : decode cX5_firstToward 8 = .ok (.iload_n 3, 1) := by decide +kernel
theorem dX5_firstToward_9 : decode cX5_firstToward 9 = .ok (.iload 4, 2) := by decide +kernel
theorem dX5_firstToward_11 : decode cX5_firstToward 11 = .ok (.invokevirtual 82, 3) := by decide +kernel
theorem dX5_firstToward_14 : decode cX5_firstToward 14 = .ok (.istore 6, 2) := by decide +kernel
theorem dX5_firstToward_16 : decode cX5_firstToward 16 = .ok (.iconst 0, 1) := by decide +kernel
theorem dX5_firstToward_17 : decode cX5_firstToward 17 = .ok (.istore 7, 2) := by decide +kernel
theorem dX5_firstToward_19 : decode cX5_firstToward 19 = .ok (.iload 7, 2) := by decide +kernel
theorem dX5_firstToward_21 : decode cX5_firstToward 21 = .ok (.aload_n 0, 1) := by decide +kernel
theorem dX5_firstToward_22 : decode cX5_firstToward 22 = .ok (.getfield 37, 3) := by decide +kernel
theorem dX5_firstToward_25 : decode cX5_firstToward 25 = .ok (.if_icmp .ge 56, 3) := by decide +kernel
theorem dX5_firstToward_28 : decode cX5_firstToward 28 = .ok (.iload 6, 2) := by decide +kernel
theorem dX5_firstToward_30 : decode cX5_firstToward 30 = .ok (.iload 7, 2) := by decide +kernel
theorem dX5_firstToward_32 : decode cX5_firstToward 32 = .ok (.invokestatic 47, 3) := by decide +kernel
theorem dX5_firstToward_35 : decode cX5_firstToward 35 = .ok (.ifCond .eq 40, 3) := by decide +kernel
theorem dX5_firstToward_38 : decode cX5_firstToward 38 = .ok (.aload_n 0, 1) := by decide +kernel
theorem dX5_firstToward_39 : decode cX5_firstToward 39 = .ok (.getfield 18, 3) := by decide +kernel
theorem dX5_firstToward_42 : decode cX5_firstToward 42 = .ok (.iload 7, 2) := by decide +kernel
theorem dX5_firstToward_44 : decode cX5_firstToward 44 = .ok (.bipush 7, 2) := by decide +kernel
theorem dX5_firstToward_46 : decode cX5_firstToward 46 = .ok (.imul, 1) := by decide +kernel
theorem dX5_firstToward_47 : decode cX5_firstToward 47 = .ok (.iload 5, 2) := by decide +kernel
theorem dX5_firstToward_49 : decode cX5_firstToward 49 = .ok (.iadd, 1) := by decide +kernel
theorem dX5_firstToward_50 : decode cX5_firstToward 50 = .ok (.iaload, 1) := by decide +kernel
theorem dX5_firstToward_51 : decode cX5_firstToward 51 = .ok (.iload_n 1, 1) := by decide +kernel
theorem dX5_firstToward_52 : decode cX5_firstToward 52 = .ok (.if_icmp .gt 23, 3) := by decide +kernel
theorem dX5_firstToward_55 : decode cX5_firstToward 55 = .ok (.aload_n 0, 1) := by decide +kernel
theorem dX5_firstToward_56 : decode cX5_firstToward 56 = .ok (.getfield 15, 3) := by decide +kernel
theorem dX5_firstToward_59 : decode cX5_firstToward 59 = .ok (.aload_n 0, 1) := by decide +kernel
theorem dX5_firstToward_60 : decode cX5_firstToward 60 = .ok (.iload_n 2, 1) := by decide +kernel
theorem dX5_firstToward_61 : decode cX5_firstToward 61 = .ok (.iload_n 3, 1) := by decide +kernel
theorem dX5_firstToward_62 : decode cX5_firstToward 62 = .ok (.iload 7, 2) := by decide +kernel
theorem dX5_firstToward_64 : decode cX5_firstToward 64 = .ok (.invokevirtual 86, 3) := by decide +kernel
theorem dX5_firstToward_67 : decode cX5_firstToward 67 = .ok (.iaload, 1) := by decide +kernel
theorem dX5_firstToward_68 : decode cX5_firstToward 68 = .ok (.iload_n 1, 1) := by decide +kernel
theorem dX5_firstToward_69 : decode cX5_firstToward 69 = .ok (.if_icmp .gt 6, 3) := by decide +kernel
theorem dX5_firstToward_72 : decode cX5_firstToward 72 = .ok (.iload 7, 2) := by decide +kernel
theorem dX5_firstToward_74 : decode cX5_firstToward 74 = .ok (.ireturn, 1) := by decide +kernel
theorem dX5_firstToward_75 : decode cX5_firstToward 75 = .ok (.iinc 7 1, 3) := by decide +kernel
theorem dX5_firstToward_78 : decode cX5_firstToward 78 = .ok (.goto (-59), 3) := by decide +kernel
theorem dX5_firstToward_81 : decode cX5_firstToward 81 = .ok (.iconst 0, 1) := by decide +kernel
theorem dX5_firstToward_82 : decode cX5_firstToward 82 = .ok (.ireturn, 1) := by decide +kernel
theorem dX5_noteWear_0 : decode cX5_noteWear 0 = .ok (.iconst 0, 1) := by decide +kernel
theorem dX5_noteWear_1 : decode cX5_noteWear 1 = .ok (.istore_n 3, 1) := by decide +kernel
theorem dX5_noteWear_2 : decode cX5_noteWear 2 = .ok (.iload_n 3, 1) := by decide +kernel
theorem dX5_noteWear_3 : decode cX5_noteWear 3 = .ok (.aload_n 0, 1) := by decide +kernel
theorem dX5_noteWear_4 : decode cX5_noteWear 4 = .ok (.getfield 37, 3) := by decide +kernel
theorem dX5_noteWear_7 : decode cX5_noteWear 7 = .ok (.if_icmp .ge 50, 3) := by decide +kernel
theorem dX5_noteWear_10 : decode cX5_noteWear 10 = .ok (.iconst 0, 1) := by decide +kernel
theorem dX5_noteWear_11 : decode cX5_noteWear 11 = .ok (.istore 4, 2) := by decide +kernel
theorem dX5_noteWear_13 : decode cX5_noteWear 13 = .ok (.iload 4, 2) := by decide +kernel
theorem dX5_noteWear_15 : decode cX5_noteWear 15 = .ok (.aload_n 0, 1) := by decide +kernel
theorem dX5_noteWear_16 : decode cX5_noteWear 16 = .ok (.getfield 37, 3) := by decide +kernel
theorem dX5_noteWear_19 : decode cX5_noteWear 19 = .ok (.if_icmp .ge 32, 3) := by decide +kernel
theorem dX5_noteWear_22 : decode cX5_noteWear 22 = .ok (.aload_n 0, 1) := by decide +kernel
theorem dX5_noteWear_23 : decode cX5_noteWear 23 = .ok (.getfield 18, 3) := by decide +kernel
theorem dX5_noteWear_26 : decode cX5_noteWear 26 = .ok (.iload_n 3, 1) := by decide +kernel
theorem dX5_noteWear_27 : decode cX5_noteWear 27 = .ok (.bipush 7, 2) := by decide +kernel
theorem dX5_noteWear_29 : decode cX5_noteWear 29 = .ok (.imul, 1) := by decide +kernel
theorem dX5_noteWear_30 : decode cX5_noteWear 30 = .ok (.iload 4, 2) := by decide +kernel
theorem dX5_noteWear_32 : decode cX5_noteWear 32 = .ok (.iadd, 1) := by decide +kernel
theorem dX5_noteWear_33 : decode cX5_noteWear 33 = .ok (.aload_n 1, 1) := by decide +kernel
theorem dX5_noteWear_34 : decode cX5_noteWear 34 = .ok (.iload_n 3, 1) := by decide +kernel
theorem dX5_noteWear_35 : decode cX5_noteWear 35 = .ok (.iload 4, 2) := by decide +kernel
theorem dX5_noteWear_37 : decode cX5_noteWear 37 = .ok (.aload_n 2, 1) := by decide +kernel
theorem dX5_noteWear_38 : decode cX5_noteWear 38 = .ok (.invokevirtual 89, 3) := by decide +kernel
theorem dX5_noteWear_41 : decode cX5_noteWear 41 = .ok (.invokevirtual 95, 3) := by decide +kernel
theorem dX5_noteWear_44 : decode cX5_noteWear 44 = .ok (.iastore, 1) := by decide +kernel
theorem dX5_noteWear_45 : decode cX5_noteWear 45 = .ok (.iinc 4 1, 3) := by decide +kernel
theorem dX5_noteWear_48 : decode cX5_noteWear 48 = .ok (.goto (-35), 3) := by decide +kernel
theorem dX5_noteWear_51 : decode cX5_noteWear 51 = .ok (.iinc 3 1, 3) := by decide +kernel
theorem dX5_noteWear_54 : decode cX5_noteWear 54 = .ok (.goto (-52), 3) := by decide +kernel
theorem dX5_noteWear_57 : decode cX5_noteWear 57 = .ok (.return_, 1) := by decide +kernel
theorem dX5_noteNeighbours_0 : decode cX5_noteNeighbours 0 = .ok (.aload_n 0, 1) := by decide +kernel
theorem dX5_noteNeighbours_1 : decode cX5_noteNeighbours 1 = .ok (.iconst 0, 1) := by decide +kernel
theorem dX5_noteNeighbours_2 : decode cX5_noteNeighbours 2 = .ok (.putfield 55, 3) := by decide +kernel
theorem dX5_noteNeighbours_5 : decode cX5_noteNeighbours 5 = .ok (.iconst 0, 1) := by decide +kernel
theorem dX5_noteNeighbours_6 : decode cX5_noteNeighbours 6 = .ok (.istore_n 3, 1) := by decide +kernel
theorem dX5_noteNeighbours_7 : decode cX5_noteNeighbours 7 = .ok (.iload_n 3, 1) := by decide +kernel
theorem dX5_noteNeighbours_8 : decode cX5_noteNeighbours 8 = .ok (.aload_n 0, 1) := by decide +kernel
theorem dX5_noteNeighbours_9 : decode cX5_noteNeighbours 9 = .ok (.getfield 37, 3) := by decide +kernel
theorem dX5_noteNeighbours_12 : decode cX5_noteNeighbours 12 = .ok (.if_icmp .ge 85, 3) := by decide +kernel
theorem dX5_noteNeighbours_15 : decode cX5_noteNeighbours 15 = .ok (.aload_n 2, 1) := by decide +kernel
theorem dX5_noteNeighbours_16 : decode cX5_noteNeighbours 16 = .ok (.invokevirtual 99, 3) := by decide +kernel
theorem dX5_noteNeighbours_19 : decode cX5_noteNeighbours 19 = .ok (.ifCond .eq 23, 3) := by decide +kernel
theorem dX5_noteNeighbours_22 : decode cX5_noteNeighbours 22 = .ok (.aload_n 1, 1) := by decide +kernel
theorem dX5_noteNeighbours_23 : decode cX5_noteNeighbours 23 = .ok (.iload_n 3, 1) := by decide +kernel
theorem dX5_noteNeighbours_24 : decode cX5_noteNeighbours 24 = .ok (.invokevirtual 102, 3) := by decide +kernel
theorem dX5_noteNeighbours_27 : decode cX5_noteNeighbours 27 = .ok (.ifCond .eq 15, 3) := by decide +kernel
theorem dX5_noteNeighbours_30 : decode cX5_noteNeighbours 30 = .ok (.aload_n 0, 1) := by decide +kernel
theorem dX5_noteNeighbours_31 : decode cX5_noteNeighbours 31 = .ok (.dup, 1) := by decide +kernel
theorem dX5_noteNeighbours_32 : decode cX5_noteNeighbours 32 = .ok (.getfield 55, 3) := by decide +kernel
theorem dX5_noteNeighbours_35 : decode cX5_noteNeighbours 35 = .ok (.iconst 1, 1) := by decide +kernel
theorem dX5_noteNeighbours_36 : decode cX5_noteNeighbours 36 = .ok (.iload_n 3, 1) := by decide +kernel
theorem dX5_noteNeighbours_37 : decode cX5_noteNeighbours 37 = .ok (.ishl, 1) := by decide +kernel
theorem dX5_noteNeighbours_38 : decode cX5_noteNeighbours 38 = .ok (.ior, 1) := by decide +kernel
theorem dX5_noteNeighbours_39 : decode cX5_noteNeighbours 39 = .ok (.putfield 55, 3) := by decide +kernel
theorem dX5_noteNeighbours_42 : decode cX5_noteNeighbours 42 = .ok (.aload_n 0, 1) := by decide +kernel
theorem dX5_noteNeighbours_43 : decode cX5_noteNeighbours 43 = .ok (.getfield 21, 3) := by decide +kernel
theorem dX5_noteNeighbours_46 : decode cX5_noteNeighbours 46 = .ok (.iload_n 3, 1) := by decide +kernel
theorem dX5_noteNeighbours_47 : decode cX5_noteNeighbours 47 = .ok (.iconst 0, 1) := by decide +kernel
theorem dX5_noteNeighbours_48 : decode cX5_noteNeighbours 48 = .ok (.iastore, 1) := by decide +kernel
theorem dX5_noteNeighbours_49 : decode cX5_noteNeighbours 49 = .ok (.iconst 0, 1) := by decide +kernel
theorem dX5_noteNeighbours_50 : decode cX5_noteNeighbours 50 = .ok (.istore 4, 2) := by decide +kernel
theorem dX5_noteNeighbours_52 : decode cX5_noteNeighbours 52 = .ok (.iload 4, 2) := by decide +kernel
theorem dX5_noteNeighbours_54 : decode cX5_noteNeighbours 54 = .ok (.aload_n 0, 1) := by decide +kernel
theorem dX5_noteNeighbours_55 : decode cX5_noteNeighbours 55 = .ok (.getfield 37, 3) := by decide +kernel
theorem dX5_noteNeighbours_58 : decode cX5_noteNeighbours 58 = .ok (.if_icmp .ge 33, 3) := by decide +kernel
theorem dX5_noteNeighbours_61 : decode cX5_noteNeighbours 61 = .ok (.aload_n 2, 1) := by decide +kernel
theorem dX5_noteNeighbours_62 : decode cX5_noteNeighbours 62 = .ok (.aload_n 1, 1) := by decide +kernel
theorem dX5_noteNeighbours_63 : decode cX5_noteNeighbours 63 = .ok (.iload_n 3, 1) := by decide +kernel
theorem dX5_noteNeighbours_64 : decode cX5_noteNeighbours 64 = .ok (.iload 4, 2) := by decide +kernel
theorem dX5_noteNeighbours_66 : decode cX5_noteNeighbours 66 = .ok (.invokevirtual 106, 3) := by decide +kernel
theorem dX5_noteNeighbours_69 : decode cX5_noteNeighbours 69 = .ok (.ifCond .eq 16, 3) := by decide +kernel
theorem dX5_noteNeighbours_72 : decode cX5_noteNeighbours 72 = .ok (.aload_n 0, 1) := by decide +kernel
theorem dX5_noteNeighbours_73 : decode cX5_noteNeighbours 73 = .ok (.getfield 21, 3) := by decide +kernel
theorem dX5_noteNeighbours_76 : decode cX5_noteNeighbours 76 = .ok (.iload_n 3, 1) := by decide +kernel
theorem dX5_noteNeighbours_77 : decode cX5_noteNeighbours 77 = .ok (.dup2, 1) := by decide +kernel
theorem dX5_noteNeighbours_78 : decode cX5_noteNeighbours 78 = .ok (.iaload, 1) := by decide +kernel
theorem dX5_noteNeighbours_79 : decode cX5_noteNeighbours 79 = .ok (.iconst 1, 1) := by decide +kernel
theorem dX5_noteNeighbours_80 : decode cX5_noteNeighbours 80 = .ok (.iload 4, 2) := by decide +kernel
theorem dX5_noteNeighbours_82 : decode cX5_noteNeighbours 82 = .ok (.ishl, 1) := by decide +kernel
theorem dX5_noteNeighbours_83 : decode cX5_noteNeighbours 83 = .ok (.ior, 1) := by decide +kernel
theorem dX5_noteNeighbours_84 : decode cX5_noteNeighbours 84 = .ok (.iastore, 1) := by decide +kernel
theorem dX5_noteNeighbours_85 : decode cX5_noteNeighbours 85 = .ok (.iinc 4 1, 3) := by decide +kernel
theorem dX5_noteNeighbours_88 : decode cX5_noteNeighbours 88 = .ok (.goto (-36), 3) := by decide +kernel
theorem dX5_noteNeighbours_91 : decode cX5_noteNeighbours 91 = .ok (.iinc 3 1, 3) := by decide +kernel
theorem dX5_noteNeighbours_94 : decode cX5_noteNeighbours 94 = .ok (.goto (-87), 3) := by decide +kernel
theorem dX5_noteNeighbours_97 : decode cX5_noteNeighbours 97 = .ok (.aload_n 0, 1) := by decide +kernel
theorem dX5_noteNeighbours_98 : decode cX5_noteNeighbours 98 = .ok (.getfield 21, 3) := by decide +kernel
theorem dX5_noteNeighbours_101 : decode cX5_noteNeighbours 101 = .ok (.bipush 7, 2) := by decide +kernel
theorem dX5_noteNeighbours_103 : decode cX5_noteNeighbours 103 = .ok (.iconst 1, 1) := by decide +kernel
theorem dX5_noteNeighbours_104 : decode cX5_noteNeighbours 104 = .ok (.aload_n 0, 1) := by decide +kernel
theorem dX5_noteNeighbours_105 : decode cX5_noteNeighbours 105 = .ok (.getfield 37, 3) := by decide +kernel
theorem dX5_noteNeighbours_108 : decode cX5_noteNeighbours 108 = .ok (.ishl, 1) := by decide +kernel
theorem dX5_noteNeighbours_109 : decode cX5_noteNeighbours 109 = .ok (.iconst 1, 1) := by decide +kernel
theorem dX5_noteNeighbours_110 : decode cX5_noteNeighbours 110 = .ok (.isub, 1) := by decide +kernel
theorem dX5_noteNeighbours_111 : decode cX5_noteNeighbours 111 = .ok (.iastore, 1) := by decide +kernel
theorem dX5_noteNeighbours_112 : decode cX5_noteNeighbours 112 = .ok (.return_, 1) := by decide +kernel
theorem dX5_settle_0 : decode cX5_settle 0 = .ok (.iload 4, 2) := by decide +kernel
theorem dX5_settle_2 : decode cX5_settle 2 = .ok (.ifCond .eq 7, 3) := by decide +kernel
theorem dX5_settle_5 : decode cX5_settle 5 = .ok (.iconst 1, 1) := by decide +kernel
theorem dX5_settle_6 : decode cX5_settle 6 = .ok (.goto 4, 3) := by decide +kernel
theorem dX5_settle_9 : decode cX5_settle 9 = .ok (.iconst 0, 1) := by decide +kernel
theorem dX5_settle_10 : decode cX5_settle 10 = .ok (.istore 5, 2) := by decide +kernel
theorem dX5_settle_12 : decode cX5_settle 12 = .ok (.iload 4, 2) := by decide +kernel
theorem dX5_settle_14 : decode cX5_settle 14 = .ok (.ifCond .eq 7, 3) := by decide +kernel
theorem dX5_settle_17 : decode cX5_settle 17 = .ok (.iconst 0, 1) := by decide +kernel
theorem dX5_settle_18 : decode cX5_settle 18 = .ok (.goto 6, 3) := by decide +kernel
end
section
theorem dX5_settle_21 : decode cX5_settle 21 = .ok (.sipush 1000, 3) := by decide +kernel
theorem dX5_settle_24 : decode cX5_settle 24 = .ok (.istore 6, 2) := by decide +kernel
theorem dX5_settle_26 : decode cX5_settle 26 = .ok (.iload_n 1, 1) := by decide +kernel
theorem dX5_settle_27 : decode cX5_settle 27 = .ok (.invokestatic 76, 3) := by decide +kernel
theorem dX5_settle_30 : decode cX5_settle 30 = .ok (.istore 7, 2) := by decide +kernel
theorem dX5_settle_32 : decode cX5_settle 32 = .ok (.aload_n 0, 1) := by decide +kernel
theorem dX5_settle_33 : decode cX5_settle 33 = .ok (.iload_n 1, 1) := by decide +kernel
theorem dX5_settle_34 : decode cX5_settle 34 = .ok (.iload_n 2, 1) := by decide +kernel
theorem dX5_settle_35 : decode cX5_settle 35 = .ok (.iload_n 3, 1) := by decide +kernel
theorem dX5_settle_36 : decode cX5_settle 36 = .ok (.invokevirtual 82, 3) := by decide +kernel
theorem dX5_settle_39 : decode cX5_settle 39 = .ok (.istore 8, 2) := by decide +kernel
theorem dX5_settle_41 : decode cX5_settle 41 = .ok (.iconst 0, 1) := by decide +kernel
theorem dX5_settle_42 : decode cX5_settle 42 = .ok (.istore 9, 2) := by decide +kernel
theorem dX5_settle_44 : decode cX5_settle 44 = .ok (.iload 9, 2) := by decide +kernel
theorem dX5_settle_46 : decode cX5_settle 46 = .ok (.aload_n 0, 1) := by decide +kernel
theorem dX5_settle_47 : decode cX5_settle 47 = .ok (.getfield 37, 3) := by decide +kernel
theorem dX5_settle_50 : decode cX5_settle 50 = .ok (.if_icmp .ge 71, 3) := by decide +kernel
theorem dX5_settle_53 : decode cX5_settle 53 = .ok (.iload 8, 2) := by decide +kernel
theorem dX5_settle_55 : decode cX5_settle 55 = .ok (.iload 9, 2) := by decide +kernel
theorem dX5_settle_57 : decode cX5_settle 57 = .ok (.invokestatic 47, 3) := by decide +kernel
theorem dX5_settle_60 : decode cX5_settle 60 = .ok (.ifCond .eq 55, 3) := by decide +kernel
theorem dX5_settle_63 : decode cX5_settle 63 = .ok (.aload_n 0, 1) := by decide +kernel
theorem dX5_settle_64 : decode cX5_settle 64 = .ok (.iload_n 1, 1) := by decide +kernel
theorem dX5_settle_65 : decode cX5_settle 65 = .ok (.iload_n 2, 1) := by decide +kernel
theorem dX5_settle_66 : decode cX5_settle 66 = .ok (.iload 9, 2) := by decide +kernel
theorem dX5_settle_68 : decode cX5_settle 68 = .ok (.invokevirtual 86, 3) := by decide +kernel
theorem dX5_settle_71 : decode cX5_settle 71 = .ok (.istore 10, 2) := by decide +kernel
theorem dX5_settle_73 : decode cX5_settle 73 = .ok (.iload 5, 2) := by decide +kernel
theorem dX5_settle_75 : decode cX5_settle 75 = .ok (.aload_n 0, 1) := by decide +kernel
theorem dX5_settle_76 : decode cX5_settle 76 = .ok (.getfield 11, 3) := by decide +kernel
theorem dX5_settle_79 : decode cX5_settle 79 = .ok (.iload 10, 2) := by decide +kernel
theorem dX5_settle_81 : decode cX5_settle 81 = .ok (.iaload, 1) := by decide +kernel
theorem dX5_settle_82 : decode cX5_settle 82 = .ok (.iadd, 1) := by decide +kernel
theorem dX5_settle_83 : decode cX5_settle 83 = .ok (.istore 5, 2) := by decide +kernel
theorem dX5_settle_85 : decode cX5_settle 85 = .ok (.iload 6, 2) := by decide +kernel
theorem dX5_settle_87 : decode cX5_settle 87 = .ok (.aload_n 0, 1) := by decide +kernel
theorem dX5_settle_88 : decode cX5_settle 88 = .ok (.getfield 18, 3) := by decide +kernel
theorem dX5_settle_91 : decode cX5_settle 91 = .ok (.iload 9, 2) := by decide +kernel
theorem dX5_settle_93 : decode cX5_settle 93 = .ok (.bipush 7, 2) := by decide +kernel
theorem dX5_settle_95 : decode cX5_settle 95 = .ok (.imul, 1) := by decide +kernel
theorem dX5_settle_96 : decode cX5_settle 96 = .ok (.iload 7, 2) := by decide +kernel
theorem dX5_settle_98 : decode cX5_settle 98 = .ok (.iadd, 1) := by decide +kernel
theorem dX5_settle_99 : decode cX5_settle 99 = .ok (.iaload, 1) := by decide +kernel
theorem dX5_settle_100 : decode cX5_settle 100 = .ok (.aload_n 0, 1) := by decide +kernel
theorem dX5_settle_101 : decode cX5_settle 101 = .ok (.getfield 15, 3) := by decide +kernel
theorem dX5_settle_104 : decode cX5_settle 104 = .ok (.iload 10, 2) := by decide +kernel
theorem dX5_settle_106 : decode cX5_settle 106 = .ok (.iaload, 1) := by decide +kernel
theorem dX5_settle_107 : decode cX5_settle 107 = .ok (.invokestatic 110, 3) := by decide +kernel
theorem dX5_settle_110 : decode cX5_settle 110 = .ok (.invokestatic 115, 3) := by decide +kernel
theorem dX5_settle_113 : decode cX5_settle 113 = .ok (.istore 6, 2) := by decide +kernel
theorem dX5_settle_115 : decode cX5_settle 115 = .ok (.iinc 9 1, 3) := by decide +kernel
theorem dX5_settle_118 : decode cX5_settle 118 = .ok (.goto (-74), 3) := by decide +kernel
theorem dX5_settle_121 : decode cX5_settle 121 = .ok (.aload_n 0, 1) := by decide +kernel
theorem dX5_settle_122 : decode cX5_settle 122 = .ok (.getfield 11, 3) := by decide +kernel
theorem dX5_settle_125 : decode cX5_settle 125 = .ok (.iload_n 1, 1) := by decide +kernel
theorem dX5_settle_126 : decode cX5_settle 126 = .ok (.iload_n 2, 1) := by decide +kernel
theorem dX5_settle_127 : decode cX5_settle 127 = .ok (.iload_n 3, 1) := by decide +kernel
theorem dX5_settle_128 : decode cX5_settle 128 = .ok (.invokestatic 118, 3) := by decide +kernel
theorem dX5_settle_131 : decode cX5_settle 131 = .ok (.iload 5, 2) := by decide +kernel
theorem dX5_settle_133 : decode cX5_settle 133 = .ok (.iastore, 1) := by decide +kernel
theorem dX5_settle_134 : decode cX5_settle 134 = .ok (.aload_n 0, 1) := by decide +kernel
theorem dX5_settle_135 : decode cX5_settle 135 = .ok (.getfield 15, 3) := by decide +kernel
theorem dX5_settle_138 : decode cX5_settle 138 = .ok (.iload_n 1, 1) := by decide +kernel
theorem dX5_settle_139 : decode cX5_settle 139 = .ok (.iload_n 2, 1) := by decide +kernel
theorem dX5_settle_140 : decode cX5_settle 140 = .ok (.iload_n 3, 1) := by decide +kernel
theorem dX5_settle_141 : decode cX5_settle 141 = .ok (.invokestatic 118, 3) := by decide +kernel
theorem dX5_settle_144 : decode cX5_settle 144 = .ok (.iload 6, 2) := by decide +kernel
theorem dX5_settle_146 : decode cX5_settle 146 = .ok (.iastore, 1) := by decide +kernel
theorem dX5_settle_147 : decode cX5_settle 147 = .ok (.return_, 1) := by decide +kernel
theorem dX5_openTo_0 : decode cX5_openTo 0 = .ok (.aload_n 0, 1) := by decide +kernel
theorem dX5_openTo_1 : decode cX5_openTo 1 = .ok (.getfield 21, 3) := by decide +kernel
theorem dX5_openTo_4 : decode cX5_openTo 4 = .ok (.iload_n 2, 1) := by decide +kernel
theorem dX5_openTo_5 : decode cX5_openTo 5 = .ok (.iaload, 1) := by decide +kernel
theorem dX5_openTo_6 : decode cX5_openTo 6 = .ok (.iload_n 1, 1) := by decide +kernel
theorem dX5_openTo_7 : decode cX5_openTo 7 = .ok (.iconst (-1), 1) := by decide +kernel
theorem dX5_openTo_8 : decode cX5_openTo 8 = .ok (.ixor, 1) := by decide +kernel
theorem dX5_openTo_9 : decode cX5_openTo 9 = .ok (.iand, 1) := by decide +kernel
theorem dX5_openTo_10 : decode cX5_openTo 10 = .ok (.istore 4, 2) := by decide +kernel
theorem dX5_openTo_12 : decode cX5_openTo 12 = .ok (.iload_n 3, 1) := by decide +kernel
theorem dX5_openTo_13 : decode cX5_openTo 13 = .ok (.iconst 1, 1) := by decide +kernel
theorem dX5_openTo_14 : decode cX5_openTo 14 = .ok (.if_icmp .ne 13, 3) := by decide +kernel
theorem dX5_openTo_17 : decode cX5_openTo 17 = .ok (.iload 4, 2) := by decide +kernel
theorem dX5_openTo_19 : decode cX5_openTo 19 = .ok (.aload_n 0, 1) := by decide +kernel
theorem dX5_openTo_20 : decode cX5_openTo 20 = .ok (.getfield 55, 3) := by decide +kernel
theorem dX5_openTo_23 : decode cX5_openTo 23 = .ok (.iand, 1) := by decide +kernel
theorem dX5_openTo_24 : decode cX5_openTo 24 = .ok (.goto 5, 3) := by decide +kernel
theorem dX5_openTo_27 : decode cX5_openTo 27 = .ok (.iload 4, 2) := by decide +kernel
theorem dX5_openTo_29 : decode cX5_openTo 29 = .ok (.ireturn, 1) := by decide +kernel
theorem dX5_stateThen_0 : decode cX5_stateThen 0 = .ok (.iload_n 1, 1) := by decide +kernel
theorem dX5_stateThen_1 : decode cX5_stateThen 1 = .ok (.iconst 1, 1) := by decide +kernel
theorem dX5_stateThen_2 : decode cX5_stateThen 2 = .ok (.iload_n 3, 1) := by decide +kernel
theorem dX5_stateThen_3 : decode cX5_stateThen 3 = .ok (.ishl, 1) := by decide +kernel
theorem dX5_stateThen_4 : decode cX5_stateThen 4 = .ok (.ior, 1) := by decide +kernel
theorem dX5_stateThen_5 : decode cX5_stateThen 5 = .ok (.iload_n 3, 1) := by decide +kernel
theorem dX5_stateThen_6 : decode cX5_stateThen 6 = .ok (.aload_n 0, 1) := by decide +kernel
theorem dX5_stateThen_7 : decode cX5_stateThen 7 = .ok (.iload_n 2, 1) := by decide +kernel
theorem dX5_stateThen_8 : decode cX5_stateThen 8 = .ok (.iload_n 3, 1) := by decide +kernel
theorem dX5_stateThen_9 : decode cX5_stateThen 9 = .ok (.invokevirtual 68, 3) := by decide +kernel
theorem dX5_stateThen_12 : decode cX5_stateThen 12 = .ok (.invokestatic 118, 3) := by decide +kernel
theorem dX5_stateThen_15 : decode cX5_stateThen 15 = .ok (.ireturn, 1) := by decide +kernel
theorem dX5_aloneThen_0 : decode cX5_aloneThen 0 = .ok (.aload_n 0, 1) := by decide +kernel
theorem dX5_aloneThen_1 : decode cX5_aloneThen 1 = .ok (.getfield 55, 3) := by decide +kernel
theorem dX5_aloneThen_4 : decode cX5_aloneThen 4 = .ok (.iload_n 2, 1) := by decide +kernel
theorem dX5_aloneThen_5 : decode cX5_aloneThen 5 = .ok (.invokestatic 47, 3) := by decide +kernel
theorem dX5_aloneThen_8 : decode cX5_aloneThen 8 = .ok (.ifCond .eq 18, 3) := by decide +kernel
theorem dX5_aloneThen_11 : decode cX5_aloneThen 11 = .ok (.aload_n 0, 1) := by decide +kernel
theorem dX5_aloneThen_12 : decode cX5_aloneThen 12 = .ok (.getfield 55, 3) := by decide +kernel
theorem dX5_aloneThen_15 : decode cX5_aloneThen 15 = .ok (.iload_n 1, 1) := by decide +kernel
theorem dX5_aloneThen_16 : decode cX5_aloneThen 16 = .ok (.invokestatic 47, 3) := by decide +kernel
theorem dX5_aloneThen_19 : decode cX5_aloneThen 19 = .ok (.ifCond .ne 7, 3) := by decide +kernel
theorem dX5_aloneThen_22 : decode cX5_aloneThen 22 = .ok (.iconst 1, 1) := by decide +kernel
theorem dX5_aloneThen_23 : decode cX5_aloneThen 23 = .ok (.goto 4, 3) := by decide +kernel
theorem dX5_aloneThen_26 : decode cX5_aloneThen 26 = .ok (.iconst 0, 1) := by decide +kernel
theorem dX5_aloneThen_27 : decode cX5_aloneThen 27 = .ok (.ireturn, 1) := by decide +kernel
theorem dX5_isIn_0 : decode cX5_isIn 0 = .ok (.iload_n 0, 1) := by decide +kernel
theorem dX5_isIn_1 : decode cX5_isIn 1 = .ok (.iload_n 1, 1) := by decide +kernel
theorem dX5_isIn_2 : decode cX5_isIn 2 = .ok (.ishr, 1) := by decide +kernel
theorem dX5_isIn_3 : decode cX5_isIn 3 = .ok (.iconst 1, 1) := by decide +kernel
theorem dX5_isIn_4 : decode cX5_isIn 4 = .ok (.iand, 1) := by decide +kernel
theorem dX5_isIn_5 : decode cX5_isIn 5 = .ok (.iconst 1, 1) := by decide +kernel
theorem dX5_isIn_6 : decode cX5_isIn 6 = .ok (.if_icmp .ne 7, 3) := by decide +kernel
theorem dX5_isIn_9 : decode cX5_isIn 9 = .ok (.iconst 1, 1) := by decide +kernel
theorem dX5_isIn_10 : decode cX5_isIn 10 = .ok (.goto 4, 3) := by decide +kernel
theorem dX5_isIn_13 : decode cX5_isIn 13 = .ok (.iconst 0, 1) := by decide +kernel
theorem dX5_isIn_14 : decode cX5_isIn 14 = .ok (.ireturn, 1) := by decide +kernel
theorem dX5_stateOf_0 : decode cX5_stateOf 0 = .ok (.iload_n 0, 1) := by decide +kernel
theorem dX5_stateOf_1 : decode cX5_stateOf 1 = .ok (.bipush 8, 2) := by decide +kernel
theorem dX5_stateOf_3 : decode cX5_stateOf 3 = .ok (.imul, 1) := by decide +kernel
theorem dX5_stateOf_4 : decode cX5_stateOf 4 = .ok (.iload_n 1, 1) := by decide +kernel
theorem dX5_stateOf_5 : decode cX5_stateOf 5 = .ok (.iadd, 1) := by decide +kernel
theorem dX5_stateOf_6 : decode cX5_stateOf 6 = .ok (.iconst 2, 1) := by decide +kernel
theorem dX5_stateOf_7 : decode cX5_stateOf 7 = .ok (.imul, 1) := by decide +kernel
theorem dX5_stateOf_8 : decode cX5_stateOf 8 = .ok (.iload_n 2, 1) := by decide +kernel
theorem dX5_stateOf_9 : decode cX5_stateOf 9 = .ok (.iadd, 1) := by decide +kernel
theorem dX5_stateOf_10 : decode cX5_stateOf 10 = .ok (.ireturn, 1) := by decide +kernel
theorem dX6_init_0 : decode cX6_init 0 = .ok (.aload_n 0, 1) := by decide +kernel
theorem dX6_init_1 : decode cX6_init 1 = .ok (.invokespecial 3, 3) := by decide +kernel
theorem dX6_init_4 : decode cX6_init 4 = .ok (.aload_n 0, 1) := by decide +kernel
theorem dX6_init_5 : decode cX6_init 5 = .ok (.bipush 7, 2) := by decide +kernel
theorem dX6_init_7 : decode cX6_init 7 = .ok (.newarray .int, 2) := by decide +kernel
theorem dX6_init_9 : decode cX6_init 9 = .ok (.putfield 9, 3) := by decide +kernel
theorem dX6_init_12 : decode cX6_init 12 = .ok (.return_, 1) := by decide +kernel
theorem dX6_size_0 : decode cX6_size 0 = .ok (.aload_n 0, 1) := by decide +kernel
theorem dX6_size_1 : decode cX6_size 1 = .ok (.getfield 15, 3) := by decide +kernel
theorem dX6_size_4 : decode cX6_size 4 = .ok (.ireturn, 1) := by decide +kernel
theorem dX6_blockIn_0 : decode cX6_blockIn 0 = .ok (.iload_n 1, 1) := by decide +kernel
theorem dX6_blockIn_1 : decode cX6_blockIn 1 = .ok (.ifCond .lt 20, 3) := by decide +kernel
theorem dX6_blockIn_4 : decode cX6_blockIn 4 = .ok (.iload_n 1, 1) := by decide +kernel
theorem dX6_blockIn_5 : decode cX6_blockIn 5 = .ok (.aload_n 0, 1) := by decide +kernel
theorem dX6_blockIn_6 : decode cX6_blockIn 6 = .ok (.getfield 15, 3) := by decide +kernel
theorem dX6_blockIn_9 : decode cX6_blockIn 9 = .ok (.if_icmp .ge 12, 3) := by decide +kernel
theorem dX6_blockIn_12 : decode cX6_blockIn 12 = .ok (.aload_n 0, 1) := by decide +kernel
theorem dX6_blockIn_13 : decode cX6_blockIn 13 = .ok (.getfield 9, 3) := by decide +kernel
theorem dX6_blockIn_16 : decode cX6_blockIn 16 = .ok (.iload_n 1, 1) := by decide +kernel
theorem dX6_blockIn_17 : decode cX6_blockIn 17 = .ok (.iaload, 1) := by decide +kernel
theorem dX6_blockIn_18 : decode cX6_blockIn 18 = .ok (.goto 4, 3) := by decide +kernel
theorem dX6_blockIn_21 : decode cX6_blockIn 21 = .ok (.iconst 0, 1) := by decide +kernel
theorem dX6_blockIn_22 : decode cX6_blockIn 22 = .ok (.ireturn, 1) := by decide +kernel
theorem dX6_clear_0 : decode cX6_clear 0 = .ok (.aload_n 0, 1) := by decide +kernel
theorem dX6_clear_1 : decode cX6_clear 1 = .ok (.iconst 0, 1) := by decide +kernel
theorem dX6_clear_2 : decode cX6_clear 2 = .ok (.putfield 15, 3) := by decide +kernel
theorem dX6_clear_5 : decode cX6_clear 5 = .ok (.return_, 1) := by decide +kernel
theorem dX6_append_0 : decode cX6_append 0 = .ok (.aload_n 0, 1) := by decide +kernel
theorem dX6_append_1 : decode cX6_append 1 = .ok (.getfield 15, 3) := by decide +kernel
theorem dX6_append_4 : decode cX6_append 4 = .ok (.bipush 7, 2) := by decide +kernel
theorem dX6_append_6 : decode cX6_append 6 = .ok (.if_icmp .ge 23, 3) := by decide +kernel
theorem dX6_append_9 : decode cX6_append 9 = .ok (.aload_n 0, 1) := by decide +kernel
theorem dX6_append_10 : decode cX6_append 10 = .ok (.getfield 9, 3) := by decide +kernel
theorem dX6_append_13 : decode cX6_append 13 = .ok (.aload_n 0, 1) := by decide +kernel
theorem dX6_append_14 : decode cX6_append 14 = .ok (.getfield 15, 3) := by decide +kernel
theorem dX6_append_17 : decode cX6_append 17 = .ok (.iload_n 1, 1) := by decide +kernel
theorem dX6_append_18 : decode cX6_append 18 = .ok (.iastore, 1) := by decide +kernel
theorem dX6_append_19 : decode cX6_append 19 = .ok (.aload_n 0, 1) := by decide +kernel
theorem dX6_append_20 : decode cX6_append 20 = .ok (.dup, 1) := by decide +kernel
theorem dX6_append_21 : decode cX6_append 21 = .ok (.getfield 15, 3) := by decide +kernel
theorem dX6_append_24 : decode cX6_append 24 = .ok (.iconst 1, 1) := by decide +kernel
theorem dX6_append_25 : decode cX6_append 25 = .ok (.iadd, 1) := by decide +kernel
theorem dX6_append_26 : decode cX6_append 26 = .ok (.putfield 15, 3) := by decide +kernel
theorem dX6_append_29 : decode cX6_append 29 = .ok (.return_, 1) := by decide +kernel
theorem dX6_read_0 : decode cX6_read 0 = .ok (.aload_n 0, 1) := by decide +kernel
theorem dX6_read_1 : decode cX6_read 1 = .ok (.invokevirtual 19, 3) := by decide +kernel
theorem dX6_read_4 : decode cX6_read 4 = .ok (.iload_n 1, 1) := by decide +kernel
theorem dX6_read_5 : decode cX6_read 5 = .ok (.istore_n 3, 1) := by decide +kernel
theorem dX6_read_6 : decode cX6_read 6 = .ok (.iconst 0, 1) := by decide +kernel
theorem dX6_read_7 : decode cX6_read 7 = .ok (.istore 4, 2) := by decide +kernel
theorem dX6_read_9 : decode cX6_read 9 = .ok (.iconst 0, 1) := by decide +kernel
theorem dX6_read_10 : decode cX6_read 10 = .ok (.istore 5, 2) := by decide +kernel
theorem dX6_read_12 : decode cX6_read 12 = .ok (.iload 5, 2) := by decide +kernel
theorem dX6_read_14 : decode cX6_read 14 = .ok (.iload_n 2, 1) := by decide +kernel
theorem dX6_read_15 : decode cX6_read 15 = .ok (.if_icmp .ge 57, 3) := by decide +kernel
theorem dX6_read_18 : decode cX6_read 18 = .ok (.iload_n 3, 1) := by decide +kernel
theorem dX6_read_19 : decode cX6_read 19 = .ok (.ifCond .lt 53, 3) := by decide +kernel
theorem dX6_read_22 : decode cX6_read 22 = .ok (.iload_n 3, 1) := by decide +kernel
theorem dX6_read_23 : decode cX6_read 23 = .ok (.bipush 7, 2) := by decide +kernel
theorem dX6_read_25 : decode cX6_read 25 = .ok (.iand, 1) := by decide +kernel
theorem dX6_read_26 : decode cX6_read 26 = .ok (.istore 6, 2) := by decide +kernel
theorem dX6_read_28 : decode cX6_read 28 = .ok (.iload 6, 2) := by decide +kernel
theorem dX6_read_30 : decode cX6_read 30 = .ok (.iload_n 2, 1) := by decide +kernel
theorem dX6_read_31 : decode cX6_read 31 = .ok (.if_icmp .ge 14, 3) := by decide +kernel
theorem dX6_read_34 : decode cX6_read 34 = .ok (.iload 4, 2) := by decide +kernel
theorem dX6_read_36 : decode cX6_read 36 = .ok (.iload 6, 2) := by decide +kernel
theorem dX6_read_38 : decode cX6_read 38 = .ok (.ishr, 1) := by decide +kernel
theorem dX6_read_39 : decode cX6_read 39 = .ok (.iconst 1, 1) := by decide +kernel
theorem dX6_read_40 : decode cX6_read 40 = .ok (.iand, 1) := by decide +kernel
theorem dX6_read_41 : decode cX6_read 41 = .ok (.iconst 1, 1) := by decide +kernel
theorem dX6_read_42 : decode cX6_read 42 = .ok (.if_icmp .ne 5, 3) := by decide +kernel
theorem dX6_read_45 : decode cX6_read 45 = .ok (.iconst 0, 1) := by decide +kernel
theorem dX6_read_46 : decode cX6_read 46 = .ok (.ireturn, 1) := by decide +kernel
theorem dX6_read_47 : decode cX6_read 47 = .ok (.iload 4, 2) := by decide +kernel
theorem dX6_read_49 : decode cX6_read 49 = .ok (.iconst 1, 1) := by decide +kernel
theorem dX6_read_50 : decode cX6_read 50 = .ok (.iload 6, 2) := by decide +kernel
theorem dX6_read_52 : decode cX6_read 52 = .ok (.ishl, 1) := by decide +kernel
theorem dX6_read_53 : decode cX6_read 53 = .ok (.ior, 1) := by decide +kernel
theorem dX6_read_54 : decode cX6_read 54 = .ok (.istore 4, 2) := by decide +kernel
theorem dX6_read_56 : decode cX6_read 56 = .ok (.aload_n 0, 1) := by decide +kernel
theorem dX6_read_57 : decode cX6_read 57 = .ok (.iload 6, 2) := by decide +kernel
theorem dX6_read_59 : decode cX6_read 59 = .ok (.invokevirtual 22, 3) := by decide +kernel
theorem dX6_read_62 : decode cX6_read 62 = .ok (.iload_n 3, 1) := by decide +kernel
theorem dX6_read_63 : decode cX6_read 63 = .ok (.iconst 3, 1) := by decide +kernel
theorem dX6_read_64 : decode cX6_read 64 = .ok (.ishr, 1) := by decide +kernel
theorem dX6_read_65 : decode cX6_read 65 = .ok (.istore_n 3, 1) := by decide +kernel
theorem dX6_read_66 : decode cX6_read 66 = .ok (.iinc 5 1, 3) := by decide +kernel
theorem dX6_read_69 : decode cX6_read 69 = .ok (.goto (-57), 3) := by decide +kernel
theorem dX6_read_72 : decode cX6_read 72 = .ok (.iload_n 3, 1) := by decide +kernel
theorem dX6_read_73 : decode cX6_read 73 = .ok (.ifCond .ne 7, 3) := by decide +kernel
theorem dX6_read_76 : decode cX6_read 76 = .ok (.iconst 1, 1) := by decide +kernel
theorem dX6_read_77 : decode cX6_read 77 = .ok (.goto 4, 3) := by decide +kernel
theorem dX6_read_80 : decode cX6_read 80 = .ok (.iconst 0, 1) := by decide +kernel
theorem dX6_read_81 : decode cX6_read 81 = .ok (.ireturn, 1) := by decide +kernel
theorem dX6_turnRound_0 : decode cX6_turnRound 0 = .ok (.aload_n 0, 1) := by decide +kernel
theorem dX6_turnRound_1 : decode cX6_turnRound 1 = .ok (.invokevirtual 19, 3) := by decide +kernel
theorem dX6_turnRound_4 : decode cX6_turnRound 4 = .ok (.aload_n 1, 1) := by decide +kernel
theorem dX6_turnRound_5 : decode cX6_turnRound 5 = .ok (.invokevirtual 26, 3) := by decide +kernel
theorem dX6_turnRound_8 : decode cX6_turnRound 8 = .ok (.iconst 1, 1) := by decide +kernel
theorem dX6_turnRound_9 : decode cX6_turnRound 9 = .ok (.isub, 1) := by decide +kernel
theorem dX6_turnRound_10 : decode cX6_turnRound 10 = .ok (.istore_n 2, 1) := by decide +kernel
theorem dX6_turnRound_11 : decode cX6_turnRound 11 = .ok (.iload_n 2, 1) := by decide +kernel
theorem dX6_turnRound_12 : decode cX6_turnRound 12 = .ok (.ifCond .lt 18, 3) := by decide +kernel
theorem dX6_turnRound_15 : decode cX6_turnRound 15 = .ok (.aload_n 0, 1) := by decide +kernel
theorem dX6_turnRound_16 : decode cX6_turnRound 16 = .ok (.aload_n 1, 1) := by decide +kernel
theorem dX6_turnRound_17 : decode cX6_turnRound 17 = .ok (.iload_n 2, 1) := by decide +kernel
theorem dX6_turnRound_18 : decode cX6_turnRound 18 = .ok (.invokevirtual 31, 3) := by decide +kernel
theorem dX6_turnRound_21 : decode cX6_turnRound 21 = .ok (.invokevirtual 22, 3) := by decide +kernel
theorem dX6_turnRound_24 : decode cX6_turnRound 24 = .ok (.iinc 2 (-1), 3) := by decide +kernel
theorem dX6_turnRound_27 : decode cX6_turnRound 27 = .ok (.goto (-16), 3) := by decide +kernel
theorem dX6_turnRound_30 : decode cX6_turnRound 30 = .ok (.return_, 1) := by decide +kernel
theorem dX6_told_0 : decode cX6_told 0 = .ok (.iconst 0, 1) := by decide +kernel
theorem dX6_told_1 : decode cX6_told 1 = .ok (.istore_n 1, 1) := by decide +kernel
theorem dX6_told_2 : decode cX6_told 2 = .ok (.aload_n 0, 1) := by decide +kernel
theorem dX6_told_3 : decode cX6_told 3 = .ok (.getfield 15, 3) := by decide +kernel
theorem dX6_told_6 : decode cX6_told 6 = .ok (.iconst 1, 1) := by decide +kernel
theorem dX6_told_7 : decode cX6_told 7 = .ok (.isub, 1) := by decide +kernel
theorem dX6_told_8 : decode cX6_told 8 = .ok (.istore_n 2, 1) := by decide +kernel
theorem dX6_told_9 : decode cX6_told 9 = .ok (.iload_n 2, 1) := by decide +kernel
theorem dX6_told_10 : decode cX6_told 10 = .ok (.ifCond .lt 20, 3) := by decide +kernel
theorem dX6_told_13 : decode cX6_told 13 = .ok (.iload_n 1, 1) := by decide +kernel
theorem dX6_told_14 : decode cX6_told 14 = .ok (.iconst 3, 1) := by decide +kernel
theorem dX6_told_15 : decode cX6_told 15 = .ok (.ishl, 1) := by decide +kernel
theorem dX6_told_16 : decode cX6_told 16 = .ok (.aload_n 0, 1) := by decide +kernel
theorem dX6_told_17 : decode cX6_told 17 = .ok (.getfield 9, 3) := by decide +kernel
theorem dX6_told_20 : decode cX6_told 20 = .ok (.iload_n 2, 1) := by decide +kernel
theorem dX6_told_21 : decode cX6_told 21 = .ok (.iaload, 1) := by decide +kernel
theorem dX6_told_22 : decode cX6_told 22 = .ok (.ior, 1) := by decide +kernel
theorem dX6_told_23 : decode cX6_told 23 = .ok (.istore_n 1, 1) := by decide +kernel
theorem dX6_told_24 : decode cX6_told 24 = .ok (.iinc 2 (-1), 3) := by decide +kernel
theorem dX6_told_27 : decode cX6_told 27 = .ok (.goto (-18), 3) := by decide +kernel
theorem dX6_told_30 : decode cX6_told 30 = .ok (.iload_n 1, 1) := by decide +kernel
theorem dX6_told_31 : decode cX6_told 31 = .ok (.ireturn, 1) := by decide +kernel
theorem dX7_init_0 : decode cX7_init 0 = .ok (.aload_n 0, 1) := by decide +kernel
theorem dX7_init_1 : decode cX7_init 1 = .ok (.invokespecial 3, 3) := by decide +kernel
theorem dX7_init_4 : decode cX7_init 4 = .ok (.aload_n 0, 1) := by decide +kernel
theorem dX7_init_5 : decode cX7_init 5 = .ok (.bipush 16, 2) := by decide +kernel
theorem dX7_init_7 : decode cX7_init 7 = .ok (.newarray .int, 2) := by decide +kernel
theorem dX7_init_9 : decode cX7_init 9 = .ok (.putfield 9, 3) := by decide +kernel
theorem dX7_init_12 : decode cX7_init 12 = .ok (.return_, 1) := by decide +kernel
theorem dX7_length_0 : decode cX7_length 0 = .ok (.aload_n 0, 1) := by decide +kernel
theorem dX7_length_1 : decode cX7_length 1 = .ok (.getfield 15, 3) := by decide +kernel
theorem dX7_length_4 : decode cX7_length 4 = .ok (.ireturn, 1) := by decide +kernel
theorem dX7_letterAt_0 : decode cX7_letterAt 0 = .ok (.iload_n 1, 1) := by decide +kernel
theorem dX7_letterAt_1 : decode cX7_letterAt 1 = .ok (.ifCond .lt 20, 3) := by decide +kernel
theorem dX7_letterAt_4 : decode cX7_letterAt 4 = .ok (.iload_n 1, 1) := by decide +kernel
theorem dX7_letterAt_5 : decode cX7_letterAt 5 = .ok (.aload_n 0, 1) := by decide +kernel
theorem dX7_letterAt_6 : decode cX7_letterAt 6 = .ok (.getfield 15, 3) := by decide +kernel
theorem dX7_letterAt_9 : decode cX7_letterAt 9 = .ok (.if_icmp .ge 12, 3) := by decide +kernel
theorem dX7_letterAt_12 : decode cX7_letterAt 12 = .ok (.aload_n 0, 1) := by decide +kernel
theorem dX7_letterAt_13 : decode cX7_letterAt 13 = .ok (.getfield 9, 3) := by decide +kernel
theorem dX7_letterAt_16 : decode cX7_letterAt 16 = .ok (.iload_n 1, 1) := by decide +kernel
theorem dX7_letterAt_17 : decode cX7_letterAt 17 = .ok (.iaload, 1) := by decide +kernel
theorem dX7_letterAt_18 : decode cX7_letterAt 18 = .ok (.goto 4, 3) := by decide +kernel
theorem dX7_letterAt_21 : decode cX7_letterAt 21 = .ok (.iconst 0, 1) := by decide +kernel
theorem dX7_letterAt_22 : decode cX7_letterAt 22 = .ok (.ireturn, 1) := by decide +kernel
theorem dX7_clear_0 : decode cX7_clear 0 = .ok (.aload_n 0, 1) := by decide +kernel
theorem dX7_clear_1 : decode cX7_clear 1 = .ok (.iconst 0, 1) := by decide +kernel
theorem dX7_clear_2 : decode cX7_clear 2 = .ok (.putfield 15, 3) := by decide +kernel
theorem dX7_clear_5 : decode cX7_clear 5 = .ok (.return_, 1) := by decide +kernel
theorem dX7_lettersIn_0 : decode cX7_lettersIn 0 = .ok (.iconst 0, 1) := by decide +kernel
theorem dX7_lettersIn_1 : decode cX7_lettersIn 1 = .ok (.istore_n 2, 1) := by decide +kernel
theorem dX7_lettersIn_2 : decode cX7_lettersIn 2 = .ok (.iconst 0, 1) := by decide +kernel
theorem dX7_lettersIn_3 : decode cX7_lettersIn 3 = .ok (.istore_n 3, 1) := by decide +kernel
theorem dX7_lettersIn_4 : decode cX7_lettersIn 4 = .ok (.iconst 0, 1) := by decide +kernel
theorem dX7_lettersIn_5 : decode cX7_lettersIn 5 = .ok (.istore 4, 2) := by decide +kernel
theorem dX7_lettersIn_7 : decode cX7_lettersIn 7 = .ok (.iload 4, 2) := by decide +kernel
theorem dX7_lettersIn_9 : decode cX7_lettersIn 9 = .ok (.bipush 8, 2) := by decide +kernel
theorem dX7_lettersIn_11 : decode cX7_lettersIn 11 = .ok (.if_icmp .ge 48, 3) := by decide +kernel
theorem dX7_lettersIn_14 : decode cX7_lettersIn 14 = .ok (.lload_n 0, 1) := by decide +kernel
theorem dX7_lettersIn_15 : decode cX7_lettersIn 15 = .ok (.iload 4, 2) := by decide +kernel
theorem dX7_lettersIn_17 : decode cX7_lettersIn 17 = .ok (.invokestatic 19, 3) := by decide +kernel
theorem dX7_lettersIn_20 : decode cX7_lettersIn 20 = .ok (.istore 5, 2) := by decide +kernel
theorem dX7_lettersIn_22 : decode cX7_lettersIn 22 = .ok (.iload 5, 2) := by decide +kernel
theorem dX7_lettersIn_24 : decode cX7_lettersIn 24 = .ok (.bipush 126, 2) := by decide +kernel
theorem dX7_lettersIn_26 : decode cX7_lettersIn 26 = .ok (.if_icmp .gt 12, 3) := by decide +kernel
theorem dX7_lettersIn_29 : decode cX7_lettersIn 29 = .ok (.iload_n 3, 1) := by decide +kernel
theorem dX7_lettersIn_30 : decode cX7_lettersIn 30 = .ok (.ifCond .eq 10, 3) := by decide +kernel
theorem dX7_lettersIn_33 : decode cX7_lettersIn 33 = .ok (.iload 5, 2) := by decide +kernel
theorem dX7_lettersIn_35 : decode cX7_lettersIn 35 = .ok (.ifCond .eq 5, 3) := by decide +kernel
theorem dX7_lettersIn_38 : decode cX7_lettersIn 38 = .ok (.iconst (-1), 1) := by decide +kernel
theorem dX7_lettersIn_39 : decode cX7_lettersIn 39 = .ok (.ireturn, 1) := by decide +kernel
theorem dX7_lettersIn_40 : decode cX7_lettersIn 40 = .ok (.iload 5, 2) := by decide +kernel
theorem dX7_lettersIn_42 : decode cX7_lettersIn 42 = .ok (.ifCond .ne 8, 3) := by decide +kernel
theorem dX7_lettersIn_45 : decode cX7_lettersIn 45 = .ok (.iconst 1, 1) := by decide +kernel
theorem dX7_lettersIn_46 : decode cX7_lettersIn 46 = .ok (.istore_n 3, 1) := by decide +kernel
theorem dX7_lettersIn_47 : decode cX7_lettersIn 47 = .ok (.goto 6, 3) := by decide +kernel
theorem dX7_lettersIn_50 : decode cX7_lettersIn 50 = .ok (.iinc 2 1, 3) := by decide +kernel
theorem dX7_lettersIn_53 : decode cX7_lettersIn 53 = .ok (.iinc 4 1, 3) := by decide +kernel
theorem dX7_lettersIn_56 : decode cX7_lettersIn 56 = .ok (.goto (-49), 3) := by decide +kernel
theorem dX7_lettersIn_59 : decode cX7_lettersIn 59 = .ok (.iload_n 2, 1) := by decide +kernel
theorem dX7_lettersIn_60 : decode cX7_lettersIn 60 = .ok (.ireturn, 1) := by decide +kernel
theorem dX7_append_0 : decode cX7_append 0 = .ok (.iconst 0, 1) := by decide +kernel
theorem dX7_append_1 : decode cX7_append 1 = .ok (.istore 4, 2) := by decide +kernel
theorem dX7_append_3 : decode cX7_append 3 = .ok (.iload 4, 2) := by decide +kernel
theorem dX7_append_5 : decode cX7_append 5 = .ok (.iload_n 3, 1) := by decide +kernel
theorem dX7_append_6 : decode cX7_append 6 = .ok (.if_icmp .ge 43, 3) := by decide +kernel
theorem dX7_append_9 : decode cX7_append 9 = .ok (.aload_n 0, 1) := by decide +kernel
theorem dX7_append_10 : decode cX7_append 10 = .ok (.getfield 15, 3) := by decide +kernel
theorem dX7_append_13 : decode cX7_append 13 = .ok (.bipush 16, 2) := by decide +kernel
theorem dX7_append_15 : decode cX7_append 15 = .ok (.if_icmp .ge 34, 3) := by decide +kernel
theorem dX7_append_18 : decode cX7_append 18 = .ok (.aload_n 0, 1) := by decide +kernel
theorem dX7_append_19 : decode cX7_append 19 = .ok (.getfield 9, 3) := by decide +kernel
theorem dX7_append_22 : decode cX7_append 22 = .ok (.aload_n 0, 1) := by decide +kernel
theorem dX7_append_23 : decode cX7_append 23 = .ok (.getfield 15, 3) := by decide +kernel
theorem dX7_append_26 : decode cX7_append 26 = .ok (.lload_n 1, 1) := by decide +kernel
theorem dX7_append_27 : decode cX7_append 27 = .ok (.iload 4, 2) := by decide +kernel
theorem dX7_append_29 : decode cX7_append 29 = .ok (.invokestatic 19, 3) := by decide +kernel
theorem dX7_append_32 : decode cX7_append 32 = .ok (.iastore, 1) := by decide +kernel
theorem dX7_append_33 : decode cX7_append 33 = .ok (.aload_n 0, 1) := by decide +kernel
theorem dX7_append_34 : decode cX7_append 34 = .ok (.dup, 1) := by decide +kernel
theorem dX7_append_35 : decode cX7_append 35 = .ok (.getfield 15, 3) := by decide +kernel
theorem dX7_append_38 : decode cX7_append 38 = .ok (.iconst 1, 1) := by decide +kernel
theorem dX7_append_39 : decode cX7_append 39 = .ok (.iadd, 1) := by decide +kernel
theorem dX7_append_40 : decode cX7_append 40 = .ok (.putfield 15, 3) := by decide +kernel
theorem dX7_append_43 : decode cX7_append 43 = .ok (.iinc 4 1, 3) := by decide +kernel
theorem dX7_append_46 : decode cX7_append 46 = .ok (.goto (-43), 3) := by decide +kernel
theorem dX7_append_49 : decode cX7_append 49 = .ok (.return_, 1) := by decide +kernel
theorem dX7_codeIn_0 : decode cX7_codeIn 0 = .ok (.lload_n 0, 1) := by decide +kernel
theorem dX7_codeIn_1 : decode cX7_codeIn 1 = .ok (.bipush 8, 2) := by decide +kernel
theorem dX7_codeIn_3 : decode cX7_codeIn 3 = .ok (.iload_n 2, 1) := by decide +kernel
theorem dX7_codeIn_4 : decode cX7_codeIn 4 = .ok (.imul, 1) := by decide +kernel
theorem dX7_codeIn_5 : decode cX7_codeIn 5 = .ok (.lushr, 1) := by decide +kernel
theorem dX7_codeIn_6 : decode cX7_codeIn 6 = .ok (.l2i, 1) := by decide +kernel
theorem dX7_codeIn_7 : decode cX7_codeIn 7 = .ok (.sipush 255, 3) := by decide +kernel
theorem dX7_codeIn_10 : decode cX7_codeIn 10 = .ok (.iand, 1) := by decide +kernel
theorem dX7_codeIn_11 : decode cX7_codeIn 11 = .ok (.ireturn, 1) := by decide +kernel
theorem dX7_firstWrong_0 : decode cX7_firstWrong 0 = .ok (.iconst 0, 1) := by decide +kernel
theorem dX7_firstWrong_1 : decode cX7_firstWrong 1 = .ok (.istore_n 1, 1) := by decide +kernel
theorem dX7_firstWrong_2 : decode cX7_firstWrong 2 = .ok (.iconst 0, 1) := by decide +kernel
theorem dX7_firstWrong_3 : decode cX7_firstWrong 3 = .ok (.istore_n 2, 1) := by decide +kernel
theorem dX7_firstWrong_4 : decode cX7_firstWrong 4 = .ok (.iload_n 2, 1) := by decide +kernel
theorem dX7_firstWrong_5 : decode cX7_firstWrong 5 = .ok (.aload_n 0, 1) := by decide +kernel
theorem dX7_firstWrong_6 : decode cX7_firstWrong 6 = .ok (.getfield 15, 3) := by decide +kernel
theorem dX7_firstWrong_9 : decode cX7_firstWrong 9 = .ok (.if_icmp .ge 27, 3) := by decide +kernel
theorem dX7_firstWrong_12 : decode cX7_firstWrong 12 = .ok (.iload_n 1, 1) := by decide +kernel
theorem dX7_firstWrong_13 : decode cX7_firstWrong 13 = .ok (.aload_n 0, 1) := by decide +kernel
theorem dX7_firstWrong_14 : decode cX7_firstWrong 14 = .ok (.getfield 9, 3) := by decide +kernel
theorem dX7_firstWrong_17 : decode cX7_firstWrong 17 = .ok (.iload_n 2, 1) := by decide +kernel
theorem dX7_firstWrong_18 : decode cX7_firstWrong 18 = .ok (.iaload, 1) := by decide +kernel
theorem dX7_firstWrong_19 : decode cX7_firstWrong 19 = .ok (.invokestatic 23, 3) := by decide +kernel
theorem dX7_firstWrong_22 : decode cX7_firstWrong 22 = .ok (.istore_n 1, 1) := by decide +kernel
theorem dX7_firstWrong_23 : decode cX7_firstWrong 23 = .ok (.iload_n 1, 1) := by decide +kernel
theorem dX7_firstWrong_24 : decode cX7_firstWrong 24 = .ok (.iconst (-1), 1) := by decide +kernel
theorem dX7_firstWrong_25 : decode cX7_firstWrong 25 = .ok (.if_icmp .ne 5, 3) := by decide +kernel
theorem dX7_firstWrong_28 : decode cX7_firstWrong 28 = .ok (.iload_n 2, 1) := by decide +kernel
theorem dX7_firstWrong_29 : decode cX7_firstWrong 29 = .ok (.ireturn, 1) := by decide +kernel
theorem dX7_firstWrong_30 : decode cX7_firstWrong 30 = .ok (.iinc 2 1, 3) := by decide +kernel
theorem dX7_firstWrong_33 : decode cX7_firstWrong 33 = .ok (.goto (-29), 3) := by decide +kernel
theorem dX7_firstWrong_36 : decode cX7_firstWrong 36 = .ok (.aload_n 0, 1) := by decide +kernel
theorem dX7_firstWrong_37 : decode cX7_firstWrong 37 = .ok (.getfield 15, 3) := by decide +kernel
theorem dX7_firstWrong_40 : decode cX7_firstWrong 40 = .ok (.ireturn, 1) := by decide +kernel
theorem dX7_isLaw_0 : decode cX7_isLaw 0 = .ok (.iconst 0, 1) := by decide +kernel
theorem dX7_isLaw_1 : decode cX7_isLaw 1 = .ok (.istore_n 1, 1) := by decide +kernel
theorem dX7_isLaw_2 : decode cX7_isLaw 2 = .ok (.iconst 0, 1) := by decide +kernel
theorem dX7_isLaw_3 : decode cX7_isLaw 3 = .ok (.istore_n 2, 1) := by decide +kernel
theorem dX7_isLaw_4 : decode cX7_isLaw 4 = .ok (.iload_n 2, 1) := by decide +kernel
theorem dX7_isLaw_5 : decode cX7_isLaw 5 = .ok (.aload_n 0, 1) := by decide +kernel
theorem dX7_isLaw_6 : decode cX7_isLaw 6 = .ok (.getfield 15, 3) := by decide +kernel
theorem dX7_isLaw_9 : decode cX7_isLaw 9 = .ok (.if_icmp .ge 25, 3) := by decide +kernel
theorem dX7_isLaw_12 : decode cX7_isLaw 12 = .ok (.iload_n 1, 1) := by decide +kernel
theorem dX7_isLaw_13 : decode cX7_isLaw 13 = .ok (.iconst (-1), 1) := by decide +kernel
theorem dX7_isLaw_14 : decode cX7_isLaw 14 = .ok (.if_icmp .eq 20, 3) := by decide +kernel
theorem dX7_isLaw_17 : decode cX7_isLaw 17 = .ok (.iload_n 1, 1) := by decide +kernel
theorem dX7_isLaw_18 : decode cX7_isLaw 18 = .ok (.aload_n 0, 1) := by decide +kernel
theorem dX7_isLaw_19 : decode cX7_isLaw 19 = .ok (.getfield 9, 3) := by decide +kernel
theorem dX7_isLaw_22 : decode cX7_isLaw 22 = .ok (.iload_n 2, 1) := by decide +kernel
theorem dX7_isLaw_23 : decode cX7_isLaw 23 = .ok (.iaload, 1) := by decide +kernel
theorem dX7_isLaw_24 : decode cX7_isLaw 24 = .ok (.invokestatic 23, 3) := by decide +kernel
theorem dX7_isLaw_27 : decode cX7_isLaw 27 = .ok (.istore_n 1, 1) := by decide +kernel
theorem dX7_isLaw_28 : decode cX7_isLaw 28 = .ok (.iinc 2 1, 3) := by decide +kernel
theorem dX7_isLaw_31 : decode cX7_isLaw 31 = .ok (.goto (-27), 3) := by decide +kernel
theorem dX7_isLaw_34 : decode cX7_isLaw 34 = .ok (.iload_n 1, 1) := by decide +kernel
theorem dX7_isLaw_35 : decode cX7_isLaw 35 = .ok (.iconst (-1), 1) := by decide +kernel
theorem dX7_isLaw_36 : decode cX7_isLaw 36 = .ok (.if_icmp .eq 12, 3) := by decide +kernel
theorem dX7_isLaw_39 : decode cX7_isLaw 39 = .ok (.iload_n 1, 1) := by decide +kernel
theorem dX7_isLaw_40 : decode cX7_isLaw 40 = .ok (.iconst 4, 1) := by decide +kernel
theorem dX7_isLaw_41 : decode cX7_isLaw 41 = .ok (.if_icmp .eq 7, 3) := by decide +kernel
theorem dX7_isLaw_44 : decode cX7_isLaw 44 = .ok (.iconst 1, 1) := by decide +kernel
theorem dX7_isLaw_45 : decode cX7_isLaw 45 = .ok (.goto 4, 3) := by decide +kernel
theorem dX7_isLaw_48 : decode cX7_isLaw 48 = .ok (.iconst 0, 1) := by decide +kernel
theorem dX7_isLaw_49 : decode cX7_isLaw 49 = .ok (.ireturn, 1) := by decide +kernel
theorem dX7_reachedBy_0 : decode cX7_reachedBy 0 = .ok (.iload_n 0, 1) := by decide +kernel
theorem dX7_reachedBy_1 : decode cX7_reachedBy 1 = .ok (.iconst 4, 1) := by decide +kernel
theorem dX7_reachedBy_2 : decode cX7_reachedBy 2 = .ok (.if_icmp .ne 20, 3) := by decide +kernel
theorem dX7_reachedBy_5 : decode cX7_reachedBy 5 = .ok (.iload_n 1, 1) := by decide +kernel
theorem dX7_reachedBy_6 : decode cX7_reachedBy 6 = .ok (.bipush 49, 2) := by decide +kernel
theorem dX7_reachedBy_8 : decode cX7_reachedBy 8 = .ok (.bipush 57, 2) := by decide +kernel
theorem dX7_reachedBy_10 : decode cX7_reachedBy 10 = .ok (.invokestatic 27, 3) := by decide +kernel
theorem dX7_reachedBy_13 : decode cX7_reachedBy 13 = .ok (.ifCond .eq 7, 3) := by decide +kernel
theorem dX7_reachedBy_16 : decode cX7_reachedBy 16 = .ok (.iconst 5, 1) := by decide +kernel
theorem dX7_reachedBy_17 : decode cX7_reachedBy 17 = .ok (.goto 4, 3) := by decide +kernel
theorem dX7_reachedBy_20 : decode cX7_reachedBy 20 = .ok (.iconst (-1), 1) := by decide +kernel
theorem dX7_reachedBy_21 : decode cX7_reachedBy 21 = .ok (.ireturn, 1) := by decide +kernel
theorem dX7_reachedBy_22 : decode cX7_reachedBy 22 = .ok (.iload_n 1, 1) := by decide +kernel
theorem dX7_reachedBy_23 : decode cX7_reachedBy 23 = .ok (.invokestatic 31, 3) := by decide +kernel
theorem dX7_reachedBy_26 : decode cX7_reachedBy 26 = .ok (.istore_n 2, 1) := by decide +kernel
theorem dX7_reachedBy_27 : decode cX7_reachedBy 27 = .ok (.iload_n 2, 1) := by decide +kernel
theorem dX7_reachedBy_28 : decode cX7_reachedBy 28 = .ok (.iload_n 0, 1) := by decide +kernel
theorem dX7_reachedBy_29 : decode cX7_reachedBy 29 = .ok (.if_icmp .le 7, 3) := by decide +kernel
theorem dX7_reachedBy_32 : decode cX7_reachedBy 32 = .ok (.iload_n 2, 1) := by decide +kernel
theorem dX7_reachedBy_33 : decode cX7_reachedBy 33 = .ok (.goto 4, 3) := by decide +kernel
theorem dX7_reachedBy_36 : decode cX7_reachedBy 36 = .ok (.iconst (-1), 1) := by decide +kernel
theorem dX7_reachedBy_37 : decode cX7_reachedBy 37 = .ok (.ireturn, 1) := by decide +kernel
theorem dX7_partOf_0 : decode cX7_partOf 0 = .ok (.iload_n 0, 1) := by decide +kernel
theorem dX7_partOf_1 : decode cX7_partOf 1 = .ok (.lookupswitch 51 #[(109, 49), (110, 43), (116, 45), (119, 47)], 43) := by decide +kernel
theorem dX7_partOf_44 : decode cX7_partOf 44 = .ok (.iconst 1, 1) := by decide +kernel
theorem dX7_partOf_45 : decode cX7_partOf 45 = .ok (.ireturn, 1) := by decide +kernel
theorem dX7_partOf_46 : decode cX7_partOf 46 = .ok (.iconst 2, 1) := by decide +kernel
theorem dX7_partOf_47 : decode cX7_partOf 47 = .ok (.ireturn, 1) := by decide +kernel
theorem dX7_partOf_48 : decode cX7_partOf 48 = .ok (.iconst 3, 1) := by decide +kernel
theorem dX7_partOf_49 : decode cX7_partOf 49 = .ok (.ireturn, 1) := by decide +kernel
theorem dX7_partOf_50 : decode cX7_partOf 50 = .ok (.iconst 4, 1) := by decide +kernel
theorem dX7_partOf_51 : decode cX7_partOf 51 = .ok (.ireturn, 1) := by decide +kernel
theorem dX7_partOf_52 : decode cX7_partOf 52 = .ok (.iconst 0, 1) := by decide +kernel
theorem dX7_partOf_53 : decode cX7_partOf 53 = .ok (.ireturn, 1) := by decide +kernel
theorem dX8_init_0 : decode cX8_init 0 = .ok (.aload_n 0, 1) := by decide +kernel
theorem dX8_init_1 : decode cX8_init 1 = .ok (.invokespecial 3, 3) := by decide +kernel
theorem dX8_init_4 : decode cX8_init 4 = .ok (.aload_n 0, 1) := by decide +kernel
theorem dX8_init_5 : decode cX8_init 5 = .ok (.bipush 7, 2) := by decide +kernel
theorem dX8_init_7 : decode cX8_init 7 = .ok (.newarray .int, 2) := by decide +kernel
theorem dX8_init_9 : decode cX8_init 9 = .ok (.putfield 9, 3) := by decide +kernel
theorem dX8_init_12 : decode cX8_init 12 = .ok (.aload_n 0, 1) := by decide +kernel
theorem dX8_init_13 : decode cX8_init 13 = .ok (.bipush 7, 2) := by decide +kernel
theorem dX8_init_15 : decode cX8_init 15 = .ok (.newarray .int, 2) := by decide +kernel
theorem dX8_init_17 : decode cX8_init 17 = .ok (.putfield 15, 3) := by decide +kernel
theorem dX8_init_20 : decode cX8_init 20 = .ok (.aload_n 0, 1) := by decide +kernel
theorem dX8_init_21 : decode cX8_init 21 = .ok (.bipush 7, 2) := by decide +kernel
theorem dX8_init_23 : decode cX8_init 23 = .ok (.newarray .int, 2) := by decide +kernel
theorem dX8_init_25 : decode cX8_init 25 = .ok (.putfield 18, 3) := by decide +kernel
theorem dX8_init_28 : decode cX8_init 28 = .ok (.aload_n 0, 1) := by decide +kernel
theorem dX8_init_29 : decode cX8_init 29 = .ok (.bipush 7, 2) := by decide +kernel
theorem dX8_init_31 : decode cX8_init 31 = .ok (.newarray .int, 2) := by decide +kernel
theorem dX8_init_33 : decode cX8_init 33 = .ok (.putfield 21, 3) := by decide +kernel
theorem dX8_init_36 : decode cX8_init 36 = .ok (.aload_n 0, 1) := by decide +kernel
theorem dX8_init_37 : decode cX8_init 37 = .ok (.bipush 7, 2) := by decide +kernel
theorem dX8_init_39 : decode cX8_init 39 = .ok (.newarray .int, 2) := by decide +kernel
theorem dX8_init_41 : decode cX8_init 41 = .ok (.putfield 24, 3) := by decide +kernel
theorem dX8_init_44 : decode cX8_init 44 = .ok (.aload_n 0, 1) := by decide +kernel
theorem dX8_init_45 : decode cX8_init 45 = .ok (.bipush 7, 2) := by decide +kernel
theorem dX8_init_47 : decode cX8_init 47 = .ok (.newarray .int, 2) := by decide +kernel
theorem dX8_init_49 : decode cX8_init 49 = .ok (.putfield 27, 3) := by decide +kernel
theorem dX8_init_52 : decode cX8_init 52 = .ok (.aload_n 0, 1) := by decide +kernel
theorem dX8_init_53 : decode cX8_init 53 = .ok (.bipush 7, 2) := by decide +kernel
theorem dX8_init_55 : decode cX8_init 55 = .ok (.newarray .int, 2) := by decide +kernel
theorem dX8_init_57 : decode cX8_init 57 = .ok (.putfield 30, 3) := by decide +kernel
theorem dX8_init_60 : decode cX8_init 60 = .ok (.iconst 0, 1) := by decide +kernel
theorem dX8_init_61 : decode cX8_init 61 = .ok (.istore_n 1, 1) := by decide +kernel
theorem dX8_init_62 : decode cX8_init 62 = .ok (.iload_n 1, 1) := by decide +kernel
theorem dX8_init_63 : decode cX8_init 63 = .ok (.bipush 7, 2) := by decide +kernel
theorem dX8_init_65 : decode cX8_init 65 = .ok (.if_icmp .ge 16, 3) := by decide +kernel
theorem dX8_init_68 : decode cX8_init 68 = .ok (.aload_n 0, 1) := by decide +kernel
theorem dX8_init_69 : decode cX8_init 69 = .ok (.getfield 30, 3) := by decide +kernel
theorem dX8_init_72 : decode cX8_init 72 = .ok (.iload_n 1, 1) := by decide +kernel
theorem dX8_init_73 : decode cX8_init 73 = .ok (.iconst 1, 1) := by decide +kernel
theorem dX8_init_74 : decode cX8_init 74 = .ok (.iastore, 1) := by decide +kernel
theorem dX8_init_75 : decode cX8_init 75 = .ok (.iinc 1 1, 3) := by decide +kernel
theorem dX8_init_78 : decode cX8_init 78 = .ok (.goto (-16), 3) := by decide +kernel
theorem dX8_init_81 : decode cX8_init 81 = .ok (.return_, 1) := by decide +kernel
theorem dX8_size_0 : decode cX8_size 0 = .ok (.aload_n 0, 1) := by decide +kernel
theorem dX8_size_1 : decode cX8_size 1 = .ok (.getfield 33, 3) := by decide +kernel
theorem dX8_size_4 : decode cX8_size 4 = .ok (.ireturn, 1) := by decide +kernel
theorem dX8_hasBlock_0 : decode cX8_hasBlock 0 = .ok (.iload_n 1, 1) := by decide +kernel
theorem dX8_hasBlock_1 : decode cX8_hasBlock 1 = .ok (.ifCond .lt 15, 3) := by decide +kernel
theorem dX8_hasBlock_4 : decode cX8_hasBlock 4 = .ok (.iload_n 1, 1) := by decide +kernel
theorem dX8_hasBlock_5 : decode cX8_hasBlock 5 = .ok (.aload_n 0, 1) := by decide +kernel
theorem dX8_hasBlock_6 : decode cX8_hasBlock 6 = .ok (.getfield 33, 3) := by decide +kernel
theorem dX8_hasBlock_9 : decode cX8_hasBlock 9 = .ok (.if_icmp .ge 7, 3) := by decide +kernel
theorem dX8_hasBlock_12 : decode cX8_hasBlock 12 = .ok (.iconst 1, 1) := by decide +kernel
theorem dX8_hasBlock_13 : decode cX8_hasBlock 13 = .ok (.goto 4, 3) := by decide +kernel
theorem dX8_hasBlock_16 : decode cX8_hasBlock 16 = .ok (.iconst 0, 1) := by decide +kernel
theorem dX8_hasBlock_17 : decode cX8_hasBlock 17 = .ok (.ireturn, 1) := by decide +kernel
theorem dX8_kindOf_0 : decode cX8_kindOf 0 = .ok (.aload_n 0, 1) := by decide +kernel
theorem dX8_kindOf_1 : decode cX8_kindOf 1 = .ok (.getfield 9, 3) := by decide +kernel
theorem dX8_kindOf_4 : decode cX8_kindOf 4 = .ok (.iload_n 1, 1) := by decide +kernel
theorem dX8_kindOf_5 : decode cX8_kindOf 5 = .ok (.iaload, 1) := by decide +kernel
theorem dX8_kindOf_6 : decode cX8_kindOf 6 = .ok (.ireturn, 1) := by decide +kernel
theorem dX8_isTwin_0 : decode cX8_isTwin 0 = .ok (.aload_n 0, 1) := by decide +kernel
theorem dX8_isTwin_1 : decode cX8_isTwin 1 = .ok (.getfield 9, 3) := by decide +kernel
theorem dX8_isTwin_4 : decode cX8_isTwin 4 = .ok (.iload_n 1, 1) := by decide +kernel
theorem dX8_isTwin_5 : decode cX8_isTwin 5 = .ok (.iaload, 1) := by decide +kernel
theorem dX8_isTwin_6 : decode cX8_isTwin 6 = .ok (.iconst 3, 1) := by decide +kernel
theorem dX8_isTwin_7 : decode cX8_isTwin 7 = .ok (.if_icmp .ne 7, 3) := by decide +kernel
theorem dX8_isTwin_10 : decode cX8_isTwin 10 = .ok (.iconst 1, 1) := by decide +kernel
theorem dX8_isTwin_11 : decode cX8_isTwin 11 = .ok (.goto 4, 3) := by decide +kernel
theorem dX8_isTwin_14 : decode cX8_isTwin 14 = .ok (.iconst 0, 1) := by decide +kernel
theorem dX8_isTwin_15 : decode cX8_isTwin 15 = .ok (.ireturn, 1) := by decide +kernel
theorem dX8_aboveOf_0 : decode cX8_aboveOf 0 = .ok (.aload_n 0, 1) := by decide +kernel
theorem dX8_aboveOf_1 : decode cX8_aboveOf 1 = .ok (.getfield 15, 3) := by decide +kernel
theorem dX8_aboveOf_4 : decode cX8_aboveOf 4 = .ok (.iload_n 1, 1) := by decide +kernel
theorem dX8_aboveOf_5 : decode cX8_aboveOf 5 = .ok (.iaload, 1) := by decide +kernel
theorem dX8_aboveOf_6 : decode cX8_aboveOf 6 = .ok (.ireturn, 1) := by decide +kernel
theorem dX8_wasOf_0 : decode cX8_wasOf 0 = .ok (.aload_n 0, 1) := by decide +kernel
theorem dX8_wasOf_1 : decode cX8_wasOf 1 = .ok (.getfield 21, 3) := by decide +kernel
theorem dX8_wasOf_4 : decode cX8_wasOf 4 = .ok (.iload_n 1, 1) := by decide +kernel
theorem dX8_wasOf_5 : decode cX8_wasOf 5 = .ok (.iaload, 1) := by decide +kernel
theorem dX8_wasOf_6 : decode cX8_wasOf 6 = .ok (.ireturn, 1) := by decide +kernel
theorem dX8_placeOf_0 : decode cX8_placeOf 0 = .ok (.aload_n 0, 1) := by decide +kernel
theorem dX8_placeOf_1 : decode cX8_placeOf 1 = .ok (.getfield 24, 3) := by decide +kernel
theorem dX8_placeOf_4 : decode cX8_placeOf 4 = .ok (.iload_n 1, 1) := by decide +kernel
theorem dX8_placeOf_5 : decode cX8_placeOf 5 = .ok (.iaload, 1) := by decide +kernel
theorem dX8_placeOf_6 : decode cX8_placeOf 6 = .ok (.ireturn, 1) := by decide +kernel
theorem dX8_blockIn_0 : decode cX8_blockIn 0 = .ok (.aload_n 0, 1) := by decide +kernel
theorem dX8_blockIn_1 : decode cX8_blockIn 1 = .ok (.getfield 27, 3) := by decide +kernel
theorem dX8_blockIn_4 : decode cX8_blockIn 4 = .ok (.iload_n 1, 1) := by decide +kernel
theorem dX8_blockIn_5 : decode cX8_blockIn 5 = .ok (.iaload, 1) := by decide +kernel
theorem dX8_blockIn_6 : decode cX8_blockIn 6 = .ok (.ireturn, 1) := by decide +kernel
theorem dX8_wheelsIn_0 : decode cX8_wheelsIn 0 = .ok (.aload_n 0, 1) := by decide +kernel
theorem dX8_wheelsIn_1 : decode cX8_wheelsIn 1 = .ok (.getfield 30, 3) := by decide +kernel
theorem dX8_wheelsIn_4 : decode cX8_wheelsIn 4 = .ok (.iload_n 1, 1) := by decide +kernel
theorem dX8_wheelsIn_5 : decode cX8_wheelsIn 5 = .ok (.iaload, 1) := by decide +kernel
theorem dX8_wheelsIn_6 : decode cX8_wheelsIn 6 = .ok (.ireturn, 1) := by decide +kernel
theorem dX8_told_0 : decode cX8_told 0 = .ok (.iload_n 2, 1) := by decide +kernel
theorem dX8_told_1 : decode cX8_told 1 = .ok (.tableswitch 59 0 3 #[31, 38, 45, 52], 31) := by decide +kernel
theorem dX8_told_32 : decode cX8_told 32 = .ok (.aload_n 0, 1) := by decide +kernel
theorem dX8_told_33 : decode cX8_told 33 = .ok (.getfield 9, 3) := by decide +kernel
theorem dX8_told_36 : decode cX8_told 36 = .ok (.iload_n 1, 1) := by decide +kernel
theorem dX8_told_37 : decode cX8_told 37 = .ok (.iaload, 1) := by decide +kernel
theorem dX8_told_38 : decode cX8_told 38 = .ok (.ireturn, 1) := by decide +kernel
theorem dX8_told_39 : decode cX8_told 39 = .ok (.aload_n 0, 1) := by decide +kernel
theorem dX8_told_40 : decode cX8_told 40 = .ok (.getfield 15, 3) := by decide +kernel
theorem dX8_told_43 : decode cX8_told 43 = .ok (.iload_n 1, 1) := by decide +kernel
theorem dX8_told_44 : decode cX8_told 44 = .ok (.iaload, 1) := by decide +kernel
theorem dX8_told_45 : decode cX8_told 45 = .ok (.ireturn, 1) := by decide +kernel
theorem dX8_told_46 : decode cX8_told 46 = .ok (.aload_n 0, 1) := by decide +kernel
theorem dX8_told_47 : decode cX8_told 47 = .ok (.getfield 18, 3) := by decide +kernel
theorem dX8_told_50 : decode cX8_told 50 = .ok (.iload_n 1, 1) := by decide +kernel
theorem dX8_told_51 : decode cX8_told 51 = .ok (.iaload, 1) := by decide +kernel
theorem dX8_told_52 : decode cX8_told 52 = .ok (.ireturn, 1) := by decide +kernel
theorem dX8_told_53 : decode cX8_told 53 = .ok (.aload_n 0, 1) := by decide +kernel
theorem dX8_told_54 : decode cX8_told 54 = .ok (.getfield 24, 3) := by decide +kernel
theorem dX8_told_57 : decode cX8_told 57 = .ok (.iload_n 1, 1) := by decide +kernel
theorem dX8_told_58 : decode cX8_told 58 = .ok (.iaload, 1) := by decide +kernel
theorem dX8_told_59 : decode cX8_told 59 = .ok (.ireturn, 1) := by decide +kernel
theorem dX8_told_60 : decode cX8_told 60 = .ok (.aload_n 0, 1) := by decide +kernel
theorem dX8_told_61 : decode cX8_told 61 = .ok (.getfield 21, 3) := by decide +kernel
theorem dX8_told_64 : decode cX8_told 64 = .ok (.iload_n 1, 1) := by decide +kernel
theorem dX8_told_65 : decode cX8_told 65 = .ok (.iaload, 1) := by decide +kernel
theorem dX8_told_66 : decode cX8_told 66 = .ok (.ireturn, 1) := by decide +kernel
theorem dX8_add_0 : decode cX8_add 0 = .ok (.aload_n 0, 1) := by decide +kernel
theorem dX8_add_1 : decode cX8_add 1 = .ok (.getfield 33, 3) := by decide +kernel
theorem dX8_add_4 : decode cX8_add 4 = .ok (.bipush 7, 2) := by decide +kernel
theorem dX8_add_6 : decode cX8_add 6 = .ok (.if_icmp .lt 6, 3) := by decide +kernel
theorem dX8_add_9 : decode cX8_add 9 = .ok (.bipush (-104), 2) := by decide +kernel
theorem dX8_add_11 : decode cX8_add 11 = .ok (.ireturn, 1) := by decide +kernel
theorem dX8_add_12 : decode cX8_add 12 = .ok (.aload_n 0, 1) := by decide +kernel
theorem dX8_add_13 : decode cX8_add 13 = .ok (.getfield 33, 3) := by decide +kernel
theorem dX8_add_16 : decode cX8_add 16 = .ok (.istore 4, 2) := by decide +kernel
theorem dX8_add_18 : decode cX8_add 18 = .ok (.aload_n 0, 1) := by decide +kernel
theorem dX8_add_19 : decode cX8_add 19 = .ok (.getfield 9, 3) := by decide +kernel
theorem dX8_add_22 : decode cX8_add 22 = .ok (.iload 4, 2) := by decide +kernel
theorem dX8_add_24 : decode cX8_add 24 = .ok (.iload_n 1, 1) := by decide +kernel
theorem dX8_add_25 : decode cX8_add 25 = .ok (.iastore, 1) := by decide +kernel
theorem dX8_add_26 : decode cX8_add 26 = .ok (.aload_n 0, 1) := by decide +kernel
theorem dX8_add_27 : decode cX8_add 27 = .ok (.getfield 15, 3) := by decide +kernel
theorem dX8_add_30 : decode cX8_add 30 = .ok (.iload 4, 2) := by decide +kernel
theorem dX8_add_32 : decode cX8_add 32 = .ok (.iload_n 2, 1) := by decide +kernel
theorem dX8_add_33 : decode cX8_add 33 = .ok (.iastore, 1) := by decide +kernel
theorem dX8_add_34 : decode cX8_add 34 = .ok (.aload_n 0, 1) := by decide +kernel
theorem dX8_add_35 : decode cX8_add 35 = .ok (.getfield 18, 3) := by decide +kernel
theorem dX8_add_38 : decode cX8_add 38 = .ok (.iload 4, 2) := by decide +kernel
theorem dX8_add_40 : decode cX8_add 40 = .ok (.iload_n 3, 1) := by decide +kernel
theorem dX8_add_41 : decode cX8_add 41 = .ok (.iastore, 1) := by decide +kernel
theorem dX8_add_42 : decode cX8_add 42 = .ok (.aload_n 0, 1) := by decide +kernel
theorem dX8_add_43 : decode cX8_add 43 = .ok (.getfield 21, 3) := by decide +kernel
theorem dX8_add_46 : decode cX8_add 46 = .ok (.iload 4, 2) := by decide +kernel
theorem dX8_add_48 : decode cX8_add 48 = .ok (.iconst (-1), 1) := by decide +kernel
theorem dX8_add_49 : decode cX8_add 49 = .ok (.iastore, 1) := by decide +kernel
theorem dX8_add_50 : decode cX8_add 50 = .ok (.aload_n 0, 1) := by decide +kernel
theorem dX8_add_51 : decode cX8_add 51 = .ok (.iload 4, 2) := by decide +kernel
theorem dX8_add_53 : decode cX8_add 53 = .ok (.iload 4, 2) := by decide +kernel
theorem dX8_add_55 : decode cX8_add 55 = .ok (.invokevirtual 37, 3) := by decide +kernel
theorem dX8_add_58 : decode cX8_add 58 = .ok (.aload_n 0, 1) := by decide +kernel
theorem dX8_add_59 : decode cX8_add 59 = .ok (.dup, 1) := by decide +kernel
theorem dX8_add_60 : decode cX8_add 60 = .ok (.getfield 33, 3) := by decide +kernel
theorem dX8_add_63 : decode cX8_add 63 = .ok (.iconst 1, 1) := by decide +kernel
theorem dX8_add_64 : decode cX8_add 64 = .ok (.iadd, 1) := by decide +kernel
theorem dX8_add_65 : decode cX8_add 65 = .ok (.putfield 33, 3) := by decide +kernel
theorem dX8_add_68 : decode cX8_add 68 = .ok (.iload 4, 2) := by decide +kernel
theorem dX8_add_70 : decode cX8_add 70 = .ok (.ireturn, 1) := by decide +kernel
theorem dX8_takeAway_0 : decode cX8_takeAway 0 = .ok (.aload_n 0, 1) := by decide +kernel
theorem dX8_takeAway_1 : decode cX8_takeAway 1 = .ok (.getfield 24, 3) := by decide +kernel
theorem dX8_takeAway_4 : decode cX8_takeAway 4 = .ok (.iload_n 1, 1) := by decide +kernel
theorem dX8_takeAway_5 : decode cX8_takeAway 5 = .ok (.iaload, 1) := by decide +kernel
theorem dX8_takeAway_6 : decode cX8_takeAway 6 = .ok (.istore_n 2, 1) := by decide +kernel
theorem dX8_takeAway_7 : decode cX8_takeAway 7 = .ok (.iload_n 2, 1) := by decide +kernel
theorem dX8_takeAway_8 : decode cX8_takeAway 8 = .ok (.iconst 1, 1) := by decide +kernel
theorem dX8_takeAway_9 : decode cX8_takeAway 9 = .ok (.iadd, 1) := by decide +kernel
theorem dX8_takeAway_10 : decode cX8_takeAway 10 = .ok (.aload_n 0, 1) := by decide +kernel
theorem dX8_takeAway_11 : decode cX8_takeAway 11 = .ok (.getfield 33, 3) := by decide +kernel
theorem dX8_takeAway_14 : decode cX8_takeAway 14 = .ok (.if_icmp .ge 22, 3) := by decide +kernel
theorem dX8_takeAway_17 : decode cX8_takeAway 17 = .ok (.aload_n 0, 1) := by decide +kernel
theorem dX8_takeAway_18 : decode cX8_takeAway 18 = .ok (.aload_n 0, 1) := by decide +kernel
theorem dX8_takeAway_19 : decode cX8_takeAway 19 = .ok (.getfield 27, 3) := by decide +kernel
theorem dX8_takeAway_22 : decode cX8_takeAway 22 = .ok (.iload_n 2, 1) := by decide +kernel
theorem dX8_takeAway_23 : decode cX8_takeAway 23 = .ok (.iconst 1, 1) := by decide +kernel
theorem dX8_takeAway_24 : decode cX8_takeAway 24 = .ok (.iadd, 1) := by decide +kernel
theorem dX8_takeAway_25 : decode cX8_takeAway 25 = .ok (.iaload, 1) := by decide +kernel
theorem dX8_takeAway_26 : decode cX8_takeAway 26 = .ok (.iload_n 2, 1) := by decide +kernel
theorem dX8_takeAway_27 : decode cX8_takeAway 27 = .ok (.invokevirtual 37, 3) := by decide +kernel
theorem dX8_takeAway_30 : decode cX8_takeAway 30 = .ok (.iinc 2 1, 3) := by decide +kernel
theorem dX8_takeAway_33 : decode cX8_takeAway 33 = .ok (.goto (-26), 3) := by decide +kernel
theorem dX8_takeAway_36 : decode cX8_takeAway 36 = .ok (.iload_n 1, 1) := by decide +kernel
theorem dX8_takeAway_37 : decode cX8_takeAway 37 = .ok (.istore_n 2, 1) := by decide +kernel
theorem dX8_takeAway_38 : decode cX8_takeAway 38 = .ok (.iload_n 2, 1) := by decide +kernel
theorem dX8_takeAway_39 : decode cX8_takeAway 39 = .ok (.iconst 1, 1) := by decide +kernel
theorem dX8_takeAway_40 : decode cX8_takeAway 40 = .ok (.iadd, 1) := by decide +kernel
theorem dX8_takeAway_41 : decode cX8_takeAway 41 = .ok (.aload_n 0, 1) := by decide +kernel
theorem dX8_takeAway_42 : decode cX8_takeAway 42 = .ok (.getfield 33, 3) := by decide +kernel
theorem dX8_takeAway_45 : decode cX8_takeAway 45 = .ok (.if_icmp .ge 78, 3) := by decide +kernel
theorem dX8_takeAway_48 : decode cX8_takeAway 48 = .ok (.aload_n 0, 1) := by decide +kernel
theorem dX8_takeAway_49 : decode cX8_takeAway 49 = .ok (.getfield 9, 3) := by decide +kernel
theorem dX8_takeAway_52 : decode cX8_takeAway 52 = .ok (.iload_n 2, 1) := by decide +kernel
theorem dX8_takeAway_53 : decode cX8_takeAway 53 = .ok (.aload_n 0, 1) := by decide +kernel
theorem dX8_takeAway_54 : decode cX8_takeAway 54 = .ok (.getfield 9, 3) := by decide +kernel
theorem dX8_takeAway_57 : decode cX8_takeAway 57 = .ok (.iload_n 2, 1) := by decide +kernel
theorem dX8_takeAway_58 : decode cX8_takeAway 58 = .ok (.iconst 1, 1) := by decide +kernel
theorem dX8_takeAway_59 : decode cX8_takeAway 59 = .ok (.iadd, 1) := by decide +kernel
theorem dX8_takeAway_60 : decode cX8_takeAway 60 = .ok (.iaload, 1) := by decide +kernel
theorem dX8_takeAway_61 : decode cX8_takeAway 61 = .ok (.iastore, 1) := by decide +kernel
theorem dX8_takeAway_62 : decode cX8_takeAway 62 = .ok (.aload_n 0, 1) := by decide +kernel
theorem dX8_takeAway_63 : decode cX8_takeAway 63 = .ok (.getfield 15, 3) := by decide +kernel
theorem dX8_takeAway_66 : decode cX8_takeAway 66 = .ok (.iload_n 2, 1) := by decide +kernel
theorem dX8_takeAway_67 : decode cX8_takeAway 67 = .ok (.aload_n 0, 1) := by decide +kernel
theorem dX8_takeAway_68 : decode cX8_takeAway 68 = .ok (.getfield 15, 3) := by decide +kernel
theorem dX8_takeAway_71 : decode cX8_takeAway 71 = .ok (.iload_n 2, 1) := by decide +kernel
theorem dX8_takeAway_72 : decode cX8_takeAway 72 = .ok (.iconst 1, 1) := by decide +kernel
theorem dX8_takeAway_73 : decode cX8_takeAway 73 = .ok (.iadd, 1) := by decide +kernel
theorem dX8_takeAway_74 : decode cX8_takeAway 74 = .ok (.iaload, 1) := by decide +kernel
theorem dX8_takeAway_75 : decode cX8_takeAway 75 = .ok (.iastore, 1) := by decide +kernel
theorem dX8_takeAway_76 : decode cX8_takeAway 76 = .ok (.aload_n 0, 1) := by decide +kernel
theorem dX8_takeAway_77 : decode cX8_takeAway 77 = .ok (.getfield 18, 3) := by decide +kernel
theorem dX8_takeAway_80 : decode cX8_takeAway 80 = .ok (.iload_n 2, 1) := by decide +kernel
theorem dX8_takeAway_81 : decode cX8_takeAway 81 = .ok (.aload_n 0, 1) := by decide +kernel
theorem dX8_takeAway_82 : decode cX8_takeAway 82 = .ok (.getfield 18, 3) := by decide +kernel
theorem dX8_takeAway_85 : decode cX8_takeAway 85 = .ok (.iload_n 2, 1) := by decide +kernel
theorem dX8_takeAway_86 : decode cX8_takeAway 86 = .ok (.iconst 1, 1) := by decide +kernel
theorem dX8_takeAway_87 : decode cX8_takeAway 87 = .ok (.iadd, 1) := by decide +kernel
theorem dX8_takeAway_88 : decode cX8_takeAway 88 = .ok (.iaload, 1) := by decide +kernel
theorem dX8_takeAway_89 : decode cX8_takeAway 89 = .ok (.iastore, 1) := by decide +kernel
theorem dX8_takeAway_90 : decode cX8_takeAway 90 = .ok (.aload_n 0, 1) := by decide +kernel
theorem dX8_takeAway_91 : decode cX8_takeAway 91 = .ok (.getfield 21, 3) := by decide +kernel
theorem dX8_takeAway_94 : decode cX8_takeAway 94 = .ok (.iload_n 2, 1) := by decide +kernel
theorem dX8_takeAway_95 : decode cX8_takeAway 95 = .ok (.aload_n 0, 1) := by decide +kernel
theorem dX8_takeAway_96 : decode cX8_takeAway 96 = .ok (.getfield 21, 3) := by decide +kernel
theorem dX8_takeAway_99 : decode cX8_takeAway 99 = .ok (.iload_n 2, 1) := by decide +kernel
theorem dX8_takeAway_100 : decode cX8_takeAway 100 = .ok (.iconst 1, 1) := by decide +kernel
theorem dX8_takeAway_101 : decode cX8_takeAway 101 = .ok (.iadd, 1) := by decide +kernel
theorem dX8_takeAway_102 : decode cX8_takeAway 102 = .ok (.iaload, 1) := by decide +kernel
theorem dX8_takeAway_103 : decode cX8_takeAway 103 = .ok (.iastore, 1) := by decide +kernel
theorem dX8_takeAway_104 : decode cX8_takeAway 104 = .ok (.aload_n 0, 1) := by decide +kernel
theorem dX8_takeAway_105 : decode cX8_takeAway 105 = .ok (.iload_n 2, 1) := by decide +kernel
theorem dX8_takeAway_106 : decode cX8_takeAway 106 = .ok (.aload_n 0, 1) := by decide +kernel
theorem dX8_takeAway_107 : decode cX8_takeAway 107 = .ok (.getfield 24, 3) := by decide +kernel
theorem dX8_takeAway_110 : decode cX8_takeAway 110 = .ok (.iload_n 2, 1) := by decide +kernel
theorem dX8_takeAway_111 : decode cX8_takeAway 111 = .ok (.iconst 1, 1) := by decide +kernel
theorem dX8_takeAway_112 : decode cX8_takeAway 112 = .ok (.iadd, 1) := by decide +kernel
theorem dX8_takeAway_113 : decode cX8_takeAway 113 = .ok (.iaload, 1) := by decide +kernel
theorem dX8_takeAway_114 : decode cX8_takeAway 114 = .ok (.invokevirtual 37, 3) := by decide +kernel
theorem dX8_takeAway_117 : decode cX8_takeAway 117 = .ok (.iinc 2 1, 3) := by decide +kernel
theorem dX8_takeAway_120 : decode cX8_takeAway 120 = .ok (.goto (-82), 3) := by decide +kernel
theorem dX8_takeAway_123 : decode cX8_takeAway 123 = .ok (.aload_n 0, 1) := by decide +kernel
theorem dX8_takeAway_124 : decode cX8_takeAway 124 = .ok (.dup, 1) := by decide +kernel
theorem dX8_takeAway_125 : decode cX8_takeAway 125 = .ok (.getfield 33, 3) := by decide +kernel
theorem dX8_takeAway_128 : decode cX8_takeAway 128 = .ok (.iconst 1, 1) := by decide +kernel
theorem dX8_takeAway_129 : decode cX8_takeAway 129 = .ok (.isub, 1) := by decide +kernel
theorem dX8_takeAway_130 : decode cX8_takeAway 130 = .ok (.putfield 33, 3) := by decide +kernel
theorem dX8_takeAway_133 : decode cX8_takeAway 133 = .ok (.return_, 1) := by decide +kernel
theorem dX8_copyFrom_0 : decode cX8_copyFrom 0 = .ok (.aload_n 1, 1) := by decide +kernel
theorem dX8_copyFrom_1 : decode cX8_copyFrom 1 = .ok (.getfield 9, 3) := by decide +kernel
theorem dX8_copyFrom_4 : decode cX8_copyFrom 4 = .ok (.iconst 0, 1) := by decide +kernel
theorem dX8_copyFrom_5 : decode cX8_copyFrom 5 = .ok (.aload_n 0, 1) := by decide +kernel
theorem dX8_copyFrom_6 : decode cX8_copyFrom 6 = .ok (.getfield 9, 3) := by decide +kernel
theorem dX8_copyFrom_9 : decode cX8_copyFrom 9 = .ok (.iconst 0, 1) := by decide +kernel
theorem dX8_copyFrom_10 : decode cX8_copyFrom 10 = .ok (.bipush 7, 2) := by decide +kernel
theorem dX8_copyFrom_12 : decode cX8_copyFrom 12 = .ok (.invokestatic 41, 3) := by decide +kernel
theorem dX8_copyFrom_15 : decode cX8_copyFrom 15 = .ok (.aload_n 1, 1) := by decide +kernel
theorem dX8_copyFrom_16 : decode cX8_copyFrom 16 = .ok (.getfield 15, 3) := by decide +kernel
theorem dX8_copyFrom_19 : decode cX8_copyFrom 19 = .ok (.iconst 0, 1) := by decide +kernel
theorem dX8_copyFrom_20 : decode cX8_copyFrom 20 = .ok (.aload_n 0, 1) := by decide +kernel
theorem dX8_copyFrom_21 : decode cX8_copyFrom 21 = .ok (.getfield 15, 3) := by decide +kernel
theorem dX8_copyFrom_24 : decode cX8_copyFrom 24 = .ok (.iconst 0, 1) := by decide +kernel
theorem dX8_copyFrom_25 : decode cX8_copyFrom 25 = .ok (.bipush 7, 2) := by decide +kernel
theorem dX8_copyFrom_27 : decode cX8_copyFrom 27 = .ok (.invokestatic 41, 3) := by decide +kernel
theorem dX8_copyFrom_30 : decode cX8_copyFrom 30 = .ok (.aload_n 1, 1) := by decide +kernel
theorem dX8_copyFrom_31 : decode cX8_copyFrom 31 = .ok (.getfield 18, 3) := by decide +kernel
theorem dX8_copyFrom_34 : decode cX8_copyFrom 34 = .ok (.iconst 0, 1) := by decide +kernel
theorem dX8_copyFrom_35 : decode cX8_copyFrom 35 = .ok (.aload_n 0, 1) := by decide +kernel
theorem dX8_copyFrom_36 : decode cX8_copyFrom 36 = .ok (.getfield 18, 3) := by decide +kernel
theorem dX8_copyFrom_39 : decode cX8_copyFrom 39 = .ok (.iconst 0, 1) := by decide +kernel
theorem dX8_copyFrom_40 : decode cX8_copyFrom 40 = .ok (.bipush 7, 2) := by decide +kernel
theorem dX8_copyFrom_42 : decode cX8_copyFrom 42 = .ok (.invokestatic 41, 3) := by decide +kernel
theorem dX8_copyFrom_45 : decode cX8_copyFrom 45 = .ok (.aload_n 1, 1) := by decide +kernel
theorem dX8_copyFrom_46 : decode cX8_copyFrom 46 = .ok (.getfield 21, 3) := by decide +kernel
theorem dX8_copyFrom_49 : decode cX8_copyFrom 49 = .ok (.iconst 0, 1) := by decide +kernel
theorem dX8_copyFrom_50 : decode cX8_copyFrom 50 = .ok (.aload_n 0, 1) := by decide +kernel
theorem dX8_copyFrom_51 : decode cX8_copyFrom 51 = .ok (.getfield 21, 3) := by decide +kernel
theorem dX8_copyFrom_54 : decode cX8_copyFrom 54 = .ok (.iconst 0, 1) := by decide +kernel
theorem dX8_copyFrom_55 : decode cX8_copyFrom 55 = .ok (.bipush 7, 2) := by decide +kernel
theorem dX8_copyFrom_57 : decode cX8_copyFrom 57 = .ok (.invokestatic 41, 3) := by decide +kernel
theorem dX8_copyFrom_60 : decode cX8_copyFrom 60 = .ok (.aload_n 1, 1) := by decide +kernel
theorem dX8_copyFrom_61 : decode cX8_copyFrom 61 = .ok (.getfield 24, 3) := by decide +kernel
theorem dX8_copyFrom_64 : decode cX8_copyFrom 64 = .ok (.iconst 0, 1) := by decide +kernel
theorem dX8_copyFrom_65 : decode cX8_copyFrom 65 = .ok (.aload_n 0, 1) := by decide +kernel
theorem dX8_copyFrom_66 : decode cX8_copyFrom 66 = .ok (.getfield 24, 3) := by decide +kernel
theorem dX8_copyFrom_69 : decode cX8_copyFrom 69 = .ok (.iconst 0, 1) := by decide +kernel
theorem dX8_copyFrom_70 : decode cX8_copyFrom 70 = .ok (.bipush 7, 2) := by decide +kernel
theorem dX8_copyFrom_72 : decode cX8_copyFrom 72 = .ok (.invokestatic 41, 3) := by decide +kernel
theorem dX8_copyFrom_75 : decode cX8_copyFrom 75 = .ok (.aload_n 1, 1) := by decide +kernel
theorem dX8_copyFrom_76 : decode cX8_copyFrom 76 = .ok (.getfield 27, 3) := by decide +kernel
theorem dX8_copyFrom_79 : decode cX8_copyFrom 79 = .ok (.iconst 0, 1) := by decide +kernel
theorem dX8_copyFrom_80 : decode cX8_copyFrom 80 = .ok (.aload_n 0, 1) := by decide +kernel
theorem dX8_copyFrom_81 : decode cX8_copyFrom 81 = .ok (.getfield 27, 3) := by decide +kernel
theorem dX8_copyFrom_84 : decode cX8_copyFrom 84 = .ok (.iconst 0, 1) := by decide +kernel
theorem dX8_copyFrom_85 : decode cX8_copyFrom 85 = .ok (.bipush 7, 2) := by decide +kernel
theorem dX8_copyFrom_87 : decode cX8_copyFrom 87 = .ok (.invokestatic 41, 3) := by decide +kernel
theorem dX8_copyFrom_90 : decode cX8_copyFrom 90 = .ok (.aload_n 1, 1) := by decide +kernel
theorem dX8_copyFrom_91 : decode cX8_copyFrom 91 = .ok (.getfield 30, 3) := by decide +kernel
theorem dX8_copyFrom_94 : decode cX8_copyFrom 94 = .ok (.iconst 0, 1) := by decide +kernel
theorem dX8_copyFrom_95 : decode cX8_copyFrom 95 = .ok (.aload_n 0, 1) := by decide +kernel
theorem dX8_copyFrom_96 : decode cX8_copyFrom 96 = .ok (.getfield 30, 3) := by decide +kernel
theorem dX8_copyFrom_99 : decode cX8_copyFrom 99 = .ok (.iconst 0, 1) := by decide +kernel
theorem dX8_copyFrom_100 : decode cX8_copyFrom 100 = .ok (.bipush 7, 2) := by decide +kernel
theorem dX8_copyFrom_102 : decode cX8_copyFrom 102 = .ok (.invokestatic 41, 3) := by decide +kernel
theorem dX8_copyFrom_105 : decode cX8_copyFrom 105 = .ok (.aload_n 0, 1) := by decide +kernel
theorem dX8_copyFrom_106 : decode cX8_copyFrom 106 = .ok (.aload_n 1, 1) := by decide +kernel
theorem dX8_copyFrom_107 : decode cX8_copyFrom 107 = .ok (.getfield 33, 3) := by decide +kernel
theorem dX8_copyFrom_110 : decode cX8_copyFrom 110 = .ok (.putfield 33, 3) := by decide +kernel
theorem dX8_copyFrom_113 : decode cX8_copyFrom 113 = .ok (.return_, 1) := by decide +kernel
theorem dX8_put_0 : decode cX8_put 0 = .ok (.aload_n 0, 1) := by decide +kernel
theorem dX8_put_1 : decode cX8_put 1 = .ok (.getfield 24, 3) := by decide +kernel
theorem dX8_put_4 : decode cX8_put 4 = .ok (.iload_n 1, 1) := by decide +kernel
theorem dX8_put_5 : decode cX8_put 5 = .ok (.iload_n 2, 1) := by decide +kernel
theorem dX8_put_6 : decode cX8_put 6 = .ok (.iastore, 1) := by decide +kernel
theorem dX8_put_7 : decode cX8_put 7 = .ok (.aload_n 0, 1) := by decide +kernel
theorem dX8_put_8 : decode cX8_put 8 = .ok (.getfield 27, 3) := by decide +kernel
theorem dX8_put_11 : decode cX8_put 11 = .ok (.iload_n 2, 1) := by decide +kernel
theorem dX8_put_12 : decode cX8_put 12 = .ok (.iload_n 1, 1) := by decide +kernel
theorem dX8_put_13 : decode cX8_put 13 = .ok (.iastore, 1) := by decide +kernel
theorem dX8_put_14 : decode cX8_put 14 = .ok (.return_, 1) := by decide +kernel
theorem dX8_exchange_0 : decode cX8_exchange 0 = .ok (.aload_n 0, 1) := by decide +kernel
theorem dX8_exchange_1 : decode cX8_exchange 1 = .ok (.getfield 27, 3) := by decide +kernel
theorem dX8_exchange_4 : decode cX8_exchange 4 = .ok (.iload_n 1, 1) := by decide +kernel
theorem dX8_exchange_5 : decode cX8_exchange 5 = .ok (.iaload, 1) := by decide +kernel
theorem dX8_exchange_6 : decode cX8_exchange 6 = .ok (.istore_n 3, 1) := by decide +kernel
theorem dX8_exchange_7 : decode cX8_exchange 7 = .ok (.aload_n 0, 1) := by decide +kernel
theorem dX8_exchange_8 : decode cX8_exchange 8 = .ok (.aload_n 0, 1) := by decide +kernel
theorem dX8_exchange_9 : decode cX8_exchange 9 = .ok (.getfield 27, 3) := by decide +kernel
theorem dX8_exchange_12 : decode cX8_exchange 12 = .ok (.iload_n 2, 1) := by decide +kernel
theorem dX8_exchange_13 : decode cX8_exchange 13 = .ok (.iaload, 1) := by decide +kernel
theorem dX8_exchange_14 : decode cX8_exchange 14 = .ok (.iload_n 1, 1) := by decide +kernel
theorem dX8_exchange_15 : decode cX8_exchange 15 = .ok (.invokevirtual 37, 3) := by decide +kernel
theorem dX8_exchange_18 : decode cX8_exchange 18 = .ok (.aload_n 0, 1) := by decide +kernel
theorem dX8_exchange_19 : decode cX8_exchange 19 = .ok (.iload_n 3, 1) := by decide +kernel
theorem dX8_exchange_20 : decode cX8_exchange 20 = .ok (.iload_n 2, 1) := by decide +kernel
theorem dX8_exchange_21 : decode cX8_exchange 21 = .ok (.invokevirtual 37, 3) := by decide +kernel
theorem dX8_exchange_24 : decode cX8_exchange 24 = .ok (.return_, 1) := by decide +kernel
theorem dX8_putDown_0 : decode cX8_putDown 0 = .ok (.iconst 0, 1) := by decide +kernel
theorem dX8_putDown_1 : decode cX8_putDown 1 = .ok (.istore_n 3, 1) := by decide +kernel
theorem dX8_putDown_2 : decode cX8_putDown 2 = .ok (.iload_n 3, 1) := by decide +kernel
theorem dX8_putDown_3 : decode cX8_putDown 3 = .ok (.aload_n 0, 1) := by decide +kernel
theorem dX8_putDown_4 : decode cX8_putDown 4 = .ok (.getfield 33, 3) := by decide +kernel
theorem dX8_putDown_7 : decode cX8_putDown 7 = .ok (.if_icmp .ge 44, 3) := by decide +kernel
theorem dX8_putDown_10 : decode cX8_putDown 10 = .ok (.aload_n 1, 1) := by decide +kernel
theorem dX8_putDown_11 : decode cX8_putDown 11 = .ok (.iload_n 3, 1) := by decide +kernel
theorem dX8_putDown_12 : decode cX8_putDown 12 = .ok (.invokevirtual 47, 3) := by decide +kernel
theorem dX8_putDown_15 : decode cX8_putDown 15 = .ok (.istore 4, 2) := by decide +kernel
theorem dX8_putDown_17 : decode cX8_putDown 17 = .ok (.aload_n 0, 1) := by decide +kernel
theorem dX8_putDown_18 : decode cX8_putDown 18 = .ok (.iload 4, 2) := by decide +kernel
theorem dX8_putDown_20 : decode cX8_putDown 20 = .ok (.iload_n 3, 1) := by decide +kernel
theorem dX8_putDown_21 : decode cX8_putDown 21 = .ok (.invokevirtual 37, 3) := by decide +kernel
theorem dX8_putDown_24 : decode cX8_putDown 24 = .ok (.iload_n 2, 1) := by decide +kernel
theorem dX8_putDown_25 : decode cX8_putDown 25 = .ok (.ifCond .eq 20, 3) := by decide +kernel
theorem dX8_putDown_28 : decode cX8_putDown 28 = .ok (.aload_n 0, 1) := by decide +kernel
theorem dX8_putDown_29 : decode cX8_putDown 29 = .ok (.getfield 9, 3) := by decide +kernel
theorem dX8_putDown_32 : decode cX8_putDown 32 = .ok (.iload 4, 2) := by decide +kernel
theorem dX8_putDown_34 : decode cX8_putDown 34 = .ok (.iaload, 1) := by decide +kernel
theorem dX8_putDown_35 : decode cX8_putDown 35 = .ok (.iconst 4, 1) := by decide +kernel
theorem dX8_putDown_36 : decode cX8_putDown 36 = .ok (.if_icmp .eq 9, 3) := by decide +kernel
theorem dX8_putDown_39 : decode cX8_putDown 39 = .ok (.aload_n 0, 1) := by decide +kernel
theorem dX8_putDown_40 : decode cX8_putDown 40 = .ok (.iload 4, 2) := by decide +kernel
theorem dX8_putDown_42 : decode cX8_putDown 42 = .ok (.invokevirtual 53, 3) := by decide +kernel
theorem dX8_putDown_45 : decode cX8_putDown 45 = .ok (.iinc 3 1, 3) := by decide +kernel
theorem dX8_putDown_48 : decode cX8_putDown 48 = .ok (.goto (-46), 3) := by decide +kernel
theorem dX8_putDown_51 : decode cX8_putDown 51 = .ok (.return_, 1) := by decide +kernel
theorem dX8_turnOver_0 : decode cX8_turnOver 0 = .ok (.aload_n 0, 1) := by decide +kernel
theorem dX8_turnOver_1 : decode cX8_turnOver 1 = .ok (.getfield 15, 3) := by decide +kernel
theorem dX8_turnOver_4 : decode cX8_turnOver 4 = .ok (.iload_n 1, 1) := by decide +kernel
theorem dX8_turnOver_5 : decode cX8_turnOver 5 = .ok (.iaload, 1) := by decide +kernel
theorem dX8_turnOver_6 : decode cX8_turnOver 6 = .ok (.istore_n 2, 1) := by decide +kernel
theorem dX8_turnOver_7 : decode cX8_turnOver 7 = .ok (.aload_n 0, 1) := by decide +kernel
theorem dX8_turnOver_8 : decode cX8_turnOver 8 = .ok (.getfield 15, 3) := by decide +kernel
theorem dX8_turnOver_11 : decode cX8_turnOver 11 = .ok (.iload_n 1, 1) := by decide +kernel
theorem dX8_turnOver_12 : decode cX8_turnOver 12 = .ok (.aload_n 0, 1) := by decide +kernel
theorem dX8_turnOver_13 : decode cX8_turnOver 13 = .ok (.getfield 18, 3) := by decide +kernel
theorem dX8_turnOver_16 : decode cX8_turnOver 16 = .ok (.iload_n 1, 1) := by decide +kernel
theorem dX8_turnOver_17 : decode cX8_turnOver 17 = .ok (.iaload, 1) := by decide +kernel
theorem dX8_turnOver_18 : decode cX8_turnOver 18 = .ok (.iastore, 1) := by decide +kernel
theorem dX8_turnOver_19 : decode cX8_turnOver 19 = .ok (.aload_n 0, 1) := by decide +kernel
theorem dX8_turnOver_20 : decode cX8_turnOver 20 = .ok (.getfield 18, 3) := by decide +kernel
theorem dX8_turnOver_23 : decode cX8_turnOver 23 = .ok (.iload_n 1, 1) := by decide +kernel
theorem dX8_turnOver_24 : decode cX8_turnOver 24 = .ok (.iload_n 2, 1) := by decide +kernel
theorem dX8_turnOver_25 : decode cX8_turnOver 25 = .ok (.iastore, 1) := by decide +kernel
theorem dX8_turnOver_26 : decode cX8_turnOver 26 = .ok (.return_, 1) := by decide +kernel
theorem dX8_changeWheels_0 : decode cX8_changeWheels 0 = .ok (.aload_n 0, 1) := by decide +kernel
theorem dX8_changeWheels_1 : decode cX8_changeWheels 1 = .ok (.getfield 30, 3) := by decide +kernel
theorem dX8_changeWheels_4 : decode cX8_changeWheels 4 = .ok (.iload_n 1, 1) := by decide +kernel
theorem dX8_changeWheels_5 : decode cX8_changeWheels 5 = .ok (.iaload, 1) := by decide +kernel
theorem dX8_changeWheels_6 : decode cX8_changeWheels 6 = .ok (.istore_n 3, 1) := by decide +kernel
theorem dX8_changeWheels_7 : decode cX8_changeWheels 7 = .ok (.aload_n 0, 1) := by decide +kernel
theorem dX8_changeWheels_8 : decode cX8_changeWheels 8 = .ok (.getfield 30, 3) := by decide +kernel
theorem dX8_changeWheels_11 : decode cX8_changeWheels 11 = .ok (.iload_n 1, 1) := by decide +kernel
theorem dX8_changeWheels_12 : decode cX8_changeWheels 12 = .ok (.iload_n 2, 1) := by decide +kernel
theorem dX8_changeWheels_13 : decode cX8_changeWheels 13 = .ok (.iastore, 1) := by decide +kernel
theorem dX8_changeWheels_14 : decode cX8_changeWheels 14 = .ok (.iload_n 3, 1) := by decide +kernel
theorem dX8_changeWheels_15 : decode cX8_changeWheels 15 = .ok (.ireturn, 1) := by decide +kernel
theorem dX8_changeWas_0 : decode cX8_changeWas 0 = .ok (.aload_n 0, 1) := by decide +kernel
theorem dX8_changeWas_1 : decode cX8_changeWas 1 = .ok (.getfield 21, 3) := by decide +kernel
theorem dX8_changeWas_4 : decode cX8_changeWas 4 = .ok (.iload_n 1, 1) := by decide +kernel
theorem dX8_changeWas_5 : decode cX8_changeWas 5 = .ok (.iaload, 1) := by decide +kernel
theorem dX8_changeWas_6 : decode cX8_changeWas 6 = .ok (.istore_n 3, 1) := by decide +kernel
theorem dX8_changeWas_7 : decode cX8_changeWas 7 = .ok (.aload_n 0, 1) := by decide +kernel
theorem dX8_changeWas_8 : decode cX8_changeWas 8 = .ok (.getfield 21, 3) := by decide +kernel
theorem dX8_changeWas_11 : decode cX8_changeWas 11 = .ok (.iload_n 1, 1) := by decide +kernel
theorem dX8_changeWas_12 : decode cX8_changeWas 12 = .ok (.iload_n 2, 1) := by decide +kernel
theorem dX8_changeWas_13 : decode cX8_changeWas 13 = .ok (.iastore, 1) := by decide +kernel
theorem dX8_changeWas_14 : decode cX8_changeWas 14 = .ok (.iload_n 3, 1) := by decide +kernel
theorem dX8_changeWas_15 : decode cX8_changeWas 15 = .ok (.ireturn, 1) := by decide +kernel
theorem dX8_lieTogether_0 : decode cX8_lieTogether 0 = .ok (.aload_n 0, 1) := by decide +kernel
theorem dX8_lieTogether_1 : decode cX8_lieTogether 1 = .ok (.getfield 24, 3) := by decide +kernel
theorem dX8_lieTogether_4 : decode cX8_lieTogether 4 = .ok (.iload_n 1, 1) := by decide +kernel
theorem dX8_lieTogether_5 : decode cX8_lieTogether 5 = .ok (.iaload, 1) := by decide +kernel
theorem dX8_lieTogether_6 : decode cX8_lieTogether 6 = .ok (.aload_n 0, 1) := by decide +kernel
theorem dX8_lieTogether_7 : decode cX8_lieTogether 7 = .ok (.getfield 24, 3) := by decide +kernel
theorem dX8_lieTogether_10 : decode cX8_lieTogether 10 = .ok (.iload_n 2, 1) := by decide +kernel
theorem dX8_lieTogether_11 : decode cX8_lieTogether 11 = .ok (.iaload, 1) := by decide +kernel
theorem dX8_lieTogether_12 : decode cX8_lieTogether 12 = .ok (.isub, 1) := by decide +kernel
theorem dX8_lieTogether_13 : decode cX8_lieTogether 13 = .ok (.invokestatic 57, 3) := by decide +kernel
theorem dX8_lieTogether_16 : decode cX8_lieTogether 16 = .ok (.iconst 1, 1) := by decide +kernel
theorem dX8_lieTogether_17 : decode cX8_lieTogether 17 = .ok (.if_icmp .ne 7, 3) := by decide +kernel
theorem dX8_lieTogether_20 : decode cX8_lieTogether 20 = .ok (.iconst 1, 1) := by decide +kernel
theorem dX8_lieTogether_21 : decode cX8_lieTogether 21 = .ok (.goto 4, 3) := by decide +kernel
theorem dX8_lieTogether_24 : decode cX8_lieTogether 24 = .ok (.iconst 0, 1) := by decide +kernel
theorem dX8_lieTogether_25 : decode cX8_lieTogether 25 = .ok (.ireturn, 1) := by decide +kernel
theorem dX8_yearlyWear_0 : decode cX8_yearlyWear 0 = .ok (.aload_n 0, 1) := by decide +kernel
theorem dX8_yearlyWear_1 : decode cX8_yearlyWear 1 = .ok (.getfield 30, 3) := by decide +kernel
theorem dX8_yearlyWear_4 : decode cX8_yearlyWear 4 = .ok (.iload_n 2, 1) := by decide +kernel
theorem dX8_yearlyWear_5 : decode cX8_yearlyWear 5 = .ok (.iaload, 1) := by decide +kernel
theorem dX8_yearlyWear_6 : decode cX8_yearlyWear 6 = .ok (.istore_n 3, 1) := by decide +kernel
theorem dX8_yearlyWear_7 : decode cX8_yearlyWear 7 = .ok (.aload_n 0, 1) := by decide +kernel
theorem dX8_yearlyWear_8 : decode cX8_yearlyWear 8 = .ok (.getfield 9, 3) := by decide +kernel
theorem dX8_yearlyWear_11 : decode cX8_yearlyWear 11 = .ok (.iload_n 1, 1) := by decide +kernel
theorem dX8_yearlyWear_12 : decode cX8_yearlyWear 12 = .ok (.iaload, 1) := by decide +kernel
theorem dX8_yearlyWear_13 : decode cX8_yearlyWear 13 = .ok (.tableswitch 41 1 4 #[31, 37, 41, 31], 31) := by decide +kernel
theorem dX8_yearlyWear_44 : decode cX8_yearlyWear 44 = .ok (.iload_n 3, 1) := by decide +kernel
theorem dX8_yearlyWear_45 : decode cX8_yearlyWear 45 = .ok (.iconst 1, 1) := by decide +kernel
theorem dX8_yearlyWear_46 : decode cX8_yearlyWear 46 = .ok (.iadd, 1) := by decide +kernel
theorem dX8_yearlyWear_47 : decode cX8_yearlyWear 47 = .ok (.iconst 2, 1) := by decide +kernel
theorem dX8_yearlyWear_48 : decode cX8_yearlyWear 48 = .ok (.idiv, 1) := by decide +kernel
theorem dX8_yearlyWear_49 : decode cX8_yearlyWear 49 = .ok (.ireturn, 1) := by decide +kernel
theorem dX8_yearlyWear_50 : decode cX8_yearlyWear 50 = .ok (.iload_n 3, 1) := by decide +kernel
theorem dX8_yearlyWear_51 : decode cX8_yearlyWear 51 = .ok (.iconst 2, 1) := by decide +kernel
theorem dX8_yearlyWear_52 : decode cX8_yearlyWear 52 = .ok (.imul, 1) := by decide +kernel
theorem dX8_yearlyWear_53 : decode cX8_yearlyWear 53 = .ok (.ireturn, 1) := by decide +kernel
theorem dX8_yearlyWear_54 : decode cX8_yearlyWear 54 = .ok (.iload_n 3, 1) := by decide +kernel
theorem dX8_yearlyWear_55 : decode cX8_yearlyWear 55 = .ok (.ireturn, 1) := by decide +kernel
theorem dX8_wornHead_0 : decode cX8_wornHead 0 = .ok (.sipush 999, 3) := by decide +kernel
theorem dX8_wornHead_3 : decode cX8_wornHead 3 = .ok (.iload_n 1, 1) := by decide +kernel
theorem dX8_wornHead_4 : decode cX8_wornHead 4 = .ok (.aload_n 0, 1) := by decide +kernel
theorem dX8_wornHead_5 : decode cX8_wornHead 5 = .ok (.iload_n 2, 1) := by decide +kernel
theorem dX8_wornHead_6 : decode cX8_wornHead 6 = .ok (.iload_n 3, 1) := by decide +kernel
theorem dX8_wornHead_7 : decode cX8_wornHead 7 = .ok (.invokevirtual 62, 3) := by decide +kernel
theorem dX8_wornHead_10 : decode cX8_wornHead 10 = .ok (.iadd, 1) := by decide +kernel
theorem dX8_wornHead_11 : decode cX8_wornHead 11 = .ok (.invokestatic 66, 3) := by decide +kernel
theorem dX8_wornHead_14 : decode cX8_wornHead 14 = .ok (.ireturn, 1) := by decide +kernel
theorem dX8_wearIfLaid_0 : decode cX8_wearIfLaid 0 = .ok (.iload_n 3, 1) := by decide +kernel
theorem dX8_wearIfLaid_1 : decode cX8_wearIfLaid 1 = .ok (.ifCond .eq 22, 3) := by decide +kernel
theorem dX8_wearIfLaid_4 : decode cX8_wearIfLaid 4 = .ok (.aload_n 0, 1) := by decide +kernel
theorem dX8_wearIfLaid_5 : decode cX8_wearIfLaid 5 = .ok (.getfield 9, 3) := by decide +kernel
theorem dX8_wearIfLaid_8 : decode cX8_wearIfLaid 8 = .ok (.iload_n 1, 1) := by decide +kernel
theorem dX8_wearIfLaid_9 : decode cX8_wearIfLaid 9 = .ok (.iaload, 1) := by decide +kernel
theorem dX8_wearIfLaid_10 : decode cX8_wearIfLaid 10 = .ok (.iconst 4, 1) := by decide +kernel
theorem dX8_wearIfLaid_11 : decode cX8_wearIfLaid 11 = .ok (.if_icmp .eq 12, 3) := by decide +kernel
theorem dX8_wearIfLaid_14 : decode cX8_wearIfLaid 14 = .ok (.aload_n 0, 1) := by decide +kernel
theorem dX8_wearIfLaid_15 : decode cX8_wearIfLaid 15 = .ok (.getfield 18, 3) := by decide +kernel
theorem dX8_wearIfLaid_18 : decode cX8_wearIfLaid 18 = .ok (.iload_n 1, 1) := by decide +kernel
theorem dX8_wearIfLaid_19 : decode cX8_wearIfLaid 19 = .ok (.iaload, 1) := by decide +kernel
theorem dX8_wearIfLaid_20 : decode cX8_wearIfLaid 20 = .ok (.goto 9, 3) := by decide +kernel
theorem dX8_wearIfLaid_23 : decode cX8_wearIfLaid 23 = .ok (.aload_n 0, 1) := by decide +kernel
theorem dX8_wearIfLaid_24 : decode cX8_wearIfLaid 24 = .ok (.getfield 15, 3) := by decide +kernel
theorem dX8_wearIfLaid_27 : decode cX8_wearIfLaid 27 = .ok (.iload_n 1, 1) := by decide +kernel
theorem dX8_wearIfLaid_28 : decode cX8_wearIfLaid 28 = .ok (.iaload, 1) := by decide +kernel
theorem dX8_wearIfLaid_29 : decode cX8_wearIfLaid 29 = .ok (.istore 4, 2) := by decide +kernel
theorem dX8_wearIfLaid_31 : decode cX8_wearIfLaid 31 = .ok (.aload_n 0, 1) := by decide +kernel
theorem dX8_wearIfLaid_32 : decode cX8_wearIfLaid 32 = .ok (.iload 4, 2) := by decide +kernel
theorem dX8_wearIfLaid_34 : decode cX8_wearIfLaid 34 = .ok (.iload_n 1, 1) := by decide +kernel
theorem dX8_wearIfLaid_35 : decode cX8_wearIfLaid 35 = .ok (.iload_n 2, 1) := by decide +kernel
theorem dX8_wearIfLaid_36 : decode cX8_wearIfLaid 36 = .ok (.invokevirtual 69, 3) := by decide +kernel
theorem dX8_wearIfLaid_39 : decode cX8_wearIfLaid 39 = .ok (.ireturn, 1) := by decide +kernel
theorem dX8_wearForAYear_0 : decode cX8_wearForAYear 0 = .ok (.iconst 0, 1) := by decide +kernel
theorem dX8_wearForAYear_1 : decode cX8_wearForAYear 1 = .ok (.istore_n 1, 1) := by decide +kernel
theorem dX8_wearForAYear_2 : decode cX8_wearForAYear 2 = .ok (.iload_n 1, 1) := by decide +kernel
theorem dX8_wearForAYear_3 : decode cX8_wearForAYear 3 = .ok (.aload_n 0, 1) := by decide +kernel
theorem dX8_wearForAYear_4 : decode cX8_wearForAYear 4 = .ok (.getfield 33, 3) := by decide +kernel
theorem dX8_wearForAYear_7 : decode cX8_wearForAYear 7 = .ok (.if_icmp .ge 32, 3) := by decide +kernel
theorem dX8_wearForAYear_10 : decode cX8_wearForAYear 10 = .ok (.aload_n 0, 1) := by decide +kernel
theorem dX8_wearForAYear_11 : decode cX8_wearForAYear 11 = .ok (.getfield 15, 3) := by decide +kernel
theorem dX8_wearForAYear_14 : decode cX8_wearForAYear 14 = .ok (.iload_n 1, 1) := by decide +kernel
theorem dX8_wearForAYear_15 : decode cX8_wearForAYear 15 = .ok (.aload_n 0, 1) := by decide +kernel
theorem dX8_wearForAYear_16 : decode cX8_wearForAYear 16 = .ok (.aload_n 0, 1) := by decide +kernel
theorem dX8_wearForAYear_17 : decode cX8_wearForAYear 17 = .ok (.getfield 15, 3) := by decide +kernel
theorem dX8_wearForAYear_20 : decode cX8_wearForAYear 20 = .ok (.iload_n 1, 1) := by decide +kernel
theorem dX8_wearForAYear_21 : decode cX8_wearForAYear 21 = .ok (.iaload, 1) := by decide +kernel
theorem dX8_wearForAYear_22 : decode cX8_wearForAYear 22 = .ok (.iload_n 1, 1) := by decide +kernel
theorem dX8_wearForAYear_23 : decode cX8_wearForAYear 23 = .ok (.aload_n 0, 1) := by decide +kernel
theorem dX8_wearForAYear_24 : decode cX8_wearForAYear 24 = .ok (.getfield 24, 3) := by decide +kernel
theorem dX8_wearForAYear_27 : decode cX8_wearForAYear 27 = .ok (.iload_n 1, 1) := by decide +kernel
theorem dX8_wearForAYear_28 : decode cX8_wearForAYear 28 = .ok (.iaload, 1) := by decide +kernel
theorem dX8_wearForAYear_29 : decode cX8_wearForAYear 29 = .ok (.invokevirtual 69, 3) := by decide +kernel
theorem dX8_wearForAYear_32 : decode cX8_wearForAYear 32 = .ok (.iastore, 1) := by decide +kernel
theorem dX8_wearForAYear_33 : decode cX8_wearForAYear 33 = .ok (.iinc 1 1, 3) := by decide +kernel
theorem dX8_wearForAYear_36 : decode cX8_wearForAYear 36 = .ok (.goto (-34), 3) := by decide +kernel
theorem dX8_wearForAYear_39 : decode cX8_wearForAYear 39 = .ok (.return_, 1) := by decide +kernel
theorem dX8_burnWorn_0 : decode cX8_burnWorn 0 = .ok (.iconst 0, 1) := by decide +kernel
theorem dX8_burnWorn_1 : decode cX8_burnWorn 1 = .ok (.istore_n 2, 1) := by decide +kernel
theorem dX8_burnWorn_2 : decode cX8_burnWorn 2 = .ok (.iconst 0, 1) := by decide +kernel
theorem dX8_burnWorn_3 : decode cX8_burnWorn 3 = .ok (.istore_n 3, 1) := by decide +kernel
theorem dX8_burnWorn_4 : decode cX8_burnWorn 4 = .ok (.iload_n 3, 1) := by decide +kernel
theorem dX8_burnWorn_5 : decode cX8_burnWorn 5 = .ok (.aload_n 0, 1) := by decide +kernel
theorem dX8_burnWorn_6 : decode cX8_burnWorn 6 = .ok (.getfield 33, 3) := by decide +kernel
theorem dX8_burnWorn_9 : decode cX8_burnWorn 9 = .ok (.if_icmp .ge 46, 3) := by decide +kernel
theorem dX8_burnWorn_12 : decode cX8_burnWorn 12 = .ok (.aload_n 0, 1) := by decide +kernel
theorem dX8_burnWorn_13 : decode cX8_burnWorn 13 = .ok (.getfield 15, 3) := by decide +kernel
theorem dX8_burnWorn_16 : decode cX8_burnWorn 16 = .ok (.iload_n 3, 1) := by decide +kernel
theorem dX8_burnWorn_17 : decode cX8_burnWorn 17 = .ok (.iaload, 1) := by decide +kernel
theorem dX8_burnWorn_18 : decode cX8_burnWorn 18 = .ok (.iload_n 1, 1) := by decide +kernel
theorem dX8_burnWorn_19 : decode cX8_burnWorn 19 = .ok (.if_icmp .lt 30, 3) := by decide +kernel
theorem dX8_burnWorn_22 : decode cX8_burnWorn 22 = .ok (.aload_n 0, 1) := by decide +kernel
theorem dX8_burnWorn_23 : decode cX8_burnWorn 23 = .ok (.getfield 18, 3) := by decide +kernel
theorem dX8_burnWorn_26 : decode cX8_burnWorn 26 = .ok (.iload_n 3, 1) := by decide +kernel
theorem dX8_burnWorn_27 : decode cX8_burnWorn 27 = .ok (.iaload, 1) := by decide +kernel
theorem dX8_burnWorn_28 : decode cX8_burnWorn 28 = .ok (.iload_n 1, 1) := by decide +kernel
theorem dX8_burnWorn_29 : decode cX8_burnWorn 29 = .ok (.if_icmp .lt 20, 3) := by decide +kernel
theorem dX8_burnWorn_32 : decode cX8_burnWorn 32 = .ok (.aload_n 0, 1) := by decide +kernel
theorem dX8_burnWorn_33 : decode cX8_burnWorn 33 = .ok (.getfield 15, 3) := by decide +kernel
theorem dX8_burnWorn_36 : decode cX8_burnWorn 36 = .ok (.iload_n 3, 1) := by decide +kernel
theorem dX8_burnWorn_37 : decode cX8_burnWorn 37 = .ok (.iconst 0, 1) := by decide +kernel
theorem dX8_burnWorn_38 : decode cX8_burnWorn 38 = .ok (.iastore, 1) := by decide +kernel
theorem dX8_burnWorn_39 : decode cX8_burnWorn 39 = .ok (.aload_n 0, 1) := by decide +kernel
theorem dX8_burnWorn_40 : decode cX8_burnWorn 40 = .ok (.getfield 18, 3) := by decide +kernel
theorem dX8_burnWorn_43 : decode cX8_burnWorn 43 = .ok (.iload_n 3, 1) := by decide +kernel
theorem dX8_burnWorn_44 : decode cX8_burnWorn 44 = .ok (.iconst 0, 1) := by decide +kernel
theorem dX8_burnWorn_45 : decode cX8_burnWorn 45 = .ok (.iastore, 1) := by decide +kernel
theorem dX8_burnWorn_46 : decode cX8_burnWorn 46 = .ok (.iinc 2 1, 3) := by decide +kernel
theorem dX8_burnWorn_49 : decode cX8_burnWorn 49 = .ok (.iinc 3 1, 3) := by decide +kernel
theorem dX8_burnWorn_52 : decode cX8_burnWorn 52 = .ok (.goto (-48), 3) := by decide +kernel
theorem dX8_burnWorn_55 : decode cX8_burnWorn 55 = .ok (.iload_n 2, 1) := by decide +kernel
theorem dX8_burnWorn_56 : decode cX8_burnWorn 56 = .ok (.ireturn, 1) := by decide +kernel
theorem dX8_worstWear_0 : decode cX8_worstWear 0 = .ok (.iconst 0, 1) := by decide +kernel
theorem dX8_worstWear_1 : decode cX8_worstWear 1 = .ok (.istore_n 1, 1) := by decide +kernel
theorem dX8_worstWear_2 : decode cX8_worstWear 2 = .ok (.iconst 0, 1) := by decide +kernel
theorem dX8_worstWear_3 : decode cX8_worstWear 3 = .ok (.istore_n 2, 1) := by decide +kernel
theorem dX8_worstWear_4 : decode cX8_worstWear 4 = .ok (.iload_n 2, 1) := by decide +kernel
theorem dX8_worstWear_5 : decode cX8_worstWear 5 = .ok (.aload_n 0, 1) := by decide +kernel
theorem dX8_worstWear_6 : decode cX8_worstWear 6 = .ok (.getfield 33, 3) := by decide +kernel
end
section
theorem dX8_worstWear_9 : decode cX8_worstWear 9 = .ok (.if_icmp .ge 20, 3) := by decide +kernel
theorem dX8_worstWear_12 : decode cX8_worstWear 12 = .ok (.iload_n 1, 1) := by decide +kernel
theorem dX8_worstWear_13 : decode cX8_worstWear 13 = .ok (.aload_n 0, 1) := by decide +kernel
theorem dX8_worstWear_14 : decode cX8_worstWear 14 = .ok (.getfield 15, 3) := by decide +kernel
theorem dX8_worstWear_17 : decode cX8_worstWear 17 = .ok (.iload_n 2, 1) := by decide +kernel
theorem dX8_worstWear_18 : decode cX8_worstWear 18 = .ok (.iaload, 1) := by decide +kernel
theorem dX8_worstWear_19 : decode cX8_worstWear 19 = .ok (.invokestatic 73, 3) := by decide +kernel
theorem dX8_worstWear_22 : decode cX8_worstWear 22 = .ok (.istore_n 1, 1) := by decide +kernel
theorem dX8_worstWear_23 : decode cX8_worstWear 23 = .ok (.iinc 2 1, 3) := by decide +kernel
theorem dX8_worstWear_26 : decode cX8_worstWear 26 = .ok (.goto (-22), 3) := by decide +kernel
theorem dX8_worstWear_29 : decode cX8_worstWear 29 = .ok (.iload_n 1, 1) := by decide +kernel
theorem dX8_worstWear_30 : decode cX8_worstWear 30 = .ok (.ireturn, 1) := by decide +kernel
theorem dX8_looksNeeded_0 : decode cX8_looksNeeded 0 = .ok (.iconst 0, 1) := by decide +kernel
theorem dX8_looksNeeded_1 : decode cX8_looksNeeded 1 = .ok (.istore_n 1, 1) := by decide +kernel
theorem dX8_looksNeeded_2 : decode cX8_looksNeeded 2 = .ok (.iconst 0, 1) := by decide +kernel
theorem dX8_looksNeeded_3 : decode cX8_looksNeeded 3 = .ok (.istore_n 2, 1) := by decide +kernel
theorem dX8_looksNeeded_4 : decode cX8_looksNeeded 4 = .ok (.iload_n 2, 1) := by decide +kernel
theorem dX8_looksNeeded_5 : decode cX8_looksNeeded 5 = .ok (.aload_n 0, 1) := by decide +kernel
theorem dX8_looksNeeded_6 : decode cX8_looksNeeded 6 = .ok (.getfield 33, 3) := by decide +kernel
theorem dX8_looksNeeded_9 : decode cX8_looksNeeded 9 = .ok (.if_icmp .ge 20, 3) := by decide +kernel
theorem dX8_looksNeeded_12 : decode cX8_looksNeeded 12 = .ok (.iload_n 1, 1) := by decide +kernel
theorem dX8_looksNeeded_13 : decode cX8_looksNeeded 13 = .ok (.iconst 1, 1) := by decide +kernel
theorem dX8_looksNeeded_14 : decode cX8_looksNeeded 14 = .ok (.aload_n 0, 1) := by decide +kernel
theorem dX8_looksNeeded_15 : decode cX8_looksNeeded 15 = .ok (.getfield 9, 3) := by decide +kernel
theorem dX8_looksNeeded_18 : decode cX8_looksNeeded 18 = .ok (.iload_n 2, 1) := by decide +kernel
theorem dX8_looksNeeded_19 : decode cX8_looksNeeded 19 = .ok (.iaload, 1) := by decide +kernel
theorem dX8_looksNeeded_20 : decode cX8_looksNeeded 20 = .ok (.ishl, 1) := by decide +kernel
theorem dX8_looksNeeded_21 : decode cX8_looksNeeded 21 = .ok (.ior, 1) := by decide +kernel
theorem dX8_looksNeeded_22 : decode cX8_looksNeeded 22 = .ok (.istore_n 1, 1) := by decide +kernel
theorem dX8_looksNeeded_23 : decode cX8_looksNeeded 23 = .ok (.iinc 2 1, 3) := by decide +kernel
theorem dX8_looksNeeded_26 : decode cX8_looksNeeded 26 = .ok (.goto (-22), 3) := by decide +kernel
theorem dX8_looksNeeded_29 : decode cX8_looksNeeded 29 = .ok (.aload_n 0, 1) := by decide +kernel
theorem dX8_looksNeeded_30 : decode cX8_looksNeeded 30 = .ok (.getfield 33, 3) := by decide +kernel
theorem dX8_looksNeeded_33 : decode cX8_looksNeeded 33 = .ok (.iload_n 1, 1) := by decide +kernel
theorem dX8_looksNeeded_34 : decode cX8_looksNeeded 34 = .ok (.invokestatic 76, 3) := by decide +kernel
theorem dX8_looksNeeded_37 : decode cX8_looksNeeded 37 = .ok (.isub, 1) := by decide +kernel
theorem dX8_looksNeeded_38 : decode cX8_looksNeeded 38 = .ok (.ireturn, 1) := by decide +kernel
theorem dX8_wheelsInUse_0 : decode cX8_wheelsInUse 0 = .ok (.iconst 0, 1) := by decide +kernel
theorem dX8_wheelsInUse_1 : decode cX8_wheelsInUse 1 = .ok (.istore_n 1, 1) := by decide +kernel
theorem dX8_wheelsInUse_2 : decode cX8_wheelsInUse 2 = .ok (.iconst 0, 1) := by decide +kernel
theorem dX8_wheelsInUse_3 : decode cX8_wheelsInUse 3 = .ok (.istore_n 2, 1) := by decide +kernel
theorem dX8_wheelsInUse_4 : decode cX8_wheelsInUse 4 = .ok (.iload_n 2, 1) := by decide +kernel
theorem dX8_wheelsInUse_5 : decode cX8_wheelsInUse 5 = .ok (.aload_n 0, 1) := by decide +kernel
theorem dX8_wheelsInUse_6 : decode cX8_wheelsInUse 6 = .ok (.getfield 33, 3) := by decide +kernel
theorem dX8_wheelsInUse_9 : decode cX8_wheelsInUse 9 = .ok (.if_icmp .ge 18, 3) := by decide +kernel
theorem dX8_wheelsInUse_12 : decode cX8_wheelsInUse 12 = .ok (.iload_n 1, 1) := by decide +kernel
theorem dX8_wheelsInUse_13 : decode cX8_wheelsInUse 13 = .ok (.aload_n 0, 1) := by decide +kernel
theorem dX8_wheelsInUse_14 : decode cX8_wheelsInUse 14 = .ok (.getfield 30, 3) := by decide +kernel
theorem dX8_wheelsInUse_17 : decode cX8_wheelsInUse 17 = .ok (.iload_n 2, 1) := by decide +kernel
theorem dX8_wheelsInUse_18 : decode cX8_wheelsInUse 18 = .ok (.iaload, 1) := by decide +kernel
theorem dX8_wheelsInUse_19 : decode cX8_wheelsInUse 19 = .ok (.iadd, 1) := by decide +kernel
theorem dX8_wheelsInUse_20 : decode cX8_wheelsInUse 20 = .ok (.istore_n 1, 1) := by decide +kernel
theorem dX8_wheelsInUse_21 : decode cX8_wheelsInUse 21 = .ok (.iinc 2 1, 3) := by decide +kernel
theorem dX8_wheelsInUse_24 : decode cX8_wheelsInUse 24 = .ok (.goto (-20), 3) := by decide +kernel
theorem dX8_wheelsInUse_27 : decode cX8_wheelsInUse 27 = .ok (.iload_n 1, 1) := by decide +kernel
theorem dX8_wheelsInUse_28 : decode cX8_wheelsInUse 28 = .ok (.ireturn, 1) := by decide +kernel
theorem dX9_init_0 : decode cX9_init 0 = .ok (.aload_n 0, 1) := by decide +kernel
theorem dX9_init_1 : decode cX9_init 1 = .ok (.invokespecial 1, 3) := by decide +kernel
theorem dX9_init_4 : decode cX9_init 4 = .ok (.aload_n 0, 1) := by decide +kernel
theorem dX9_init_5 : decode cX9_init 5 = .ok (.new 7, 3) := by decide +kernel
theorem dX9_init_8 : decode cX9_init 8 = .ok (.dup, 1) := by decide +kernel
theorem dX9_init_9 : decode cX9_init 9 = .ok (.invokespecial 9, 3) := by decide +kernel
theorem dX9_init_12 : decode cX9_init 12 = .ok (.putfield 10, 3) := by decide +kernel
theorem dX9_init_15 : decode cX9_init 15 = .ok (.aload_n 0, 1) := by decide +kernel
theorem dX9_init_16 : decode cX9_init 16 = .ok (.new 16, 3) := by decide +kernel
theorem dX9_init_19 : decode cX9_init 19 = .ok (.dup, 1) := by decide +kernel
theorem dX9_init_20 : decode cX9_init 20 = .ok (.invokespecial 18, 3) := by decide +kernel
theorem dX9_init_23 : decode cX9_init 23 = .ok (.putfield 19, 3) := by decide +kernel
theorem dX9_init_26 : decode cX9_init 26 = .ok (.aload_n 0, 1) := by decide +kernel
theorem dX9_init_27 : decode cX9_init 27 = .ok (.new 23, 3) := by decide +kernel
theorem dX9_init_30 : decode cX9_init 30 = .ok (.dup, 1) := by decide +kernel
theorem dX9_init_31 : decode cX9_init 31 = .ok (.invokespecial 25, 3) := by decide +kernel
theorem dX9_init_34 : decode cX9_init 34 = .ok (.putfield 26, 3) := by decide +kernel
theorem dX9_init_37 : decode cX9_init 37 = .ok (.aload_n 0, 1) := by decide +kernel
theorem dX9_init_38 : decode cX9_init 38 = .ok (.new 23, 3) := by decide +kernel
theorem dX9_init_41 : decode cX9_init 41 = .ok (.dup, 1) := by decide +kernel
theorem dX9_init_42 : decode cX9_init 42 = .ok (.invokespecial 25, 3) := by decide +kernel
theorem dX9_init_45 : decode cX9_init 45 = .ok (.putfield 30, 3) := by decide +kernel
theorem dX9_init_48 : decode cX9_init 48 = .ok (.aload_n 0, 1) := by decide +kernel
theorem dX9_init_49 : decode cX9_init 49 = .ok (.new 33, 3) := by decide +kernel
theorem dX9_init_52 : decode cX9_init 52 = .ok (.dup, 1) := by decide +kernel
theorem dX9_init_53 : decode cX9_init 53 = .ok (.invokespecial 35, 3) := by decide +kernel
theorem dX9_init_56 : decode cX9_init 56 = .ok (.putfield 36, 3) := by decide +kernel
theorem dX9_init_59 : decode cX9_init 59 = .ok (.aload_n 0, 1) := by decide +kernel
theorem dX9_init_60 : decode cX9_init 60 = .ok (.new 40, 3) := by decide +kernel
theorem dX9_init_63 : decode cX9_init 63 = .ok (.dup, 1) := by decide +kernel
theorem dX9_init_64 : decode cX9_init 64 = .ok (.invokespecial 42, 3) := by decide +kernel
theorem dX9_init_67 : decode cX9_init 67 = .ok (.putfield 43, 3) := by decide +kernel
theorem dX9_init_70 : decode cX9_init 70 = .ok (.aload_n 0, 1) := by decide +kernel
theorem dX9_init_71 : decode cX9_init 71 = .ok (.new 47, 3) := by decide +kernel
theorem dX9_init_74 : decode cX9_init 74 = .ok (.dup, 1) := by decide +kernel
theorem dX9_init_75 : decode cX9_init 75 = .ok (.invokespecial 49, 3) := by decide +kernel
theorem dX9_init_78 : decode cX9_init 78 = .ok (.putfield 50, 3) := by decide +kernel
theorem dX9_init_81 : decode cX9_init 81 = .ok (.aload_n 0, 1) := by decide +kernel
theorem dX9_init_82 : decode cX9_init 82 = .ok (.new 54, 3) := by decide +kernel
theorem dX9_init_85 : decode cX9_init 85 = .ok (.dup, 1) := by decide +kernel
theorem dX9_init_86 : decode cX9_init 86 = .ok (.invokespecial 56, 3) := by decide +kernel
theorem dX9_init_89 : decode cX9_init 89 = .ok (.putfield 57, 3) := by decide +kernel
theorem dX9_init_92 : decode cX9_init 92 = .ok (.return_, 1) := by decide +kernel
theorem dX9_letters_0 : decode cX9_letters 0 = .ok (.lload_n 1, 1) := by decide +kernel
theorem dX9_letters_1 : decode cX9_letters 1 = .ok (.invokestatic 61, 3) := by decide +kernel
theorem dX9_letters_4 : decode cX9_letters 4 = .ok (.istore_n 3, 1) := by decide +kernel
theorem dX9_letters_5 : decode cX9_letters 5 = .ok (.iload_n 3, 1) := by decide +kernel
theorem dX9_letters_6 : decode cX9_letters 6 = .ok (.iconst (-1), 1) := by decide +kernel
theorem dX9_letters_7 : decode cX9_letters 7 = .ok (.if_icmp .ne 6, 3) := by decide +kernel
theorem dX9_letters_10 : decode cX9_letters 10 = .ok (.bipush (-102), 2) := by decide +kernel
theorem dX9_letters_12 : decode cX9_letters 12 = .ok (.ireturn, 1) := by decide +kernel
theorem dX9_letters_13 : decode cX9_letters 13 = .ok (.aload_n 0, 1) := by decide +kernel
theorem dX9_letters_14 : decode cX9_letters 14 = .ok (.getfield 10, 3) := by decide +kernel
theorem dX9_letters_17 : decode cX9_letters 17 = .ok (.invokevirtual 65, 3) := by decide +kernel
theorem dX9_letters_20 : decode cX9_letters 20 = .ok (.iload_n 3, 1) := by decide +kernel
theorem dX9_letters_21 : decode cX9_letters 21 = .ok (.iadd, 1) := by decide +kernel
theorem dX9_letters_22 : decode cX9_letters 22 = .ok (.bipush 16, 2) := by decide +kernel
theorem dX9_letters_24 : decode cX9_letters 24 = .ok (.if_icmp .le 6, 3) := by decide +kernel
theorem dX9_letters_27 : decode cX9_letters 27 = .ok (.bipush (-104), 2) := by decide +kernel
theorem dX9_letters_29 : decode cX9_letters 29 = .ok (.ireturn, 1) := by decide +kernel
theorem dX9_letters_30 : decode cX9_letters 30 = .ok (.aload_n 0, 1) := by decide +kernel
theorem dX9_letters_31 : decode cX9_letters 31 = .ok (.getfield 10, 3) := by decide +kernel
theorem dX9_letters_34 : decode cX9_letters 34 = .ok (.lload_n 1, 1) := by decide +kernel
theorem dX9_letters_35 : decode cX9_letters 35 = .ok (.iload_n 3, 1) := by decide +kernel
theorem dX9_letters_36 : decode cX9_letters 36 = .ok (.invokevirtual 69, 3) := by decide +kernel
theorem dX9_letters_39 : decode cX9_letters 39 = .ok (.aload_n 0, 1) := by decide +kernel
theorem dX9_letters_40 : decode cX9_letters 40 = .ok (.getfield 10, 3) := by decide +kernel
theorem dX9_letters_43 : decode cX9_letters 43 = .ok (.invokevirtual 65, 3) := by decide +kernel
theorem dX9_letters_46 : decode cX9_letters 46 = .ok (.ireturn, 1) := by decide +kernel
theorem dX9_blank_0 : decode cX9_blank 0 = .ok (.aload_n 0, 1) := by decide +kernel
theorem dX9_blank_1 : decode cX9_blank 1 = .ok (.getfield 10, 3) := by decide +kernel
theorem dX9_blank_4 : decode cX9_blank 4 = .ok (.invokevirtual 65, 3) := by decide +kernel
theorem dX9_blank_7 : decode cX9_blank 7 = .ok (.istore_n 1, 1) := by decide +kernel
theorem dX9_blank_8 : decode cX9_blank 8 = .ok (.aload_n 0, 1) := by decide +kernel
theorem dX9_blank_9 : decode cX9_blank 9 = .ok (.getfield 10, 3) := by decide +kernel
theorem dX9_blank_12 : decode cX9_blank 12 = .ok (.invokevirtual 73, 3) := by decide +kernel
theorem dX9_blank_15 : decode cX9_blank 15 = .ok (.iload_n 1, 1) := by decide +kernel
theorem dX9_blank_16 : decode cX9_blank 16 = .ok (.ireturn, 1) := by decide +kernel
theorem dX9_fault_0 : decode cX9_fault 0 = .ok (.aload_n 0, 1) := by decide +kernel
theorem dX9_fault_1 : decode cX9_fault 1 = .ok (.getfield 10, 3) := by decide +kernel
theorem dX9_fault_4 : decode cX9_fault 4 = .ok (.invokevirtual 76, 3) := by decide +kernel
theorem dX9_fault_7 : decode cX9_fault 7 = .ok (.ireturn, 1) := by decide +kernel
theorem dX9_law_0 : decode cX9_law 0 = .ok (.aload_n 0, 1) := by decide +kernel
theorem dX9_law_1 : decode cX9_law 1 = .ok (.getfield 10, 3) := by decide +kernel
theorem dX9_law_4 : decode cX9_law 4 = .ok (.invokevirtual 79, 3) := by decide +kernel
theorem dX9_law_7 : decode cX9_law 7 = .ok (.ifCond .ne 6, 3) := by decide +kernel
theorem dX9_law_10 : decode cX9_law 10 = .ok (.bipush (-103), 2) := by decide +kernel
theorem dX9_law_12 : decode cX9_law 12 = .ok (.ireturn, 1) := by decide +kernel
theorem dX9_law_13 : decode cX9_law 13 = .ok (.aload_n 0, 1) := by decide +kernel
theorem dX9_law_14 : decode cX9_law 14 = .ok (.getfield 19, 3) := by decide +kernel
theorem dX9_law_17 : decode cX9_law 17 = .ok (.aload_n 0, 1) := by decide +kernel
theorem dX9_law_18 : decode cX9_law 18 = .ok (.getfield 10, 3) := by decide +kernel
theorem dX9_law_21 : decode cX9_law 21 = .ok (.invokevirtual 83, 3) := by decide +kernel
theorem dX9_law_24 : decode cX9_law 24 = .ok (.aload_n 0, 1) := by decide +kernel
theorem dX9_law_25 : decode cX9_law 25 = .ok (.getfield 10, 3) := by decide +kernel
theorem dX9_law_28 : decode cX9_law 28 = .ok (.invokevirtual 73, 3) := by decide +kernel
theorem dX9_law_31 : decode cX9_law 31 = .ok (.aload_n 0, 1) := by decide +kernel
theorem dX9_law_32 : decode cX9_law 32 = .ok (.dup, 1) := by decide +kernel
theorem dX9_law_33 : decode cX9_law 33 = .ok (.getfield 87, 3) := by decide +kernel
theorem dX9_law_36 : decode cX9_law 36 = .ok (.iconst 1, 1) := by decide +kernel
theorem dX9_law_37 : decode cX9_law 37 = .ok (.iadd, 1) := by decide +kernel
theorem dX9_law_38 : decode cX9_law 38 = .ok (.putfield 87, 3) := by decide +kernel
theorem dX9_law_41 : decode cX9_law 41 = .ok (.aload_n 0, 1) := by decide +kernel
theorem dX9_law_42 : decode cX9_law 42 = .ok (.getfield 87, 3) := by decide +kernel
theorem dX9_law_45 : decode cX9_law 45 = .ok (.ireturn, 1) := by decide +kernel
theorem dX9_lawTold_0 : decode cX9_lawTold 0 = .ok (.iload_n 1, 1) := by decide +kernel
theorem dX9_lawTold_1 : decode cX9_lawTold 1 = .ok (.iconst 0, 1) := by decide +kernel
theorem dX9_lawTold_2 : decode cX9_lawTold 2 = .ok (.iconst 3, 1) := by decide +kernel
theorem dX9_lawTold_3 : decode cX9_lawTold 3 = .ok (.invokestatic 91, 3) := by decide +kernel
theorem dX9_lawTold_6 : decode cX9_lawTold 6 = .ok (.ifCond .eq 14, 3) := by decide +kernel
theorem dX9_lawTold_9 : decode cX9_lawTold 9 = .ok (.aload_n 0, 1) := by decide +kernel
theorem dX9_lawTold_10 : decode cX9_lawTold 10 = .ok (.getfield 19, 3) := by decide +kernel
theorem dX9_lawTold_13 : decode cX9_lawTold 13 = .ok (.iload_n 1, 1) := by decide +kernel
theorem dX9_lawTold_14 : decode cX9_lawTold 14 = .ok (.invokevirtual 95, 3) := by decide +kernel
theorem dX9_lawTold_17 : decode cX9_lawTold 17 = .ok (.goto 5, 3) := by decide +kernel
theorem dX9_lawTold_20 : decode cX9_lawTold 20 = .ok (.bipush (-102), 2) := by decide +kernel
theorem dX9_lawTold_22 : decode cX9_lawTold 22 = .ok (.ireturn, 1) := by decide +kernel
theorem dX9_block_0 : decode cX9_block 0 = .ok (.iload_n 1, 1) := by decide +kernel
theorem dX9_block_1 : decode cX9_block 1 = .ok (.invokestatic 99, 3) := by decide +kernel
theorem dX9_block_4 : decode cX9_block 4 = .ok (.ifCond .eq 25, 3) := by decide +kernel
theorem dX9_block_7 : decode cX9_block 7 = .ok (.iload_n 2, 1) := by decide +kernel
theorem dX9_block_8 : decode cX9_block 8 = .ok (.iconst 0, 1) := by decide +kernel
theorem dX9_block_9 : decode cX9_block 9 = .ok (.sipush 999, 3) := by decide +kernel
theorem dX9_block_12 : decode cX9_block 12 = .ok (.invokestatic 91, 3) := by decide +kernel
theorem dX9_block_15 : decode cX9_block 15 = .ok (.ifCond .eq 14, 3) := by decide +kernel
theorem dX9_block_18 : decode cX9_block 18 = .ok (.iload_n 3, 1) := by decide +kernel
theorem dX9_block_19 : decode cX9_block 19 = .ok (.iconst 0, 1) := by decide +kernel
theorem dX9_block_20 : decode cX9_block 20 = .ok (.sipush 999, 3) := by decide +kernel
theorem dX9_block_23 : decode cX9_block 23 = .ok (.invokestatic 91, 3) := by decide +kernel
theorem dX9_block_26 : decode cX9_block 26 = .ok (.ifCond .ne 6, 3) := by decide +kernel
theorem dX9_block_29 : decode cX9_block 29 = .ok (.bipush (-102), 2) := by decide +kernel
theorem dX9_block_31 : decode cX9_block 31 = .ok (.ireturn, 1) := by decide +kernel
theorem dX9_block_32 : decode cX9_block 32 = .ok (.aload_n 0, 1) := by decide +kernel
theorem dX9_block_33 : decode cX9_block 33 = .ok (.getfield 26, 3) := by decide +kernel
theorem dX9_block_36 : decode cX9_block 36 = .ok (.iload_n 1, 1) := by decide +kernel
theorem dX9_block_37 : decode cX9_block 37 = .ok (.iload_n 2, 1) := by decide +kernel
theorem dX9_block_38 : decode cX9_block 38 = .ok (.iload_n 3, 1) := by decide +kernel
theorem dX9_block_39 : decode cX9_block 39 = .ok (.invokevirtual 103, 3) := by decide +kernel
theorem dX9_block_42 : decode cX9_block 42 = .ok (.ireturn, 1) := by decide +kernel
theorem dX9_about_0 : decode cX9_about 0 = .ok (.aload_n 0, 1) := by decide +kernel
theorem dX9_about_1 : decode cX9_about 1 = .ok (.getfield 26, 3) := by decide +kernel
theorem dX9_about_4 : decode cX9_about 4 = .ok (.iload_n 1, 1) := by decide +kernel
theorem dX9_about_5 : decode cX9_about 5 = .ok (.invokevirtual 107, 3) := by decide +kernel
theorem dX9_about_8 : decode cX9_about 8 = .ok (.ifCond .ne 6, 3) := by decide +kernel
theorem dX9_about_11 : decode cX9_about 11 = .ok (.bipush (-101), 2) := by decide +kernel
theorem dX9_about_13 : decode cX9_about 13 = .ok (.ireturn, 1) := by decide +kernel
theorem dX9_about_14 : decode cX9_about 14 = .ok (.iload_n 2, 1) := by decide +kernel
theorem dX9_about_15 : decode cX9_about 15 = .ok (.iconst 0, 1) := by decide +kernel
theorem dX9_about_16 : decode cX9_about 16 = .ok (.iconst 4, 1) := by decide +kernel
theorem dX9_about_17 : decode cX9_about 17 = .ok (.invokestatic 91, 3) := by decide +kernel
theorem dX9_about_20 : decode cX9_about 20 = .ok (.ifCond .eq 15, 3) := by decide +kernel
theorem dX9_about_23 : decode cX9_about 23 = .ok (.aload_n 0, 1) := by decide +kernel
theorem dX9_about_24 : decode cX9_about 24 = .ok (.getfield 26, 3) := by decide +kernel
theorem dX9_about_27 : decode cX9_about 27 = .ok (.iload_n 1, 1) := by decide +kernel
theorem dX9_about_28 : decode cX9_about 28 = .ok (.iload_n 2, 1) := by decide +kernel
theorem dX9_about_29 : decode cX9_about 29 = .ok (.invokevirtual 110, 3) := by decide +kernel
theorem dX9_about_32 : decode cX9_about 32 = .ok (.goto 5, 3) := by decide +kernel
theorem dX9_about_35 : decode cX9_about 35 = .ok (.bipush (-102), 2) := by decide +kernel
theorem dX9_about_37 : decode cX9_about 37 = .ok (.ireturn, 1) := by decide +kernel
theorem dX9_as_0 : decode cX9_as 0 = .ok (.aload_n 0, 1) := by decide +kernel
theorem dX9_as_1 : decode cX9_as 1 = .ok (.getfield 26, 3) := by decide +kernel
theorem dX9_as_4 : decode cX9_as 4 = .ok (.iload_n 1, 1) := by decide +kernel
theorem dX9_as_5 : decode cX9_as 5 = .ok (.invokevirtual 107, 3) := by decide +kernel
theorem dX9_as_8 : decode cX9_as 8 = .ok (.ifCond .ne 6, 3) := by decide +kernel
theorem dX9_as_11 : decode cX9_as 11 = .ok (.bipush (-101), 2) := by decide +kernel
theorem dX9_as_13 : decode cX9_as 13 = .ok (.ireturn, 1) := by decide +kernel
theorem dX9_as_14 : decode cX9_as 14 = .ok (.iload_n 2, 1) := by decide +kernel
theorem dX9_as_15 : decode cX9_as 15 = .ok (.invokestatic 99, 3) := by decide +kernel
theorem dX9_as_18 : decode cX9_as 18 = .ok (.ifCond .ne 6, 3) := by decide +kernel
theorem dX9_as_21 : decode cX9_as 21 = .ok (.bipush (-102), 2) := by decide +kernel
theorem dX9_as_23 : decode cX9_as 23 = .ok (.ireturn, 1) := by decide +kernel
theorem dX9_as_24 : decode cX9_as 24 = .ok (.aload_n 0, 1) := by decide +kernel
theorem dX9_as_25 : decode cX9_as 25 = .ok (.getfield 26, 3) := by decide +kernel
theorem dX9_as_28 : decode cX9_as 28 = .ok (.iload_n 1, 1) := by decide +kernel
theorem dX9_as_29 : decode cX9_as 29 = .ok (.invokevirtual 113, 3) := by decide +kernel
theorem dX9_as_32 : decode cX9_as 32 = .ok (.iload_n 2, 1) := by decide +kernel
theorem dX9_as_33 : decode cX9_as 33 = .ok (.invokestatic 116, 3) := by decide +kernel
theorem dX9_as_36 : decode cX9_as 36 = .ok (.ifCond .eq 7, 3) := by decide +kernel
theorem dX9_as_39 : decode cX9_as 39 = .ok (.iload_n 1, 1) := by decide +kernel
theorem dX9_as_40 : decode cX9_as 40 = .ok (.goto 4, 3) := by decide +kernel
theorem dX9_as_43 : decode cX9_as 43 = .ok (.iconst (-1), 1) := by decide +kernel
theorem dX9_as_44 : decode cX9_as 44 = .ok (.ireturn, 1) := by decide +kernel
theorem dX9_wheels_0 : decode cX9_wheels 0 = .ok (.iload_n 1, 1) := by decide +kernel
theorem dX9_wheels_1 : decode cX9_wheels 1 = .ok (.iconst 0, 1) := by decide +kernel
theorem dX9_wheels_2 : decode cX9_wheels 2 = .ok (.bipush 6, 2) := by decide +kernel
theorem dX9_wheels_4 : decode cX9_wheels 4 = .ok (.invokestatic 91, 3) := by decide +kernel
theorem dX9_wheels_7 : decode cX9_wheels 7 = .ok (.ifCond .ne 6, 3) := by decide +kernel
theorem dX9_wheels_10 : decode cX9_wheels 10 = .ok (.bipush (-101), 2) := by decide +kernel
theorem dX9_wheels_12 : decode cX9_wheels 12 = .ok (.ireturn, 1) := by decide +kernel
theorem dX9_wheels_13 : decode cX9_wheels 13 = .ok (.iload_n 2, 1) := by decide +kernel
theorem dX9_wheels_14 : decode cX9_wheels 14 = .ok (.iconst 0, 1) := by decide +kernel
theorem dX9_wheels_15 : decode cX9_wheels 15 = .ok (.bipush 9, 2) := by decide +kernel
theorem dX9_wheels_17 : decode cX9_wheels 17 = .ok (.invokestatic 91, 3) := by decide +kernel
theorem dX9_wheels_20 : decode cX9_wheels 20 = .ok (.ifCond .eq 15, 3) := by decide +kernel
theorem dX9_wheels_23 : decode cX9_wheels 23 = .ok (.aload_n 0, 1) := by decide +kernel
theorem dX9_wheels_24 : decode cX9_wheels 24 = .ok (.getfield 26, 3) := by decide +kernel
theorem dX9_wheels_27 : decode cX9_wheels 27 = .ok (.iload_n 1, 1) := by decide +kernel
theorem dX9_wheels_28 : decode cX9_wheels 28 = .ok (.iload_n 2, 1) := by decide +kernel
theorem dX9_wheels_29 : decode cX9_wheels 29 = .ok (.invokevirtual 120, 3) := by decide +kernel
theorem dX9_wheels_32 : decode cX9_wheels 32 = .ok (.goto 5, 3) := by decide +kernel
theorem dX9_wheels_35 : decode cX9_wheels 35 = .ok (.bipush (-102), 2) := by decide +kernel
theorem dX9_wheels_37 : decode cX9_wheels 37 = .ok (.ireturn, 1) := by decide +kernel
theorem dX9_at_0 : decode cX9_at 0 = .ok (.aload_n 0, 1) := by decide +kernel
theorem dX9_at_1 : decode cX9_at 1 = .ok (.getfield 26, 3) := by decide +kernel
theorem dX9_at_4 : decode cX9_at 4 = .ok (.iload_n 1, 1) := by decide +kernel
theorem dX9_at_5 : decode cX9_at 5 = .ok (.invokevirtual 107, 3) := by decide +kernel
theorem dX9_at_8 : decode cX9_at 8 = .ok (.ifCond .eq 14, 3) := by decide +kernel
theorem dX9_at_11 : decode cX9_at 11 = .ok (.aload_n 0, 1) := by decide +kernel
theorem dX9_at_12 : decode cX9_at 12 = .ok (.getfield 26, 3) := by decide +kernel
theorem dX9_at_15 : decode cX9_at 15 = .ok (.iload_n 1, 1) := by decide +kernel
theorem dX9_at_16 : decode cX9_at 16 = .ok (.invokevirtual 123, 3) := by decide +kernel
theorem dX9_at_19 : decode cX9_at 19 = .ok (.goto 5, 3) := by decide +kernel
theorem dX9_at_22 : decode cX9_at 22 = .ok (.bipush (-101), 2) := by decide +kernel
theorem dX9_at_24 : decode cX9_at 24 = .ok (.ireturn, 1) := by decide +kernel
theorem dX9_turn_0 : decode cX9_turn 0 = .ok (.aload_n 0, 1) := by decide +kernel
theorem dX9_turn_1 : decode cX9_turn 1 = .ok (.getfield 26, 3) := by decide +kernel
theorem dX9_turn_4 : decode cX9_turn 4 = .ok (.iload_n 1, 1) := by decide +kernel
theorem dX9_turn_5 : decode cX9_turn 5 = .ok (.invokevirtual 107, 3) := by decide +kernel
theorem dX9_turn_8 : decode cX9_turn 8 = .ok (.ifCond .ne 6, 3) := by decide +kernel
theorem dX9_turn_11 : decode cX9_turn 11 = .ok (.bipush (-101), 2) := by decide +kernel
theorem dX9_turn_13 : decode cX9_turn 13 = .ok (.ireturn, 1) := by decide +kernel
theorem dX9_turn_14 : decode cX9_turn 14 = .ok (.aload_n 0, 1) := by decide +kernel
theorem dX9_turn_15 : decode cX9_turn 15 = .ok (.getfield 26, 3) := by decide +kernel
theorem dX9_turn_18 : decode cX9_turn 18 = .ok (.iload_n 1, 1) := by decide +kernel
theorem dX9_turn_19 : decode cX9_turn 19 = .ok (.invokevirtual 113, 3) := by decide +kernel
theorem dX9_turn_22 : decode cX9_turn 22 = .ok (.iconst 4, 1) := by decide +kernel
theorem dX9_turn_23 : decode cX9_turn 23 = .ok (.if_icmp .ne 6, 3) := by decide +kernel
theorem dX9_turn_26 : decode cX9_turn 26 = .ok (.bipush (-103), 2) := by decide +kernel
theorem dX9_turn_28 : decode cX9_turn 28 = .ok (.ireturn, 1) := by decide +kernel
theorem dX9_turn_29 : decode cX9_turn 29 = .ok (.aload_n 0, 1) := by decide +kernel
theorem dX9_turn_30 : decode cX9_turn 30 = .ok (.getfield 26, 3) := by decide +kernel
theorem dX9_turn_33 : decode cX9_turn 33 = .ok (.iload_n 1, 1) := by decide +kernel
theorem dX9_turn_34 : decode cX9_turn 34 = .ok (.invokevirtual 126, 3) := by decide +kernel
theorem dX9_turn_37 : decode cX9_turn 37 = .ok (.aload_n 0, 1) := by decide +kernel
theorem dX9_turn_38 : decode cX9_turn 38 = .ok (.getfield 26, 3) := by decide +kernel
theorem dX9_turn_41 : decode cX9_turn 41 = .ok (.iload_n 1, 1) := by decide +kernel
theorem dX9_turn_42 : decode cX9_turn 42 = .ok (.invokevirtual 130, 3) := by decide +kernel
theorem dX9_turn_45 : decode cX9_turn 45 = .ok (.ireturn, 1) := by decide +kernel
theorem dX9_thief_0 : decode cX9_thief 0 = .ok (.aload_n 0, 1) := by decide +kernel
theorem dX9_thief_1 : decode cX9_thief 1 = .ok (.getfield 26, 3) := by decide +kernel
theorem dX9_thief_4 : decode cX9_thief 4 = .ok (.iload_n 1, 1) := by decide +kernel
theorem dX9_thief_5 : decode cX9_thief 5 = .ok (.invokevirtual 107, 3) := by decide +kernel
theorem dX9_thief_8 : decode cX9_thief 8 = .ok (.ifCond .ne 6, 3) := by decide +kernel
theorem dX9_thief_11 : decode cX9_thief 11 = .ok (.bipush (-101), 2) := by decide +kernel
theorem dX9_thief_13 : decode cX9_thief 13 = .ok (.ireturn, 1) := by decide +kernel
theorem dX9_thief_14 : decode cX9_thief 14 = .ok (.aload_n 0, 1) := by decide +kernel
theorem dX9_thief_15 : decode cX9_thief 15 = .ok (.getfield 26, 3) := by decide +kernel
theorem dX9_thief_18 : decode cX9_thief 18 = .ok (.invokevirtual 133, 3) := by decide +kernel
theorem dX9_thief_21 : decode cX9_thief 21 = .ok (.iconst 2, 1) := by decide +kernel
theorem dX9_thief_22 : decode cX9_thief 22 = .ok (.if_icmp .gt 6, 3) := by decide +kernel
theorem dX9_thief_25 : decode cX9_thief 25 = .ok (.bipush (-103), 2) := by decide +kernel
theorem dX9_thief_27 : decode cX9_thief 27 = .ok (.ireturn, 1) := by decide +kernel
theorem dX9_thief_28 : decode cX9_thief 28 = .ok (.aload_n 0, 1) := by decide +kernel
theorem dX9_thief_29 : decode cX9_thief 29 = .ok (.getfield 26, 3) := by decide +kernel
theorem dX9_thief_32 : decode cX9_thief 32 = .ok (.iload_n 1, 1) := by decide +kernel
theorem dX9_thief_33 : decode cX9_thief 33 = .ok (.invokevirtual 136, 3) := by decide +kernel
theorem dX9_thief_36 : decode cX9_thief 36 = .ok (.aload_n 0, 1) := by decide +kernel
theorem dX9_thief_37 : decode cX9_thief 37 = .ok (.getfield 26, 3) := by decide +kernel
theorem dX9_thief_40 : decode cX9_thief 40 = .ok (.invokevirtual 133, 3) := by decide +kernel
theorem dX9_thief_43 : decode cX9_thief 43 = .ok (.ireturn, 1) := by decide +kernel
theorem dX9_lay_0 : decode cX9_lay 0 = .ok (.aload_n 0, 1) := by decide +kernel
theorem dX9_lay_1 : decode cX9_lay 1 = .ok (.invokevirtual 139, 3) := by decide +kernel
theorem dX9_lay_4 : decode cX9_lay 4 = .ok (.ifCond .eq 6, 3) := by decide +kernel
theorem dX9_lay_7 : decode cX9_lay 7 = .ok (.bipush (-103), 2) := by decide +kernel
theorem dX9_lay_9 : decode cX9_lay 9 = .ok (.ireturn, 1) := by decide +kernel
theorem dX9_lay_10 : decode cX9_lay 10 = .ok (.aload_n 0, 1) := by decide +kernel
theorem dX9_lay_11 : decode cX9_lay 11 = .ok (.getfield 36, 3) := by decide +kernel
theorem dX9_lay_14 : decode cX9_lay 14 = .ok (.iload_n 1, 1) := by decide +kernel
theorem dX9_lay_15 : decode cX9_lay 15 = .ok (.aload_n 0, 1) := by decide +kernel
theorem dX9_lay_16 : decode cX9_lay 16 = .ok (.getfield 26, 3) := by decide +kernel
theorem dX9_lay_19 : decode cX9_lay 19 = .ok (.invokevirtual 133, 3) := by decide +kernel
theorem dX9_lay_22 : decode cX9_lay 22 = .ok (.invokevirtual 142, 3) := by decide +kernel
theorem dX9_lay_25 : decode cX9_lay 25 = .ok (.ifCond .ne 6, 3) := by decide +kernel
theorem dX9_lay_28 : decode cX9_lay 28 = .ok (.bipush (-102), 2) := by decide +kernel
theorem dX9_lay_30 : decode cX9_lay 30 = .ok (.ireturn, 1) := by decide +kernel
theorem dX9_lay_31 : decode cX9_lay 31 = .ok (.aload_n 0, 1) := by decide +kernel
theorem dX9_lay_32 : decode cX9_lay 32 = .ok (.getfield 19, 3) := by decide +kernel
theorem dX9_lay_35 : decode cX9_lay 35 = .ok (.aload_n 0, 1) := by decide +kernel
theorem dX9_lay_36 : decode cX9_lay 36 = .ok (.getfield 26, 3) := by decide +kernel
theorem dX9_lay_39 : decode cX9_lay 39 = .ok (.aload_n 0, 1) := by decide +kernel
theorem dX9_lay_40 : decode cX9_lay 40 = .ok (.getfield 36, 3) := by decide +kernel
theorem dX9_lay_43 : decode cX9_lay 43 = .ok (.invokevirtual 145, 3) := by decide +kernel
theorem dX9_lay_46 : decode cX9_lay 46 = .ok (.ifCond .ne 6, 3) := by decide +kernel
theorem dX9_lay_49 : decode cX9_lay 49 = .ok (.bipush (-103), 2) := by decide +kernel
theorem dX9_lay_51 : decode cX9_lay 51 = .ok (.ireturn, 1) := by decide +kernel
theorem dX9_lay_52 : decode cX9_lay 52 = .ok (.aload_n 0, 1) := by decide +kernel
theorem dX9_lay_53 : decode cX9_lay 53 = .ok (.getfield 26, 3) := by decide +kernel
theorem dX9_lay_56 : decode cX9_lay 56 = .ok (.aload_n 0, 1) := by decide +kernel
theorem dX9_lay_57 : decode cX9_lay 57 = .ok (.getfield 36, 3) := by decide +kernel
theorem dX9_lay_60 : decode cX9_lay 60 = .ok (.aload_n 0, 1) := by decide +kernel
theorem dX9_lay_61 : decode cX9_lay 61 = .ok (.getfield 19, 3) := by decide +kernel
theorem dX9_lay_64 : decode cX9_lay 64 = .ok (.invokevirtual 149, 3) := by decide +kernel
theorem dX9_lay_67 : decode cX9_lay 67 = .ok (.invokevirtual 152, 3) := by decide +kernel
theorem dX9_lay_70 : decode cX9_lay 70 = .ok (.aload_n 0, 1) := by decide +kernel
theorem dX9_lay_71 : decode cX9_lay 71 = .ok (.getfield 26, 3) := by decide +kernel
theorem dX9_lay_74 : decode cX9_lay 74 = .ok (.invokevirtual 156, 3) := by decide +kernel
theorem dX9_lay_77 : decode cX9_lay 77 = .ok (.ireturn, 1) := by decide +kernel
theorem dX9_lawful_0 : decode cX9_lawful 0 = .ok (.aload_n 0, 1) := by decide +kernel
theorem dX9_lawful_1 : decode cX9_lawful 1 = .ok (.invokevirtual 139, 3) := by decide +kernel
theorem dX9_lawful_4 : decode cX9_lawful 4 = .ok (.ifCond .eq 6, 3) := by decide +kernel
theorem dX9_lawful_7 : decode cX9_lawful 7 = .ok (.bipush (-103), 2) := by decide +kernel
theorem dX9_lawful_9 : decode cX9_lawful 9 = .ok (.ireturn, 1) := by decide +kernel
theorem dX9_lawful_10 : decode cX9_lawful 10 = .ok (.aload_n 0, 1) := by decide +kernel
theorem dX9_lawful_11 : decode cX9_lawful 11 = .ok (.getfield 36, 3) := by decide +kernel
theorem dX9_lawful_14 : decode cX9_lawful 14 = .ok (.iload_n 1, 1) := by decide +kernel
theorem dX9_lawful_15 : decode cX9_lawful 15 = .ok (.aload_n 0, 1) := by decide +kernel
theorem dX9_lawful_16 : decode cX9_lawful 16 = .ok (.getfield 26, 3) := by decide +kernel
theorem dX9_lawful_19 : decode cX9_lawful 19 = .ok (.invokevirtual 133, 3) := by decide +kernel
theorem dX9_lawful_22 : decode cX9_lawful 22 = .ok (.invokevirtual 142, 3) := by decide +kernel
theorem dX9_lawful_25 : decode cX9_lawful 25 = .ok (.ifCond .ne 6, 3) := by decide +kernel
theorem dX9_lawful_28 : decode cX9_lawful 28 = .ok (.bipush (-102), 2) := by decide +kernel
theorem dX9_lawful_30 : decode cX9_lawful 30 = .ok (.ireturn, 1) := by decide +kernel
theorem dX9_lawful_31 : decode cX9_lawful 31 = .ok (.aload_n 0, 1) := by decide +kernel
theorem dX9_lawful_32 : decode cX9_lawful 32 = .ok (.getfield 19, 3) := by decide +kernel
theorem dX9_lawful_35 : decode cX9_lawful 35 = .ok (.aload_n 0, 1) := by decide +kernel
theorem dX9_lawful_36 : decode cX9_lawful 36 = .ok (.getfield 26, 3) := by decide +kernel
theorem dX9_lawful_39 : decode cX9_lawful 39 = .ok (.aload_n 0, 1) := by decide +kernel
theorem dX9_lawful_40 : decode cX9_lawful 40 = .ok (.getfield 36, 3) := by decide +kernel
theorem dX9_lawful_43 : decode cX9_lawful 43 = .ok (.invokevirtual 145, 3) := by decide +kernel
theorem dX9_lawful_46 : decode cX9_lawful 46 = .ok (.ifCond .eq 7, 3) := by decide +kernel
theorem dX9_lawful_49 : decode cX9_lawful 49 = .ok (.iconst 1, 1) := by decide +kernel
theorem dX9_lawful_50 : decode cX9_lawful 50 = .ok (.goto 4, 3) := by decide +kernel
theorem dX9_lawful_53 : decode cX9_lawful 53 = .ok (.iconst 0, 1) := by decide +kernel
theorem dX9_lawful_54 : decode cX9_lawful 54 = .ok (.ireturn, 1) := by decide +kernel
theorem dX9_years_0 : decode cX9_years 0 = .ok (.aload_n 0, 1) := by decide +kernel
theorem dX9_years_1 : decode cX9_years 1 = .ok (.invokevirtual 139, 3) := by decide +kernel
theorem dX9_years_4 : decode cX9_years 4 = .ok (.ifCond .eq 6, 3) := by decide +kernel
theorem dX9_years_7 : decode cX9_years 7 = .ok (.bipush (-103), 2) := by decide +kernel
theorem dX9_years_9 : decode cX9_years 9 = .ok (.ireturn, 1) := by decide +kernel
theorem dX9_years_10 : decode cX9_years 10 = .ok (.iload_n 1, 1) := by decide +kernel
theorem dX9_years_11 : decode cX9_years 11 = .ok (.iconst 1, 1) := by decide +kernel
theorem dX9_years_12 : decode cX9_years 12 = .ok (.bipush 99, 2) := by decide +kernel
theorem dX9_years_14 : decode cX9_years 14 = .ok (.invokestatic 91, 3) := by decide +kernel
theorem dX9_years_17 : decode cX9_years 17 = .ok (.ifCond .ne 6, 3) := by decide +kernel
theorem dX9_years_20 : decode cX9_years 20 = .ok (.bipush (-102), 2) := by decide +kernel
theorem dX9_years_22 : decode cX9_years 22 = .ok (.ireturn, 1) := by decide +kernel
theorem dX9_years_23 : decode cX9_years 23 = .ok (.iconst 0, 1) := by decide +kernel
theorem dX9_years_24 : decode cX9_years 24 = .ok (.istore_n 2, 1) := by decide +kernel
theorem dX9_years_25 : decode cX9_years 25 = .ok (.iload_n 2, 1) := by decide +kernel
theorem dX9_years_26 : decode cX9_years 26 = .ok (.iload_n 1, 1) := by decide +kernel
theorem dX9_years_27 : decode cX9_years 27 = .ok (.if_icmp .ge 16, 3) := by decide +kernel
theorem dX9_years_30 : decode cX9_years 30 = .ok (.aload_n 0, 1) := by decide +kernel
theorem dX9_years_31 : decode cX9_years 31 = .ok (.getfield 26, 3) := by decide +kernel
theorem dX9_years_34 : decode cX9_years 34 = .ok (.invokevirtual 159, 3) := by decide +kernel
theorem dX9_years_37 : decode cX9_years 37 = .ok (.iinc 2 1, 3) := by decide +kernel
theorem dX9_years_40 : decode cX9_years 40 = .ok (.goto (-15), 3) := by decide +kernel
theorem dX9_years_43 : decode cX9_years 43 = .ok (.aload_n 0, 1) := by decide +kernel
theorem dX9_years_44 : decode cX9_years 44 = .ok (.getfield 26, 3) := by decide +kernel
theorem dX9_years_47 : decode cX9_years 47 = .ok (.invokevirtual 156, 3) := by decide +kernel
theorem dX9_years_50 : decode cX9_years 50 = .ok (.ireturn, 1) := by decide +kernel
theorem dX9_worst_0 : decode cX9_worst 0 = .ok (.aload_n 0, 1) := by decide +kernel
theorem dX9_worst_1 : decode cX9_worst 1 = .ok (.invokevirtual 139, 3) := by decide +kernel
theorem dX9_worst_4 : decode cX9_worst 4 = .ok (.ifCond .eq 8, 3) := by decide +kernel
theorem dX9_worst_7 : decode cX9_worst 7 = .ok (.bipush (-103), 2) := by decide +kernel
theorem dX9_worst_9 : decode cX9_worst 9 = .ok (.goto 10, 3) := by decide +kernel
theorem dX9_worst_12 : decode cX9_worst 12 = .ok (.aload_n 0, 1) := by decide +kernel
theorem dX9_worst_13 : decode cX9_worst 13 = .ok (.getfield 26, 3) := by decide +kernel
theorem dX9_worst_16 : decode cX9_worst 16 = .ok (.invokevirtual 156, 3) := by decide +kernel
theorem dX9_worst_19 : decode cX9_worst 19 = .ok (.ireturn, 1) := by decide +kernel
theorem dX9_best_0 : decode cX9_best 0 = .ok (.aload_n 0, 1) := by decide +kernel
theorem dX9_best_1 : decode cX9_best 1 = .ok (.invokevirtual 139, 3) := by decide +kernel
theorem dX9_best_4 : decode cX9_best 4 = .ok (.ifCond .eq 6, 3) := by decide +kernel
theorem dX9_best_7 : decode cX9_best 7 = .ok (.bipush (-103), 2) := by decide +kernel
theorem dX9_best_9 : decode cX9_best 9 = .ok (.ireturn, 1) := by decide +kernel
theorem dX9_best_10 : decode cX9_best 10 = .ok (.iload_n 1, 1) := by decide +kernel
theorem dX9_best_11 : decode cX9_best 11 = .ok (.iconst 0, 1) := by decide +kernel
theorem dX9_best_12 : decode cX9_best 12 = .ok (.iconst 1, 1) := by decide +kernel
theorem dX9_best_13 : decode cX9_best 13 = .ok (.invokestatic 91, 3) := by decide +kernel
theorem dX9_best_16 : decode cX9_best 16 = .ok (.ifCond .ne 6, 3) := by decide +kernel
theorem dX9_best_19 : decode cX9_best 19 = .ok (.bipush (-102), 2) := by decide +kernel
theorem dX9_best_21 : decode cX9_best 21 = .ok (.ireturn, 1) := by decide +kernel
theorem dX9_best_22 : decode cX9_best 22 = .ok (.aload_n 0, 1) := by decide +kernel
theorem dX9_best_23 : decode cX9_best 23 = .ok (.getfield 162, 3) := by decide +kernel
theorem dX9_best_26 : decode cX9_best 26 = .ok (.bipush 40, 2) := by decide +kernel
theorem dX9_best_28 : decode cX9_best 28 = .ok (.if_icmp .lt 6, 3) := by decide +kernel
theorem dX9_best_31 : decode cX9_best 31 = .ok (.bipush (-103), 2) := by decide +kernel
theorem dX9_best_33 : decode cX9_best 33 = .ok (.ireturn, 1) := by decide +kernel
theorem dX9_best_34 : decode cX9_best 34 = .ok (.aload_n 0, 1) := by decide +kernel
theorem dX9_best_35 : decode cX9_best 35 = .ok (.dup, 1) := by decide +kernel
theorem dX9_best_36 : decode cX9_best 36 = .ok (.getfield 162, 3) := by decide +kernel
theorem dX9_best_39 : decode cX9_best 39 = .ok (.iconst 1, 1) := by decide +kernel
theorem dX9_best_40 : decode cX9_best 40 = .ok (.iadd, 1) := by decide +kernel
theorem dX9_best_41 : decode cX9_best 41 = .ok (.putfield 162, 3) := by decide +kernel
theorem dX9_best_44 : decode cX9_best 44 = .ok (.aload_n 0, 1) := by decide +kernel
theorem dX9_best_45 : decode cX9_best 45 = .ok (.getfield 43, 3) := by decide +kernel
theorem dX9_best_48 : decode cX9_best 48 = .ok (.aload_n 0, 1) := by decide +kernel
theorem dX9_best_49 : decode cX9_best 49 = .ok (.getfield 26, 3) := by decide +kernel
theorem dX9_best_52 : decode cX9_best 52 = .ok (.aload_n 0, 1) := by decide +kernel
theorem dX9_best_53 : decode cX9_best 53 = .ok (.getfield 19, 3) := by decide +kernel
theorem dX9_best_56 : decode cX9_best 56 = .ok (.invokevirtual 165, 3) := by decide +kernel
theorem dX9_best_59 : decode cX9_best 59 = .ok (.aload_n 0, 1) := by decide +kernel
theorem dX9_best_60 : decode cX9_best 60 = .ok (.getfield 43, 3) := by decide +kernel
theorem dX9_best_63 : decode cX9_best 63 = .ok (.invokevirtual 169, 3) := by decide +kernel
theorem dX9_best_66 : decode cX9_best 66 = .ok (.ifCond .ne 5, 3) := by decide +kernel
theorem dX9_best_69 : decode cX9_best 69 = .ok (.iconst (-1), 1) := by decide +kernel
theorem dX9_best_70 : decode cX9_best 70 = .ok (.ireturn, 1) := by decide +kernel
theorem dX9_best_71 : decode cX9_best 71 = .ok (.iload_n 1, 1) := by decide +kernel
theorem dX9_best_72 : decode cX9_best 72 = .ok (.ifCond .ne 13, 3) := by decide +kernel
theorem dX9_best_75 : decode cX9_best 75 = .ok (.aload_n 0, 1) := by decide +kernel
theorem dX9_best_76 : decode cX9_best 76 = .ok (.getfield 43, 3) := by decide +kernel
theorem dX9_best_79 : decode cX9_best 79 = .ok (.invokevirtual 172, 3) := by decide +kernel
theorem dX9_best_82 : decode cX9_best 82 = .ok (.goto 13, 3) := by decide +kernel
theorem dX9_best_85 : decode cX9_best 85 = .ok (.aload_n 0, 1) := by decide +kernel
theorem dX9_best_86 : decode cX9_best 86 = .ok (.getfield 43, 3) := by decide +kernel
theorem dX9_best_89 : decode cX9_best 89 = .ok (.invokevirtual 175, 3) := by decide +kernel
theorem dX9_best_92 : decode cX9_best 92 = .ok (.invokevirtual 179, 3) := by decide +kernel
theorem dX9_best_95 : decode cX9_best 95 = .ok (.ireturn, 1) := by decide +kernel
theorem dX9_howMany_0 : decode cX9_howMany 0 = .ok (.aload_n 0, 1) := by decide +kernel
theorem dX9_howMany_1 : decode cX9_howMany 1 = .ok (.invokevirtual 139, 3) := by decide +kernel
theorem dX9_howMany_4 : decode cX9_howMany 4 = .ok (.ifCond .ne 12, 3) := by decide +kernel
theorem dX9_howMany_7 : decode cX9_howMany 7 = .ok (.aload_n 0, 1) := by decide +kernel
theorem dX9_howMany_8 : decode cX9_howMany 8 = .ok (.getfield 162, 3) := by decide +kernel
theorem dX9_howMany_11 : decode cX9_howMany 11 = .ok (.bipush 40, 2) := by decide +kernel
theorem dX9_howMany_13 : decode cX9_howMany 13 = .ok (.if_icmp .lt 6, 3) := by decide +kernel
theorem dX9_howMany_16 : decode cX9_howMany 16 = .ok (.bipush (-103), 2) := by decide +kernel
theorem dX9_howMany_18 : decode cX9_howMany 18 = .ok (.ireturn, 1) := by decide +kernel
theorem dX9_howMany_19 : decode cX9_howMany 19 = .ok (.aload_n 0, 1) := by decide +kernel
theorem dX9_howMany_20 : decode cX9_howMany 20 = .ok (.dup, 1) := by decide +kernel
theorem dX9_howMany_21 : decode cX9_howMany 21 = .ok (.getfield 162, 3) := by decide +kernel
theorem dX9_howMany_24 : decode cX9_howMany 24 = .ok (.iconst 1, 1) := by decide +kernel
theorem dX9_howMany_25 : decode cX9_howMany 25 = .ok (.iadd, 1) := by decide +kernel
theorem dX9_howMany_26 : decode cX9_howMany 26 = .ok (.putfield 162, 3) := by decide +kernel
theorem dX9_howMany_29 : decode cX9_howMany 29 = .ok (.aload_n 0, 1) := by decide +kernel
theorem dX9_howMany_30 : decode cX9_howMany 30 = .ok (.getfield 43, 3) := by decide +kernel
theorem dX9_howMany_33 : decode cX9_howMany 33 = .ok (.aload_n 0, 1) := by decide +kernel
theorem dX9_howMany_34 : decode cX9_howMany 34 = .ok (.getfield 26, 3) := by decide +kernel
theorem dX9_howMany_37 : decode cX9_howMany 37 = .ok (.aload_n 0, 1) := by decide +kernel
theorem dX9_howMany_38 : decode cX9_howMany 38 = .ok (.getfield 19, 3) := by decide +kernel
theorem dX9_howMany_41 : decode cX9_howMany 41 = .ok (.invokevirtual 165, 3) := by decide +kernel
theorem dX9_howMany_44 : decode cX9_howMany 44 = .ok (.aload_n 0, 1) := by decide +kernel
theorem dX9_howMany_45 : decode cX9_howMany 45 = .ok (.getfield 43, 3) := by decide +kernel
theorem dX9_howMany_48 : decode cX9_howMany 48 = .ok (.invokevirtual 169, 3) := by decide +kernel
theorem dX9_howMany_51 : decode cX9_howMany 51 = .ok (.ireturn, 1) := by decide +kernel
theorem dX9_carried_0 : decode cX9_carried 0 = .ok (.aload_n 0, 1) := by decide +kernel
theorem dX9_carried_1 : decode cX9_carried 1 = .ok (.invokevirtual 139, 3) := by decide +kernel
theorem dX9_carried_4 : decode cX9_carried 4 = .ok (.ifCond .eq 6, 3) := by decide +kernel
theorem dX9_carried_7 : decode cX9_carried 7 = .ok (.bipush (-103), 2) := by decide +kernel
theorem dX9_carried_9 : decode cX9_carried 9 = .ok (.ireturn, 1) := by decide +kernel
theorem dX9_carried_10 : decode cX9_carried 10 = .ok (.aload_n 0, 1) := by decide +kernel
theorem dX9_carried_11 : decode cX9_carried 11 = .ok (.getfield 36, 3) := by decide +kernel
theorem dX9_carried_14 : decode cX9_carried 14 = .ok (.iload_n 1, 1) := by decide +kernel
theorem dX9_carried_15 : decode cX9_carried 15 = .ok (.aload_n 0, 1) := by decide +kernel
theorem dX9_carried_16 : decode cX9_carried 16 = .ok (.getfield 26, 3) := by decide +kernel
theorem dX9_carried_19 : decode cX9_carried 19 = .ok (.invokevirtual 133, 3) := by decide +kernel
theorem dX9_carried_22 : decode cX9_carried 22 = .ok (.invokevirtual 142, 3) := by decide +kernel
theorem dX9_carried_25 : decode cX9_carried 25 = .ok (.ifCond .eq 12, 3) := by decide +kernel
theorem dX9_carried_28 : decode cX9_carried 28 = .ok (.iload_n 2, 1) := by decide +kernel
theorem dX9_carried_29 : decode cX9_carried 29 = .ok (.iconst 0, 1) := by decide +kernel
theorem dX9_carried_30 : decode cX9_carried 30 = .ok (.iconst 2, 1) := by decide +kernel
theorem dX9_carried_31 : decode cX9_carried 31 = .ok (.invokestatic 91, 3) := by decide +kernel
theorem dX9_carried_34 : decode cX9_carried 34 = .ok (.ifCond .ne 6, 3) := by decide +kernel
theorem dX9_carried_37 : decode cX9_carried 37 = .ok (.bipush (-102), 2) := by decide +kernel
theorem dX9_carried_39 : decode cX9_carried 39 = .ok (.ireturn, 1) := by decide +kernel
theorem dX9_carried_40 : decode cX9_carried 40 = .ok (.aload_n 0, 1) := by decide +kernel
theorem dX9_carried_41 : decode cX9_carried 41 = .ok (.getfield 26, 3) := by decide +kernel
theorem dX9_carried_44 : decode cX9_carried 44 = .ok (.aload_n 0, 1) := by decide +kernel
theorem dX9_carried_45 : decode cX9_carried 45 = .ok (.getfield 36, 3) := by decide +kernel
theorem dX9_carried_48 : decode cX9_carried 48 = .ok (.iload_n 2, 1) := by decide +kernel
theorem dX9_carried_49 : decode cX9_carried 49 = .ok (.invokestatic 181, 3) := by decide +kernel
theorem dX9_carried_52 : decode cX9_carried 52 = .ok (.ireturn, 1) := by decide +kernel
theorem dX9_flood_0 : decode cX9_flood 0 = .ok (.aload_n 0, 1) := by decide +kernel
theorem dX9_flood_1 : decode cX9_flood 1 = .ok (.invokevirtual 139, 3) := by decide +kernel
theorem dX9_flood_4 : decode cX9_flood 4 = .ok (.ifCond .eq 6, 3) := by decide +kernel
theorem dX9_flood_7 : decode cX9_flood 7 = .ok (.bipush (-103), 2) := by decide +kernel
theorem dX9_flood_9 : decode cX9_flood 9 = .ok (.ireturn, 1) := by decide +kernel
theorem dX9_flood_10 : decode cX9_flood 10 = .ok (.iload_n 1, 1) := by decide +kernel
theorem dX9_flood_11 : decode cX9_flood 11 = .ok (.ifCond .ge 8, 3) := by decide +kernel
theorem dX9_flood_14 : decode cX9_flood 14 = .ok (.bipush (-102), 2) := by decide +kernel
theorem dX9_flood_16 : decode cX9_flood 16 = .ok (.goto 11, 3) := by decide +kernel
theorem dX9_flood_19 : decode cX9_flood 19 = .ok (.aload_n 0, 1) := by decide +kernel
theorem dX9_flood_20 : decode cX9_flood 20 = .ok (.getfield 26, 3) := by decide +kernel
theorem dX9_flood_23 : decode cX9_flood 23 = .ok (.iload_n 1, 1) := by decide +kernel
theorem dX9_flood_24 : decode cX9_flood 24 = .ok (.invokestatic 186, 3) := by decide +kernel
theorem dX9_flood_27 : decode cX9_flood 27 = .ok (.ireturn, 1) := by decide +kernel
theorem dX9_looks_0 : decode cX9_looks 0 = .ok (.aload_n 0, 1) := by decide +kernel
theorem dX9_looks_1 : decode cX9_looks 1 = .ok (.invokevirtual 139, 3) := by decide +kernel
theorem dX9_looks_4 : decode cX9_looks 4 = .ok (.ifCond .eq 8, 3) := by decide +kernel
theorem dX9_looks_7 : decode cX9_looks 7 = .ok (.bipush (-103), 2) := by decide +kernel
theorem dX9_looks_9 : decode cX9_looks 9 = .ok (.goto 10, 3) := by decide +kernel
theorem dX9_looks_12 : decode cX9_looks 12 = .ok (.aload_n 0, 1) := by decide +kernel
theorem dX9_looks_13 : decode cX9_looks 13 = .ok (.getfield 26, 3) := by decide +kernel
theorem dX9_looks_16 : decode cX9_looks 16 = .ok (.invokevirtual 192, 3) := by decide +kernel
theorem dX9_looks_19 : decode cX9_looks 19 = .ok (.ireturn, 1) := by decide +kernel
theorem dX9_was_0 : decode cX9_was 0 = .ok (.aload_n 0, 1) := by decide +kernel
theorem dX9_was_1 : decode cX9_was 1 = .ok (.getfield 26, 3) := by decide +kernel
theorem dX9_was_4 : decode cX9_was 4 = .ok (.iload_n 1, 1) := by decide +kernel
theorem dX9_was_5 : decode cX9_was 5 = .ok (.invokevirtual 107, 3) := by decide +kernel
theorem dX9_was_8 : decode cX9_was 8 = .ok (.ifCond .ne 6, 3) := by decide +kernel
theorem dX9_was_11 : decode cX9_was 11 = .ok (.bipush (-101), 2) := by decide +kernel
theorem dX9_was_13 : decode cX9_was 13 = .ok (.ireturn, 1) := by decide +kernel
theorem dX9_was_14 : decode cX9_was 14 = .ok (.iload_n 2, 1) := by decide +kernel
theorem dX9_was_15 : decode cX9_was 15 = .ok (.iconst (-1), 1) := by decide +kernel
theorem dX9_was_16 : decode cX9_was 16 = .ok (.sipush 999, 3) := by decide +kernel
theorem dX9_was_19 : decode cX9_was 19 = .ok (.invokestatic 91, 3) := by decide +kernel
theorem dX9_was_22 : decode cX9_was 22 = .ok (.ifCond .eq 15, 3) := by decide +kernel
theorem dX9_was_25 : decode cX9_was 25 = .ok (.aload_n 0, 1) := by decide +kernel
theorem dX9_was_26 : decode cX9_was 26 = .ok (.getfield 26, 3) := by decide +kernel
theorem dX9_was_29 : decode cX9_was 29 = .ok (.iload_n 1, 1) := by decide +kernel
theorem dX9_was_30 : decode cX9_was 30 = .ok (.iload_n 2, 1) := by decide +kernel
theorem dX9_was_31 : decode cX9_was 31 = .ok (.invokevirtual 195, 3) := by decide +kernel
theorem dX9_was_34 : decode cX9_was 34 = .ok (.goto 5, 3) := by decide +kernel
theorem dX9_was_37 : decode cX9_was 37 = .ok (.bipush (-102), 2) := by decide +kernel
theorem dX9_was_39 : decode cX9_was 39 = .ok (.ireturn, 1) := by decide +kernel
theorem dX9_last_0 : decode cX9_last 0 = .ok (.aload_n 0, 1) := by decide +kernel
theorem dX9_last_1 : decode cX9_last 1 = .ok (.invokevirtual 139, 3) := by decide +kernel
theorem dX9_last_4 : decode cX9_last 4 = .ok (.ifCond .eq 6, 3) := by decide +kernel
theorem dX9_last_7 : decode cX9_last 7 = .ok (.bipush (-103), 2) := by decide +kernel
theorem dX9_last_9 : decode cX9_last 9 = .ok (.ireturn, 1) := by decide +kernel
theorem dX9_last_10 : decode cX9_last 10 = .ok (.iload_n 1, 1) := by decide +kernel
theorem dX9_last_11 : decode cX9_last 11 = .ok (.iconst 0, 1) := by decide +kernel
theorem dX9_last_12 : decode cX9_last 12 = .ok (.iconst 1, 1) := by decide +kernel
theorem dX9_last_13 : decode cX9_last 13 = .ok (.invokestatic 91, 3) := by decide +kernel
theorem dX9_last_16 : decode cX9_last 16 = .ok (.ifCond .ne 6, 3) := by decide +kernel
theorem dX9_last_19 : decode cX9_last 19 = .ok (.bipush (-102), 2) := by decide +kernel
theorem dX9_last_21 : decode cX9_last 21 = .ok (.ireturn, 1) := by decide +kernel
theorem dX9_last_22 : decode cX9_last 22 = .ok (.aload_n 0, 1) := by decide +kernel
theorem dX9_last_23 : decode cX9_last 23 = .ok (.getfield 198, 3) := by decide +kernel
theorem dX9_last_26 : decode cX9_last 26 = .ok (.bipush 40, 2) := by decide +kernel
theorem dX9_last_28 : decode cX9_last 28 = .ok (.if_icmp .lt 6, 3) := by decide +kernel
theorem dX9_last_31 : decode cX9_last 31 = .ok (.bipush (-103), 2) := by decide +kernel
theorem dX9_last_33 : decode cX9_last 33 = .ok (.ireturn, 1) := by decide +kernel
theorem dX9_last_34 : decode cX9_last 34 = .ok (.aload_n 0, 1) := by decide +kernel
theorem dX9_last_35 : decode cX9_last 35 = .ok (.dup, 1) := by decide +kernel
theorem dX9_last_36 : decode cX9_last 36 = .ok (.getfield 198, 3) := by decide +kernel
theorem dX9_last_39 : decode cX9_last 39 = .ok (.iconst 1, 1) := by decide +kernel
theorem dX9_last_40 : decode cX9_last 40 = .ok (.iadd, 1) := by decide +kernel
theorem dX9_last_41 : decode cX9_last 41 = .ok (.putfield 198, 3) := by decide +kernel
theorem dX9_last_44 : decode cX9_last 44 = .ok (.aload_n 0, 1) := by decide +kernel
theorem dX9_last_45 : decode cX9_last 45 = .ok (.getfield 50, 3) := by decide +kernel
theorem dX9_last_48 : decode cX9_last 48 = .ok (.aload_n 0, 1) := by decide +kernel
theorem dX9_last_49 : decode cX9_last 49 = .ok (.getfield 26, 3) := by decide +kernel
theorem dX9_last_52 : decode cX9_last 52 = .ok (.invokevirtual 201, 3) := by decide +kernel
theorem dX9_last_55 : decode cX9_last 55 = .ok (.iload_n 1, 1) := by decide +kernel
theorem dX9_last_56 : decode cX9_last 56 = .ok (.ifCond .ne 11, 3) := by decide +kernel
theorem dX9_last_59 : decode cX9_last 59 = .ok (.aload_n 0, 1) := by decide +kernel
theorem dX9_last_60 : decode cX9_last 60 = .ok (.getfield 50, 3) := by decide +kernel
theorem dX9_last_63 : decode cX9_last 63 = .ok (.invokevirtual 204, 3) := by decide +kernel
theorem dX9_last_66 : decode cX9_last 66 = .ok (.ireturn, 1) := by decide +kernel
theorem dX9_last_67 : decode cX9_last 67 = .ok (.aload_n 0, 1) := by decide +kernel
theorem dX9_last_68 : decode cX9_last 68 = .ok (.getfield 50, 3) := by decide +kernel
theorem dX9_last_71 : decode cX9_last 71 = .ok (.invokevirtual 204, 3) := by decide +kernel
theorem dX9_last_74 : decode cX9_last 74 = .ok (.ifCond .ne 7, 3) := by decide +kernel
theorem dX9_last_77 : decode cX9_last 77 = .ok (.iconst (-1), 1) := by decide +kernel
theorem dX9_last_78 : decode cX9_last 78 = .ok (.goto 13, 3) := by decide +kernel
theorem dX9_last_81 : decode cX9_last 81 = .ok (.aload_n 0, 1) := by decide +kernel
theorem dX9_last_82 : decode cX9_last 82 = .ok (.getfield 50, 3) := by decide +kernel
theorem dX9_last_85 : decode cX9_last 85 = .ok (.invokevirtual 205, 3) := by decide +kernel
theorem dX9_last_88 : decode cX9_last 88 = .ok (.invokevirtual 179, 3) := by decide +kernel
theorem dX9_last_91 : decode cX9_last 91 = .ok (.ireturn, 1) := by decide +kernel
theorem dX9_sure_0 : decode cX9_sure 0 = .ok (.aload_n 0, 1) := by decide +kernel
theorem dX9_sure_1 : decode cX9_sure 1 = .ok (.getfield 26, 3) := by decide +kernel
theorem dX9_sure_4 : decode cX9_sure 4 = .ok (.iload_n 1, 1) := by decide +kernel
theorem dX9_sure_5 : decode cX9_sure 5 = .ok (.invokevirtual 107, 3) := by decide +kernel
theorem dX9_sure_8 : decode cX9_sure 8 = .ok (.ifCond .ne 6, 3) := by decide +kernel
theorem dX9_sure_11 : decode cX9_sure 11 = .ok (.bipush (-101), 2) := by decide +kernel
theorem dX9_sure_13 : decode cX9_sure 13 = .ok (.ireturn, 1) := by decide +kernel
theorem dX9_sure_14 : decode cX9_sure 14 = .ok (.aload_n 0, 1) := by decide +kernel
theorem dX9_sure_15 : decode cX9_sure 15 = .ok (.invokevirtual 139, 3) := by decide +kernel
theorem dX9_sure_18 : decode cX9_sure 18 = .ok (.ifCond .ne 12, 3) := by decide +kernel
theorem dX9_sure_21 : decode cX9_sure 21 = .ok (.aload_n 0, 1) := by decide +kernel
theorem dX9_sure_22 : decode cX9_sure 22 = .ok (.getfield 198, 3) := by decide +kernel
theorem dX9_sure_25 : decode cX9_sure 25 = .ok (.bipush 40, 2) := by decide +kernel
theorem dX9_sure_27 : decode cX9_sure 27 = .ok (.if_icmp .lt 6, 3) := by decide +kernel
theorem dX9_sure_30 : decode cX9_sure 30 = .ok (.bipush (-103), 2) := by decide +kernel
theorem dX9_sure_32 : decode cX9_sure 32 = .ok (.ireturn, 1) := by decide +kernel
theorem dX9_sure_33 : decode cX9_sure 33 = .ok (.aload_n 0, 1) := by decide +kernel
theorem dX9_sure_34 : decode cX9_sure 34 = .ok (.dup, 1) := by decide +kernel
theorem dX9_sure_35 : decode cX9_sure 35 = .ok (.getfield 198, 3) := by decide +kernel
theorem dX9_sure_38 : decode cX9_sure 38 = .ok (.iconst 1, 1) := by decide +kernel
theorem dX9_sure_39 : decode cX9_sure 39 = .ok (.iadd, 1) := by decide +kernel
theorem dX9_sure_40 : decode cX9_sure 40 = .ok (.putfield 198, 3) := by decide +kernel
theorem dX9_sure_43 : decode cX9_sure 43 = .ok (.aload_n 0, 1) := by decide +kernel
theorem dX9_sure_44 : decode cX9_sure 44 = .ok (.getfield 50, 3) := by decide +kernel
theorem dX9_sure_47 : decode cX9_sure 47 = .ok (.aload_n 0, 1) := by decide +kernel
theorem dX9_sure_48 : decode cX9_sure 48 = .ok (.getfield 26, 3) := by decide +kernel
theorem dX9_sure_51 : decode cX9_sure 51 = .ok (.invokevirtual 201, 3) := by decide +kernel
theorem dX9_sure_54 : decode cX9_sure 54 = .ok (.aload_n 0, 1) := by decide +kernel
theorem dX9_sure_55 : decode cX9_sure 55 = .ok (.getfield 50, 3) := by decide +kernel
theorem dX9_sure_58 : decode cX9_sure 58 = .ok (.iload_n 1, 1) := by decide +kernel
theorem dX9_sure_59 : decode cX9_sure 59 = .ok (.invokevirtual 208, 3) := by decide +kernel
theorem dX9_sure_62 : decode cX9_sure 62 = .ok (.ireturn, 1) := by decide +kernel
theorem dX9_springs_0 : decode cX9_springs 0 = .ok (.aload_n 0, 1) := by decide +kernel
theorem dX9_springs_1 : decode cX9_springs 1 = .ok (.invokevirtual 139, 3) := by decide +kernel
theorem dX9_springs_4 : decode cX9_springs 4 = .ok (.ifCond .eq 6, 3) := by decide +kernel
theorem dX9_springs_7 : decode cX9_springs 7 = .ok (.bipush (-103), 2) := by decide +kernel
theorem dX9_springs_9 : decode cX9_springs 9 = .ok (.ireturn, 1) := by decide +kernel
theorem dX9_springs_10 : decode cX9_springs 10 = .ok (.iload_n 1, 1) := by decide +kernel
theorem dX9_springs_11 : decode cX9_springs 11 = .ok (.iconst 1, 1) := by decide +kernel
theorem dX9_springs_12 : decode cX9_springs 12 = .ok (.bipush 12, 2) := by decide +kernel
theorem dX9_springs_14 : decode cX9_springs 14 = .ok (.invokestatic 91, 3) := by decide +kernel
theorem dX9_springs_17 : decode cX9_springs 17 = .ok (.ifCond .eq 12, 3) := by decide +kernel
theorem dX9_springs_20 : decode cX9_springs 20 = .ok (.iload_n 2, 1) := by decide +kernel
theorem dX9_springs_21 : decode cX9_springs 21 = .ok (.iconst 0, 1) := by decide +kernel
theorem dX9_springs_22 : decode cX9_springs 22 = .ok (.iconst 2, 1) := by decide +kernel
theorem dX9_springs_23 : decode cX9_springs 23 = .ok (.invokestatic 91, 3) := by decide +kernel
theorem dX9_springs_26 : decode cX9_springs 26 = .ok (.ifCond .ne 6, 3) := by decide +kernel
theorem dX9_springs_29 : decode cX9_springs 29 = .ok (.bipush (-102), 2) := by decide +kernel
theorem dX9_springs_31 : decode cX9_springs 31 = .ok (.ireturn, 1) := by decide +kernel
theorem dX9_springs_32 : decode cX9_springs 32 = .ok (.aload_n 0, 1) := by decide +kernel
theorem dX9_springs_33 : decode cX9_springs 33 = .ok (.getfield 211, 3) := by decide +kernel
theorem dX9_springs_36 : decode cX9_springs 36 = .ok (.bipush 10, 2) := by decide +kernel
theorem dX9_springs_38 : decode cX9_springs 38 = .ok (.if_icmp .lt 6, 3) := by decide +kernel
theorem dX9_springs_41 : decode cX9_springs 41 = .ok (.bipush (-103), 2) := by decide +kernel
theorem dX9_springs_43 : decode cX9_springs 43 = .ok (.ireturn, 1) := by decide +kernel
theorem dX9_springs_44 : decode cX9_springs 44 = .ok (.aload_n 0, 1) := by decide +kernel
theorem dX9_springs_45 : decode cX9_springs 45 = .ok (.dup, 1) := by decide +kernel
theorem dX9_springs_46 : decode cX9_springs 46 = .ok (.getfield 211, 3) := by decide +kernel
theorem dX9_springs_49 : decode cX9_springs 49 = .ok (.iconst 1, 1) := by decide +kernel
theorem dX9_springs_50 : decode cX9_springs 50 = .ok (.iadd, 1) := by decide +kernel
theorem dX9_springs_51 : decode cX9_springs 51 = .ok (.putfield 211, 3) := by decide +kernel
theorem dX9_springs_54 : decode cX9_springs 54 = .ok (.aload_n 0, 1) := by decide +kernel
theorem dX9_springs_55 : decode cX9_springs 55 = .ok (.getfield 57, 3) := by decide +kernel
theorem dX9_springs_58 : decode cX9_springs 58 = .ok (.aload_n 0, 1) := by decide +kernel
theorem dX9_springs_59 : decode cX9_springs 59 = .ok (.getfield 26, 3) := by decide +kernel
theorem dX9_springs_62 : decode cX9_springs 62 = .ok (.aload_n 0, 1) := by decide +kernel
theorem dX9_springs_63 : decode cX9_springs 63 = .ok (.getfield 19, 3) := by decide +kernel
theorem dX9_springs_66 : decode cX9_springs 66 = .ok (.aload_n 0, 1) := by decide +kernel
theorem dX9_springs_67 : decode cX9_springs 67 = .ok (.getfield 43, 3) := by decide +kernel
theorem dX9_springs_70 : decode cX9_springs 70 = .ok (.iload_n 1, 1) := by decide +kernel
theorem dX9_springs_71 : decode cX9_springs 71 = .ok (.invokevirtual 214, 3) := by decide +kernel
theorem dX9_springs_74 : decode cX9_springs 74 = .ok (.aload_n 0, 1) := by decide +kernel
theorem dX9_springs_75 : decode cX9_springs 75 = .ok (.getfield 57, 3) := by decide +kernel
theorem dX9_springs_78 : decode cX9_springs 78 = .ok (.iload_n 2, 1) := by decide +kernel
theorem dX9_springs_79 : decode cX9_springs 79 = .ok (.invokevirtual 218, 3) := by decide +kernel
theorem dX9_springs_82 : decode cX9_springs 82 = .ok (.ireturn, 1) := by decide +kernel
theorem dX9_image_0 : decode cX9_image 0 = .ok (.aload_n 0, 1) := by decide +kernel
theorem dX9_image_1 : decode cX9_image 1 = .ok (.getfield 30, 3) := by decide +kernel
theorem dX9_image_4 : decode cX9_image 4 = .ok (.aload_n 0, 1) := by decide +kernel
theorem dX9_image_5 : decode cX9_image 5 = .ok (.getfield 26, 3) := by decide +kernel
theorem dX9_image_8 : decode cX9_image 8 = .ok (.invokevirtual 219, 3) := by decide +kernel
theorem dX9_image_11 : decode cX9_image 11 = .ok (.aload_n 0, 1) := by decide +kernel
theorem dX9_image_12 : decode cX9_image 12 = .ok (.iconst 1, 1) := by decide +kernel
theorem dX9_image_13 : decode cX9_image 13 = .ok (.putfield 222, 3) := by decide +kernel
theorem dX9_image_16 : decode cX9_image 16 = .ok (.aload_n 0, 1) := by decide +kernel
theorem dX9_image_17 : decode cX9_image 17 = .ok (.getfield 26, 3) := by decide +kernel
theorem dX9_image_20 : decode cX9_image 20 = .ok (.invokevirtual 133, 3) := by decide +kernel
theorem dX9_image_23 : decode cX9_image 23 = .ok (.ireturn, 1) := by decide +kernel
theorem dX9_restore_0 : decode cX9_restore 0 = .ok (.aload_n 0, 1) := by decide +kernel
theorem dX9_restore_1 : decode cX9_restore 1 = .ok (.getfield 222, 3) := by decide +kernel
theorem dX9_restore_4 : decode cX9_restore 4 = .ok (.ifCond .ne 6, 3) := by decide +kernel
theorem dX9_restore_7 : decode cX9_restore 7 = .ok (.bipush (-103), 2) := by decide +kernel
theorem dX9_restore_9 : decode cX9_restore 9 = .ok (.ireturn, 1) := by decide +kernel
theorem dX9_restore_10 : decode cX9_restore 10 = .ok (.aload_n 0, 1) := by decide +kernel
theorem dX9_restore_11 : decode cX9_restore 11 = .ok (.getfield 26, 3) := by decide +kernel
theorem dX9_restore_14 : decode cX9_restore 14 = .ok (.aload_n 0, 1) := by decide +kernel
theorem dX9_restore_15 : decode cX9_restore 15 = .ok (.getfield 30, 3) := by decide +kernel
theorem dX9_restore_18 : decode cX9_restore 18 = .ok (.invokevirtual 219, 3) := by decide +kernel
theorem dX9_restore_21 : decode cX9_restore 21 = .ok (.aload_n 0, 1) := by decide +kernel
theorem dX9_restore_22 : decode cX9_restore 22 = .ok (.getfield 26, 3) := by decide +kernel
theorem dX9_restore_25 : decode cX9_restore 25 = .ok (.invokevirtual 133, 3) := by decide +kernel
theorem dX9_restore_28 : decode cX9_restore 28 = .ok (.ireturn, 1) := by decide +kernel
theorem dX9_count_0 : decode cX9_count 0 = .ok (.iload_n 1, 1) := by decide +kernel
theorem dX9_count_1 : decode cX9_count 1 = .ok (.tableswitch 87 0 6 #[43, 51, 59, 64, 69, 74, 79], 43) := by decide +kernel
theorem dX9_count_44 : decode cX9_count 44 = .ok (.aload_n 0, 1) := by decide +kernel
theorem dX9_count_45 : decode cX9_count 45 = .ok (.getfield 26, 3) := by decide +kernel
theorem dX9_count_48 : decode cX9_count 48 = .ok (.invokevirtual 133, 3) := by decide +kernel
theorem dX9_count_51 : decode cX9_count 51 = .ok (.ireturn, 1) := by decide +kernel
theorem dX9_count_52 : decode cX9_count 52 = .ok (.aload_n 0, 1) := by decide +kernel
theorem dX9_count_53 : decode cX9_count 53 = .ok (.getfield 10, 3) := by decide +kernel
theorem dX9_count_56 : decode cX9_count 56 = .ok (.invokevirtual 65, 3) := by decide +kernel
theorem dX9_count_59 : decode cX9_count 59 = .ok (.ireturn, 1) := by decide +kernel
theorem dX9_count_60 : decode cX9_count 60 = .ok (.aload_n 0, 1) := by decide +kernel
theorem dX9_count_61 : decode cX9_count 61 = .ok (.getfield 87, 3) := by decide +kernel
theorem dX9_count_64 : decode cX9_count 64 = .ok (.ireturn, 1) := by decide +kernel
theorem dX9_count_65 : decode cX9_count 65 = .ok (.aload_n 0, 1) := by decide +kernel
theorem dX9_count_66 : decode cX9_count 66 = .ok (.getfield 162, 3) := by decide +kernel
theorem dX9_count_69 : decode cX9_count 69 = .ok (.ireturn, 1) := by decide +kernel
theorem dX9_count_70 : decode cX9_count 70 = .ok (.aload_n 0, 1) := by decide +kernel
theorem dX9_count_71 : decode cX9_count 71 = .ok (.getfield 198, 3) := by decide +kernel
theorem dX9_count_74 : decode cX9_count 74 = .ok (.ireturn, 1) := by decide +kernel
theorem dX9_count_75 : decode cX9_count 75 = .ok (.aload_n 0, 1) := by decide +kernel
theorem dX9_count_76 : decode cX9_count 76 = .ok (.getfield 211, 3) := by decide +kernel
theorem dX9_count_79 : decode cX9_count 79 = .ok (.ireturn, 1) := by decide +kernel
theorem dX9_count_80 : decode cX9_count 80 = .ok (.aload_n 0, 1) := by decide +kernel
theorem dX9_count_81 : decode cX9_count 81 = .ok (.getfield 26, 3) := by decide +kernel
theorem dX9_count_84 : decode cX9_count 84 = .ok (.invokevirtual 226, 3) := by decide +kernel
theorem dX9_count_87 : decode cX9_count 87 = .ok (.ireturn, 1) := by decide +kernel
theorem dX9_count_88 : decode cX9_count 88 = .ok (.bipush (-102), 2) := by decide +kernel
theorem dX9_count_90 : decode cX9_count 90 = .ok (.ireturn, 1) := by decide +kernel
theorem dX9_digest_0 : decode cX9_digest 0 = .ok (.ldc2_w 229, 3) := by decide +kernel
theorem dX9_digest_3 : decode cX9_digest 3 = .ok (.lstore_n 1, 1) := by decide +kernel
theorem dX9_digest_4 : decode cX9_digest 4 = .ok (.iconst 0, 1) := by decide +kernel
theorem dX9_digest_5 : decode cX9_digest 5 = .ok (.istore_n 3, 1) := by decide +kernel
theorem dX9_digest_6 : decode cX9_digest 6 = .ok (.iload_n 3, 1) := by decide +kernel
theorem dX9_digest_7 : decode cX9_digest 7 = .ok (.iconst 3, 1) := by decide +kernel
theorem dX9_digest_8 : decode cX9_digest 8 = .ok (.if_icmp .gt 23, 3) := by decide +kernel
theorem dX9_digest_11 : decode cX9_digest 11 = .ok (.lload_n 1, 1) := by decide +kernel
theorem dX9_digest_12 : decode cX9_digest 12 = .ok (.aload_n 0, 1) := by decide +kernel
theorem dX9_digest_13 : decode cX9_digest 13 = .ok (.getfield 19, 3) := by decide +kernel
theorem dX9_digest_16 : decode cX9_digest 16 = .ok (.iload_n 3, 1) := by decide +kernel
theorem dX9_digest_17 : decode cX9_digest 17 = .ok (.invokevirtual 95, 3) := by decide +kernel
theorem dX9_digest_20 : decode cX9_digest 20 = .ok (.i2l, 1) := by decide +kernel
theorem dX9_digest_21 : decode cX9_digest 21 = .ok (.invokestatic 231, 3) := by decide +kernel
theorem dX9_digest_24 : decode cX9_digest 24 = .ok (.lstore_n 1, 1) := by decide +kernel
theorem dX9_digest_25 : decode cX9_digest 25 = .ok (.iinc 3 1, 3) := by decide +kernel
theorem dX9_digest_28 : decode cX9_digest 28 = .ok (.goto (-22), 3) := by decide +kernel
theorem dX9_digest_31 : decode cX9_digest 31 = .ok (.aload_n 0, 1) := by decide +kernel
theorem dX9_digest_32 : decode cX9_digest 32 = .ok (.lload_n 1, 1) := by decide +kernel
theorem dX9_digest_33 : decode cX9_digest 33 = .ok (.invokevirtual 235, 3) := by decide +kernel
theorem dX9_digest_36 : decode cX9_digest 36 = .ok (.lstore_n 1, 1) := by decide +kernel
theorem dX9_digest_37 : decode cX9_digest 37 = .ok (.iconst 0, 1) := by decide +kernel
theorem dX9_digest_38 : decode cX9_digest 38 = .ok (.istore_n 3, 1) := by decide +kernel
theorem dX9_digest_39 : decode cX9_digest 39 = .ok (.iload_n 3, 1) := by decide +kernel
theorem dX9_digest_40 : decode cX9_digest 40 = .ok (.bipush 7, 2) := by decide +kernel
theorem dX9_digest_42 : decode cX9_digest 42 = .ok (.if_icmp .ge 23, 3) := by decide +kernel
theorem dX9_digest_45 : decode cX9_digest 45 = .ok (.lload_n 1, 1) := by decide +kernel
theorem dX9_digest_46 : decode cX9_digest 46 = .ok (.aload_n 0, 1) := by decide +kernel
theorem dX9_digest_47 : decode cX9_digest 47 = .ok (.getfield 26, 3) := by decide +kernel
theorem dX9_digest_50 : decode cX9_digest 50 = .ok (.iload_n 3, 1) := by decide +kernel
theorem dX9_digest_51 : decode cX9_digest 51 = .ok (.invokevirtual 239, 3) := by decide +kernel
theorem dX9_digest_54 : decode cX9_digest 54 = .ok (.i2l, 1) := by decide +kernel
theorem dX9_digest_55 : decode cX9_digest 55 = .ok (.invokestatic 231, 3) := by decide +kernel
theorem dX9_digest_58 : decode cX9_digest 58 = .ok (.lstore_n 1, 1) := by decide +kernel
theorem dX9_digest_59 : decode cX9_digest 59 = .ok (.iinc 3 1, 3) := by decide +kernel
theorem dX9_digest_62 : decode cX9_digest 62 = .ok (.goto (-23), 3) := by decide +kernel
theorem dX9_digest_65 : decode cX9_digest 65 = .ok (.aload_n 0, 1) := by decide +kernel
theorem dX9_digest_66 : decode cX9_digest 66 = .ok (.invokevirtual 139, 3) := by decide +kernel
theorem dX9_digest_69 : decode cX9_digest 69 = .ok (.ifCond .ne 9, 3) := by decide +kernel
theorem dX9_digest_72 : decode cX9_digest 72 = .ok (.aload_n 0, 1) := by decide +kernel
theorem dX9_digest_73 : decode cX9_digest 73 = .ok (.lload_n 1, 1) := by decide +kernel
theorem dX9_digest_74 : decode cX9_digest 74 = .ok (.invokevirtual 242, 3) := by decide +kernel
theorem dX9_digest_77 : decode cX9_digest 77 = .ok (.lstore_n 1, 1) := by decide +kernel
theorem dX9_digest_78 : decode cX9_digest 78 = .ok (.iconst 0, 1) := by decide +kernel
theorem dX9_digest_79 : decode cX9_digest 79 = .ok (.istore_n 3, 1) := by decide +kernel
theorem dX9_digest_80 : decode cX9_digest 80 = .ok (.iload_n 3, 1) := by decide +kernel
theorem dX9_digest_81 : decode cX9_digest 81 = .ok (.aload_n 0, 1) := by decide +kernel
theorem dX9_digest_82 : decode cX9_digest 82 = .ok (.getfield 10, 3) := by decide +kernel
theorem dX9_digest_85 : decode cX9_digest 85 = .ok (.invokevirtual 65, 3) := by decide +kernel
theorem dX9_digest_88 : decode cX9_digest 88 = .ok (.if_icmp .ge 23, 3) := by decide +kernel
theorem dX9_digest_91 : decode cX9_digest 91 = .ok (.lload_n 1, 1) := by decide +kernel
theorem dX9_digest_92 : decode cX9_digest 92 = .ok (.aload_n 0, 1) := by decide +kernel
theorem dX9_digest_93 : decode cX9_digest 93 = .ok (.getfield 10, 3) := by decide +kernel
theorem dX9_digest_96 : decode cX9_digest 96 = .ok (.iload_n 3, 1) := by decide +kernel
theorem dX9_digest_97 : decode cX9_digest 97 = .ok (.invokevirtual 245, 3) := by decide +kernel
theorem dX9_digest_100 : decode cX9_digest 100 = .ok (.i2l, 1) := by decide +kernel
theorem dX9_digest_101 : decode cX9_digest 101 = .ok (.invokestatic 231, 3) := by decide +kernel
theorem dX9_digest_104 : decode cX9_digest 104 = .ok (.lstore_n 1, 1) := by decide +kernel
theorem dX9_digest_105 : decode cX9_digest 105 = .ok (.iinc 3 1, 3) := by decide +kernel
theorem dX9_digest_108 : decode cX9_digest 108 = .ok (.goto (-28), 3) := by decide +kernel
theorem dX9_digest_111 : decode cX9_digest 111 = .ok (.iconst 0, 1) := by decide +kernel
theorem dX9_digest_112 : decode cX9_digest 112 = .ok (.istore_n 3, 1) := by decide +kernel
theorem dX9_digest_113 : decode cX9_digest 113 = .ok (.iload_n 3, 1) := by decide +kernel
theorem dX9_digest_114 : decode cX9_digest 114 = .ok (.bipush 6, 2) := by decide +kernel
theorem dX9_digest_116 : decode cX9_digest 116 = .ok (.if_icmp .gt 20, 3) := by decide +kernel
theorem dX9_digest_119 : decode cX9_digest 119 = .ok (.lload_n 1, 1) := by decide +kernel
theorem dX9_digest_120 : decode cX9_digest 120 = .ok (.aload_n 0, 1) := by decide +kernel
theorem dX9_digest_121 : decode cX9_digest 121 = .ok (.iload_n 3, 1) := by decide +kernel
theorem dX9_digest_122 : decode cX9_digest 122 = .ok (.invokevirtual 248, 3) := by decide +kernel
theorem dX9_digest_125 : decode cX9_digest 125 = .ok (.i2l, 1) := by decide +kernel
theorem dX9_digest_126 : decode cX9_digest 126 = .ok (.invokestatic 231, 3) := by decide +kernel
theorem dX9_digest_129 : decode cX9_digest 129 = .ok (.lstore_n 1, 1) := by decide +kernel
theorem dX9_digest_130 : decode cX9_digest 130 = .ok (.iinc 3 1, 3) := by decide +kernel
theorem dX9_digest_133 : decode cX9_digest 133 = .ok (.goto (-20), 3) := by decide +kernel
theorem dX9_digest_136 : decode cX9_digest 136 = .ok (.lload_n 1, 1) := by decide +kernel
theorem dX9_digest_137 : decode cX9_digest 137 = .ok (.lreturn, 1) := by decide +kernel
theorem dX9_mixBlocks_0 : decode cX9_mixBlocks 0 = .ok (.lload_n 1, 1) := by decide +kernel
theorem dX9_mixBlocks_1 : decode cX9_mixBlocks 1 = .ok (.lstore_n 3, 1) := by decide +kernel
theorem dX9_mixBlocks_2 : decode cX9_mixBlocks 2 = .ok (.iconst 0, 1) := by decide +kernel
theorem dX9_mixBlocks_3 : decode cX9_mixBlocks 3 = .ok (.istore 5, 2) := by decide +kernel
theorem dX9_mixBlocks_5 : decode cX9_mixBlocks 5 = .ok (.iload 5, 2) := by decide +kernel
theorem dX9_mixBlocks_7 : decode cX9_mixBlocks 7 = .ok (.aload_n 0, 1) := by decide +kernel
theorem dX9_mixBlocks_8 : decode cX9_mixBlocks 8 = .ok (.getfield 26, 3) := by decide +kernel
theorem dX9_mixBlocks_11 : decode cX9_mixBlocks 11 = .ok (.invokevirtual 133, 3) := by decide +kernel
theorem dX9_mixBlocks_14 : decode cX9_mixBlocks 14 = .ok (.if_icmp .ge 41, 3) := by decide +kernel
theorem dX9_mixBlocks_17 : decode cX9_mixBlocks 17 = .ok (.iconst 0, 1) := by decide +kernel
theorem dX9_mixBlocks_18 : decode cX9_mixBlocks 18 = .ok (.istore 6, 2) := by decide +kernel
theorem dX9_mixBlocks_20 : decode cX9_mixBlocks 20 = .ok (.iload 6, 2) := by decide +kernel
theorem dX9_mixBlocks_22 : decode cX9_mixBlocks 22 = .ok (.iconst 4, 1) := by decide +kernel
theorem dX9_mixBlocks_23 : decode cX9_mixBlocks 23 = .ok (.if_icmp .gt 26, 3) := by decide +kernel
theorem dX9_mixBlocks_26 : decode cX9_mixBlocks 26 = .ok (.lload_n 3, 1) := by decide +kernel
theorem dX9_mixBlocks_27 : decode cX9_mixBlocks 27 = .ok (.aload_n 0, 1) := by decide +kernel
theorem dX9_mixBlocks_28 : decode cX9_mixBlocks 28 = .ok (.getfield 26, 3) := by decide +kernel
theorem dX9_mixBlocks_31 : decode cX9_mixBlocks 31 = .ok (.iload 5, 2) := by decide +kernel
theorem dX9_mixBlocks_33 : decode cX9_mixBlocks 33 = .ok (.iload 6, 2) := by decide +kernel
theorem dX9_mixBlocks_35 : decode cX9_mixBlocks 35 = .ok (.invokevirtual 110, 3) := by decide +kernel
theorem dX9_mixBlocks_38 : decode cX9_mixBlocks 38 = .ok (.i2l, 1) := by decide +kernel
theorem dX9_mixBlocks_39 : decode cX9_mixBlocks 39 = .ok (.invokestatic 231, 3) := by decide +kernel
theorem dX9_mixBlocks_42 : decode cX9_mixBlocks 42 = .ok (.lstore_n 3, 1) := by decide +kernel
theorem dX9_mixBlocks_43 : decode cX9_mixBlocks 43 = .ok (.iinc 6 1, 3) := by decide +kernel
theorem dX9_mixBlocks_46 : decode cX9_mixBlocks 46 = .ok (.goto (-26), 3) := by decide +kernel
theorem dX9_mixBlocks_49 : decode cX9_mixBlocks 49 = .ok (.iinc 5 1, 3) := by decide +kernel
theorem dX9_mixBlocks_52 : decode cX9_mixBlocks 52 = .ok (.goto (-47), 3) := by decide +kernel
theorem dX9_mixBlocks_55 : decode cX9_mixBlocks 55 = .ok (.lload_n 3, 1) := by decide +kernel
theorem dX9_mixBlocks_56 : decode cX9_mixBlocks 56 = .ok (.lreturn, 1) := by decide +kernel
theorem dX9_mixLaying_0 : decode cX9_mixLaying 0 = .ok (.lload_n 1, 1) := by decide +kernel
theorem dX9_mixLaying_1 : decode cX9_mixLaying 1 = .ok (.aload_n 0, 1) := by decide +kernel
theorem dX9_mixLaying_2 : decode cX9_mixLaying 2 = .ok (.getfield 26, 3) := by decide +kernel
theorem dX9_mixLaying_5 : decode cX9_mixLaying 5 = .ok (.invokevirtual 156, 3) := by decide +kernel
theorem dX9_mixLaying_8 : decode cX9_mixLaying 8 = .ok (.i2l, 1) := by decide +kernel
theorem dX9_mixLaying_9 : decode cX9_mixLaying 9 = .ok (.invokestatic 231, 3) := by decide +kernel
theorem dX9_mixLaying_12 : decode cX9_mixLaying 12 = .ok (.lstore_n 3, 1) := by decide +kernel
theorem dX9_mixLaying_13 : decode cX9_mixLaying 13 = .ok (.lload_n 3, 1) := by decide +kernel
theorem dX9_mixLaying_14 : decode cX9_mixLaying 14 = .ok (.aload_n 0, 1) := by decide +kernel
theorem dX9_mixLaying_15 : decode cX9_mixLaying 15 = .ok (.getfield 26, 3) := by decide +kernel
theorem dX9_mixLaying_18 : decode cX9_mixLaying 18 = .ok (.invokevirtual 192, 3) := by decide +kernel
theorem dX9_mixLaying_21 : decode cX9_mixLaying 21 = .ok (.i2l, 1) := by decide +kernel
theorem dX9_mixLaying_22 : decode cX9_mixLaying 22 = .ok (.invokestatic 231, 3) := by decide +kernel
theorem dX9_mixLaying_25 : decode cX9_mixLaying 25 = .ok (.lstore_n 3, 1) := by decide +kernel
theorem dX9_mixLaying_26 : decode cX9_mixLaying 26 = .ok (.aload_n 0, 1) := by decide +kernel
theorem dX9_mixLaying_27 : decode cX9_mixLaying 27 = .ok (.getfield 36, 3) := by decide +kernel
theorem dX9_mixLaying_30 : decode cX9_mixLaying 30 = .ok (.aload_n 0, 1) := by decide +kernel
theorem dX9_mixLaying_31 : decode cX9_mixLaying 31 = .ok (.getfield 26, 3) := by decide +kernel
theorem dX9_mixLaying_34 : decode cX9_mixLaying 34 = .ok (.invokevirtual 251, 3) := by decide +kernel
theorem dX9_mixLaying_37 : decode cX9_mixLaying 37 = .ok (.lload_n 3, 1) := by decide +kernel
theorem dX9_mixLaying_38 : decode cX9_mixLaying 38 = .ok (.aload_n 0, 1) := by decide +kernel
theorem dX9_mixLaying_39 : decode cX9_mixLaying 39 = .ok (.getfield 19, 3) := by decide +kernel
theorem dX9_mixLaying_42 : decode cX9_mixLaying 42 = .ok (.aload_n 0, 1) := by decide +kernel
theorem dX9_mixLaying_43 : decode cX9_mixLaying 43 = .ok (.getfield 26, 3) := by decide +kernel
theorem dX9_mixLaying_46 : decode cX9_mixLaying 46 = .ok (.aload_n 0, 1) := by decide +kernel
theorem dX9_mixLaying_47 : decode cX9_mixLaying 47 = .ok (.getfield 36, 3) := by decide +kernel
theorem dX9_mixLaying_50 : decode cX9_mixLaying 50 = .ok (.invokevirtual 145, 3) := by decide +kernel
theorem dX9_mixLaying_53 : decode cX9_mixLaying 53 = .ok (.ifCond .eq 7, 3) := by decide +kernel
theorem dX9_mixLaying_56 : decode cX9_mixLaying 56 = .ok (.lconst 1, 1) := by decide +kernel
theorem dX9_mixLaying_57 : decode cX9_mixLaying 57 = .ok (.goto 4, 3) := by decide +kernel
theorem dX9_mixLaying_60 : decode cX9_mixLaying 60 = .ok (.lconst 0, 1) := by decide +kernel
theorem dX9_mixLaying_61 : decode cX9_mixLaying 61 = .ok (.invokestatic 231, 3) := by decide +kernel
theorem dX9_mixLaying_64 : decode cX9_mixLaying 64 = .ok (.lstore_n 3, 1) := by decide +kernel
theorem dX9_mixLaying_65 : decode cX9_mixLaying 65 = .ok (.iconst 0, 1) := by decide +kernel
theorem dX9_mixLaying_66 : decode cX9_mixLaying 66 = .ok (.istore 5, 2) := by decide +kernel
theorem dX9_mixLaying_68 : decode cX9_mixLaying 68 = .ok (.iload 5, 2) := by decide +kernel
theorem dX9_mixLaying_70 : decode cX9_mixLaying 70 = .ok (.iconst 2, 1) := by decide +kernel
theorem dX9_mixLaying_71 : decode cX9_mixLaying 71 = .ok (.if_icmp .gt 28, 3) := by decide +kernel
theorem dX9_mixLaying_74 : decode cX9_mixLaying 74 = .ok (.lload_n 3, 1) := by decide +kernel
theorem dX9_mixLaying_75 : decode cX9_mixLaying 75 = .ok (.aload_n 0, 1) := by decide +kernel
theorem dX9_mixLaying_76 : decode cX9_mixLaying 76 = .ok (.getfield 26, 3) := by decide +kernel
theorem dX9_mixLaying_79 : decode cX9_mixLaying 79 = .ok (.aload_n 0, 1) := by decide +kernel
theorem dX9_mixLaying_80 : decode cX9_mixLaying 80 = .ok (.getfield 36, 3) := by decide +kernel
theorem dX9_mixLaying_83 : decode cX9_mixLaying 83 = .ok (.iload 5, 2) := by decide +kernel
theorem dX9_mixLaying_85 : decode cX9_mixLaying 85 = .ok (.invokestatic 181, 3) := by decide +kernel
theorem dX9_mixLaying_88 : decode cX9_mixLaying 88 = .ok (.i2l, 1) := by decide +kernel
theorem dX9_mixLaying_89 : decode cX9_mixLaying 89 = .ok (.invokestatic 231, 3) := by decide +kernel
theorem dX9_mixLaying_92 : decode cX9_mixLaying 92 = .ok (.lstore_n 3, 1) := by decide +kernel
theorem dX9_mixLaying_93 : decode cX9_mixLaying 93 = .ok (.iinc 5 1, 3) := by decide +kernel
theorem dX9_mixLaying_96 : decode cX9_mixLaying 96 = .ok (.goto (-28), 3) := by decide +kernel
theorem dX9_mixLaying_99 : decode cX9_mixLaying 99 = .ok (.lload_n 3, 1) := by decide +kernel
theorem dX9_mixLaying_100 : decode cX9_mixLaying 100 = .ok (.lreturn, 1) := by decide +kernel
theorem dX9_isTooShort_0 : decode cX9_isTooShort 0 = .ok (.aload_n 0, 1) := by decide +kernel
theorem dX9_isTooShort_1 : decode cX9_isTooShort 1 = .ok (.getfield 26, 3) := by decide +kernel
theorem dX9_isTooShort_4 : decode cX9_isTooShort 4 = .ok (.invokevirtual 133, 3) := by decide +kernel
theorem dX9_isTooShort_7 : decode cX9_isTooShort 7 = .ok (.iconst 2, 1) := by decide +kernel
theorem dX9_isTooShort_8 : decode cX9_isTooShort 8 = .ok (.if_icmp .ge 7, 3) := by decide +kernel
theorem dX9_isTooShort_11 : decode cX9_isTooShort 11 = .ok (.iconst 1, 1) := by decide +kernel
theorem dX9_isTooShort_12 : decode cX9_isTooShort 12 = .ok (.goto 4, 3) := by decide +kernel
theorem dX9_isTooShort_15 : decode cX9_isTooShort 15 = .ok (.iconst 0, 1) := by decide +kernel
theorem dX9_isTooShort_16 : decode cX9_isTooShort 16 = .ok (.ireturn, 1) := by decide +kernel
theorem dX9_mix_0 : decode cX9_mix 0 = .ok (.ldc2_w 254, 3) := by decide +kernel
theorem dX9_mix_3 : decode cX9_mix 3 = .ok (.lload_n 0, 1) := by decide +kernel
theorem dX9_mix_4 : decode cX9_mix 4 = .ok (.lmul, 1) := by decide +kernel
theorem dX9_mix_5 : decode cX9_mix 5 = .ok (.lload_n 2, 1) := by decide +kernel
theorem dX9_mix_6 : decode cX9_mix 6 = .ok (.ladd, 1) := by decide +kernel
theorem dX9_mix_7 : decode cX9_mix 7 = .ok (.lreturn, 1) := by decide +kernel
theorem dX9_isWithin_0 : decode cX9_isWithin 0 = .ok (.iload_n 0, 1) := by decide +kernel
theorem dX9_isWithin_1 : decode cX9_isWithin 1 = .ok (.iload_n 1, 1) := by decide +kernel
theorem dX9_isWithin_2 : decode cX9_isWithin 2 = .ok (.if_icmp .lt 12, 3) := by decide +kernel
theorem dX9_isWithin_5 : decode cX9_isWithin 5 = .ok (.iload_n 0, 1) := by decide +kernel
theorem dX9_isWithin_6 : decode cX9_isWithin 6 = .ok (.iload_n 2, 1) := by decide +kernel
theorem dX9_isWithin_7 : decode cX9_isWithin 7 = .ok (.if_icmp .gt 7, 3) := by decide +kernel
theorem dX9_isWithin_10 : decode cX9_isWithin 10 = .ok (.iconst 1, 1) := by decide +kernel
theorem dX9_isWithin_11 : decode cX9_isWithin 11 = .ok (.goto 4, 3) := by decide +kernel
theorem dX9_isWithin_14 : decode cX9_isWithin 14 = .ok (.iconst 0, 1) := by decide +kernel
theorem dX9_isWithin_15 : decode cX9_isWithin 15 = .ok (.ireturn, 1) := by decide +kernel
theorem dX9_isKind_0 : decode cX9_isKind 0 = .ok (.iload_n 0, 1) := by decide +kernel
theorem dX9_isKind_1 : decode cX9_isKind 1 = .ok (.iconst 0, 1) := by decide +kernel
theorem dX9_isKind_2 : decode cX9_isKind 2 = .ok (.iconst 4, 1) := by decide +kernel
theorem dX9_isKind_3 : decode cX9_isKind 3 = .ok (.invokestatic 91, 3) := by decide +kernel
theorem dX9_isKind_6 : decode cX9_isKind 6 = .ok (.ireturn, 1) := by decide +kernel
theorem dX9_isAlso_0 : decode cX9_isAlso 0 = .ok (.iload_n 1, 1) := by decide +kernel
theorem dX9_isAlso_1 : decode cX9_isAlso 1 = .ok (.ifCond .eq 18, 3) := by decide +kernel
theorem dX9_isAlso_4 : decode cX9_isAlso 4 = .ok (.iload_n 0, 1) := by decide +kernel
theorem dX9_isAlso_5 : decode cX9_isAlso 5 = .ok (.iload_n 1, 1) := by decide +kernel
theorem dX9_isAlso_6 : decode cX9_isAlso 6 = .ok (.if_icmp .eq 13, 3) := by decide +kernel
theorem dX9_isAlso_9 : decode cX9_isAlso 9 = .ok (.iload_n 1, 1) := by decide +kernel
theorem dX9_isAlso_10 : decode cX9_isAlso 10 = .ok (.iconst 1, 1) := by decide +kernel
theorem dX9_isAlso_11 : decode cX9_isAlso 11 = .ok (.if_icmp .ne 12, 3) := by decide +kernel
theorem dX9_isAlso_14 : decode cX9_isAlso 14 = .ok (.iload_n 0, 1) := by decide +kernel
theorem dX9_isAlso_15 : decode cX9_isAlso 15 = .ok (.iconst 4, 1) := by decide +kernel
theorem dX9_isAlso_16 : decode cX9_isAlso 16 = .ok (.if_icmp .ne 7, 3) := by decide +kernel
theorem dX9_isAlso_19 : decode cX9_isAlso 19 = .ok (.iconst 1, 1) := by decide +kernel
theorem dX9_isAlso_20 : decode cX9_isAlso 20 = .ok (.goto 4, 3) := by decide +kernel
theorem dX9_isAlso_23 : decode cX9_isAlso 23 = .ok (.iconst 0, 1) := by decide +kernel
theorem dX9_isAlso_24 : decode cX9_isAlso 24 = .ok (.ireturn, 1) := by decide +kernel
theorem dX10_init_0 : decode cX10_init 0 = .ok (.aload_n 0, 1) := by decide +kernel
theorem dX10_init_1 : decode cX10_init 1 = .ok (.invokespecial 1, 3) := by decide +kernel
theorem dX10_init_4 : decode cX10_init 4 = .ok (.aload_n 0, 1) := by decide +kernel
theorem dX10_init_5 : decode cX10_init 5 = .ok (.bipush 16, 2) := by decide +kernel
theorem dX10_init_7 : decode cX10_init 7 = .ok (.newarray .int, 2) := by decide +kernel
theorem dX10_init_9 : decode cX10_init 9 = .ok (.putfield 7, 3) := by decide +kernel
theorem dX10_init_12 : decode cX10_init 12 = .ok (.aload_n 0, 1) := by decide +kernel
theorem dX10_init_13 : decode cX10_init 13 = .ok (.bipush 7, 2) := by decide +kernel
theorem dX10_init_15 : decode cX10_init 15 = .ok (.newarray .int, 2) := by decide +kernel
theorem dX10_init_17 : decode cX10_init 17 = .ok (.putfield 13, 3) := by decide +kernel
theorem dX10_init_20 : decode cX10_init 20 = .ok (.aload_n 0, 1) := by decide +kernel
theorem dX10_init_21 : decode cX10_init 21 = .ok (.bipush 7, 2) := by decide +kernel
theorem dX10_init_23 : decode cX10_init 23 = .ok (.newarray .int, 2) := by decide +kernel
theorem dX10_init_25 : decode cX10_init 25 = .ok (.putfield 16, 3) := by decide +kernel
theorem dX10_init_28 : decode cX10_init 28 = .ok (.aload_n 0, 1) := by decide +kernel
theorem dX10_init_29 : decode cX10_init 29 = .ok (.bipush 7, 2) := by decide +kernel
theorem dX10_init_31 : decode cX10_init 31 = .ok (.newarray .int, 2) := by decide +kernel
theorem dX10_init_33 : decode cX10_init 33 = .ok (.putfield 19, 3) := by decide +kernel
theorem dX10_init_36 : decode cX10_init 36 = .ok (.aload_n 0, 1) := by decide +kernel
theorem dX10_init_37 : decode cX10_init 37 = .ok (.bipush 7, 2) := by decide +kernel
theorem dX10_init_39 : decode cX10_init 39 = .ok (.newarray .int, 2) := by decide +kernel
theorem dX10_init_41 : decode cX10_init 41 = .ok (.putfield 22, 3) := by decide +kernel
theorem dX10_init_44 : decode cX10_init 44 = .ok (.aload_n 0, 1) := by decide +kernel
theorem dX10_init_45 : decode cX10_init 45 = .ok (.bipush 7, 2) := by decide +kernel
theorem dX10_init_47 : decode cX10_init 47 = .ok (.newarray .int, 2) := by decide +kernel
theorem dX10_init_49 : decode cX10_init 49 = .ok (.putfield 25, 3) := by decide +kernel
theorem dX10_init_52 : decode cX10_init 52 = .ok (.aload_n 0, 1) := by decide +kernel
theorem dX10_init_53 : decode cX10_init 53 = .ok (.bipush 7, 2) := by decide +kernel
theorem dX10_init_55 : decode cX10_init 55 = .ok (.newarray .int, 2) := by decide +kernel
theorem dX10_init_57 : decode cX10_init 57 = .ok (.putfield 28, 3) := by decide +kernel
theorem dX10_init_60 : decode cX10_init 60 = .ok (.aload_n 0, 1) := by decide +kernel
theorem dX10_init_61 : decode cX10_init 61 = .ok (.bipush 7, 2) := by decide +kernel
theorem dX10_init_63 : decode cX10_init 63 = .ok (.newarray .int, 2) := by decide +kernel
theorem dX10_init_65 : decode cX10_init 65 = .ok (.putfield 31, 3) := by decide +kernel
theorem dX10_init_68 : decode cX10_init 68 = .ok (.aload_n 0, 1) := by decide +kernel
theorem dX10_init_69 : decode cX10_init 69 = .ok (.bipush 7, 2) := by decide +kernel
theorem dX10_init_71 : decode cX10_init 71 = .ok (.newarray .int, 2) := by decide +kernel
theorem dX10_init_73 : decode cX10_init 73 = .ok (.putfield 34, 3) := by decide +kernel
theorem dX10_init_76 : decode cX10_init 76 = .ok (.aload_n 0, 1) := by decide +kernel
theorem dX10_init_77 : decode cX10_init 77 = .ok (.bipush 7, 2) := by decide +kernel
theorem dX10_init_79 : decode cX10_init 79 = .ok (.newarray .int, 2) := by decide +kernel
theorem dX10_init_81 : decode cX10_init 81 = .ok (.putfield 37, 3) := by decide +kernel
theorem dX10_init_84 : decode cX10_init 84 = .ok (.aload_n 0, 1) := by decide +kernel
theorem dX10_init_85 : decode cX10_init 85 = .ok (.bipush 7, 2) := by decide +kernel
theorem dX10_init_87 : decode cX10_init 87 = .ok (.newarray .int, 2) := by decide +kernel
theorem dX10_init_89 : decode cX10_init 89 = .ok (.putfield 40, 3) := by decide +kernel
theorem dX10_init_92 : decode cX10_init 92 = .ok (.aload_n 0, 1) := by decide +kernel
theorem dX10_init_93 : decode cX10_init 93 = .ok (.bipush 42, 2) := by decide +kernel
theorem dX10_init_95 : decode cX10_init 95 = .ok (.newarray .int, 2) := by decide +kernel
theorem dX10_init_97 : decode cX10_init 97 = .ok (.putfield 43, 3) := by decide +kernel
theorem dX10_init_100 : decode cX10_init 100 = .ok (.aload_n 0, 1) := by decide +kernel
theorem dX10_init_101 : decode cX10_init 101 = .ok (.iconst (-1), 1) := by decide +kernel
theorem dX10_init_102 : decode cX10_init 102 = .ok (.putfield 46, 3) := by decide +kernel
theorem dX10_init_105 : decode cX10_init 105 = .ok (.aload_n 0, 1) := by decide +kernel
theorem dX10_init_106 : decode cX10_init 106 = .ok (.bipush 10, 2) := by decide +kernel
theorem dX10_init_108 : decode cX10_init 108 = .ok (.putfield 50, 3) := by decide +kernel
theorem dX10_init_111 : decode cX10_init 111 = .ok (.iconst 0, 1) := by decide +kernel
theorem dX10_init_112 : decode cX10_init 112 = .ok (.istore_n 1, 1) := by decide +kernel
theorem dX10_init_113 : decode cX10_init 113 = .ok (.iload_n 1, 1) := by decide +kernel
theorem dX10_init_114 : decode cX10_init 114 = .ok (.bipush 7, 2) := by decide +kernel
theorem dX10_init_116 : decode cX10_init 116 = .ok (.if_icmp .ge 16, 3) := by decide +kernel
theorem dX10_init_119 : decode cX10_init 119 = .ok (.aload_n 0, 1) := by decide +kernel
theorem dX10_init_120 : decode cX10_init 120 = .ok (.getfield 28, 3) := by decide +kernel
end
section
theorem dX10_init_123 : decode cX10_init 123 = .ok (.iload_n 1, 1) := by decide +kernel
theorem dX10_init_124 : decode cX10_init 124 = .ok (.iconst 1, 1) := by decide +kernel
theorem dX10_init_125 : decode cX10_init 125 = .ok (.iastore, 1) := by decide +kernel
theorem dX10_init_126 : decode cX10_init 126 = .ok (.iinc 1 1, 3) := by decide +kernel
theorem dX10_init_129 : decode cX10_init 129 = .ok (.goto (-16), 3) := by decide +kernel
theorem dX10_init_132 : decode cX10_init 132 = .ok (.return_, 1) := by decide +kernel
theorem dX10_in_0 : decode cX10_in 0 = .ok (.lload_n 0, 1) := by decide +kernel
theorem dX10_in_1 : decode cX10_in 1 = .ok (.lload_n 2, 1) := by decide +kernel
theorem dX10_in_2 : decode cX10_in 2 = .ok (.lcmp, 1) := by decide +kernel
theorem dX10_in_3 : decode cX10_in 3 = .ok (.ifCond .lt 14, 3) := by decide +kernel
theorem dX10_in_6 : decode cX10_in 6 = .ok (.lload_n 0, 1) := by decide +kernel
theorem dX10_in_7 : decode cX10_in 7 = .ok (.lload 4, 2) := by decide +kernel
theorem dX10_in_9 : decode cX10_in 9 = .ok (.lcmp, 1) := by decide +kernel
theorem dX10_in_10 : decode cX10_in 10 = .ok (.ifCond .gt 7, 3) := by decide +kernel
theorem dX10_in_13 : decode cX10_in 13 = .ok (.iconst 1, 1) := by decide +kernel
theorem dX10_in_14 : decode cX10_in 14 = .ok (.goto 4, 3) := by decide +kernel
theorem dX10_in_17 : decode cX10_in 17 = .ok (.iconst 0, 1) := by decide +kernel
theorem dX10_in_18 : decode cX10_in 18 = .ok (.ireturn, 1) := by decide +kernel
theorem dX10_letters_0 : decode cX10_letters 0 = .ok (.iconst 0, 1) := by decide +kernel
theorem dX10_letters_1 : decode cX10_letters 1 = .ok (.istore_n 3, 1) := by decide +kernel
theorem dX10_letters_2 : decode cX10_letters 2 = .ok (.iconst 1, 1) := by decide +kernel
theorem dX10_letters_3 : decode cX10_letters 3 = .ok (.istore 4, 2) := by decide +kernel
theorem dX10_letters_5 : decode cX10_letters 5 = .ok (.lload_n 1, 1) := by decide +kernel
theorem dX10_letters_6 : decode cX10_letters 6 = .ok (.lstore 5, 2) := by decide +kernel
theorem dX10_letters_8 : decode cX10_letters 8 = .ok (.iconst 0, 1) := by decide +kernel
theorem dX10_letters_9 : decode cX10_letters 9 = .ok (.istore 7, 2) := by decide +kernel
theorem dX10_letters_11 : decode cX10_letters 11 = .ok (.iload 7, 2) := by decide +kernel
theorem dX10_letters_13 : decode cX10_letters 13 = .ok (.bipush 8, 2) := by decide +kernel
theorem dX10_letters_15 : decode cX10_letters 15 = .ok (.if_icmp .ge 68, 3) := by decide +kernel
theorem dX10_letters_18 : decode cX10_letters 18 = .ok (.lload 5, 2) := by decide +kernel
theorem dX10_letters_20 : decode cX10_letters 20 = .ok (.ldc2_w 53, 3) := by decide +kernel
theorem dX10_letters_23 : decode cX10_letters 23 = .ok (.land, 1) := by decide +kernel
theorem dX10_letters_24 : decode cX10_letters 24 = .ok (.l2i, 1) := by decide +kernel
theorem dX10_letters_25 : decode cX10_letters 25 = .ok (.istore 8, 2) := by decide +kernel
theorem dX10_letters_27 : decode cX10_letters 27 = .ok (.lload 5, 2) := by decide +kernel
theorem dX10_letters_29 : decode cX10_letters 29 = .ok (.bipush 8, 2) := by decide +kernel
theorem dX10_letters_31 : decode cX10_letters 31 = .ok (.lushr, 1) := by decide +kernel
theorem dX10_letters_32 : decode cX10_letters 32 = .ok (.lstore 5, 2) := by decide +kernel
theorem dX10_letters_34 : decode cX10_letters 34 = .ok (.iload 4, 2) := by decide +kernel
theorem dX10_letters_36 : decode cX10_letters 36 = .ok (.ifCond .eq 25, 3) := by decide +kernel
theorem dX10_letters_39 : decode cX10_letters 39 = .ok (.iload 8, 2) := by decide +kernel
theorem dX10_letters_41 : decode cX10_letters 41 = .ok (.bipush 126, 2) := by decide +kernel
theorem dX10_letters_43 : decode cX10_letters 43 = .ok (.if_icmp .gt 18, 3) := by decide +kernel
theorem dX10_letters_46 : decode cX10_letters 46 = .ok (.iload 8, 2) := by decide +kernel
theorem dX10_letters_48 : decode cX10_letters 48 = .ok (.ifCond .eq 9, 3) := by decide +kernel
theorem dX10_letters_51 : decode cX10_letters 51 = .ok (.iload_n 3, 1) := by decide +kernel
theorem dX10_letters_52 : decode cX10_letters 52 = .ok (.iload 7, 2) := by decide +kernel
theorem dX10_letters_54 : decode cX10_letters 54 = .ok (.if_icmp .ne 7, 3) := by decide +kernel
theorem dX10_letters_57 : decode cX10_letters 57 = .ok (.iconst 1, 1) := by decide +kernel
theorem dX10_letters_58 : decode cX10_letters 58 = .ok (.goto 4, 3) := by decide +kernel
theorem dX10_letters_61 : decode cX10_letters 61 = .ok (.iconst 0, 1) := by decide +kernel
theorem dX10_letters_62 : decode cX10_letters 62 = .ok (.istore 4, 2) := by decide +kernel
theorem dX10_letters_64 : decode cX10_letters 64 = .ok (.iload_n 3, 1) := by decide +kernel
theorem dX10_letters_65 : decode cX10_letters 65 = .ok (.iload 8, 2) := by decide +kernel
theorem dX10_letters_67 : decode cX10_letters 67 = .ok (.ifCond .le 7, 3) := by decide +kernel
theorem dX10_letters_70 : decode cX10_letters 70 = .ok (.iconst 1, 1) := by decide +kernel
theorem dX10_letters_71 : decode cX10_letters 71 = .ok (.goto 4, 3) := by decide +kernel
theorem dX10_letters_74 : decode cX10_letters 74 = .ok (.iconst 0, 1) := by decide +kernel
theorem dX10_letters_75 : decode cX10_letters 75 = .ok (.iadd, 1) := by decide +kernel
theorem dX10_letters_76 : decode cX10_letters 76 = .ok (.istore_n 3, 1) := by decide +kernel
theorem dX10_letters_77 : decode cX10_letters 77 = .ok (.iinc 7 1, 3) := by decide +kernel
theorem dX10_letters_80 : decode cX10_letters 80 = .ok (.goto (-69), 3) := by decide +kernel
theorem dX10_letters_83 : decode cX10_letters 83 = .ok (.iload 4, 2) := by decide +kernel
theorem dX10_letters_85 : decode cX10_letters 85 = .ok (.ifCond .ne 6, 3) := by decide +kernel
theorem dX10_letters_88 : decode cX10_letters 88 = .ok (.bipush (-102), 2) := by decide +kernel
theorem dX10_letters_90 : decode cX10_letters 90 = .ok (.ireturn, 1) := by decide +kernel
theorem dX10_letters_91 : decode cX10_letters 91 = .ok (.aload_n 0, 1) := by decide +kernel
theorem dX10_letters_92 : decode cX10_letters 92 = .ok (.getfield 55, 3) := by decide +kernel
theorem dX10_letters_95 : decode cX10_letters 95 = .ok (.iload_n 3, 1) := by decide +kernel
theorem dX10_letters_96 : decode cX10_letters 96 = .ok (.iadd, 1) := by decide +kernel
theorem dX10_letters_97 : decode cX10_letters 97 = .ok (.bipush 16, 2) := by decide +kernel
theorem dX10_letters_99 : decode cX10_letters 99 = .ok (.if_icmp .le 6, 3) := by decide +kernel
theorem dX10_letters_102 : decode cX10_letters 102 = .ok (.bipush (-104), 2) := by decide +kernel
theorem dX10_letters_104 : decode cX10_letters 104 = .ok (.ireturn, 1) := by decide +kernel
theorem dX10_letters_105 : decode cX10_letters 105 = .ok (.iconst 0, 1) := by decide +kernel
theorem dX10_letters_106 : decode cX10_letters 106 = .ok (.istore 7, 2) := by decide +kernel
theorem dX10_letters_108 : decode cX10_letters 108 = .ok (.iload 7, 2) := by decide +kernel
theorem dX10_letters_110 : decode cX10_letters 110 = .ok (.iload_n 3, 1) := by decide +kernel
theorem dX10_letters_111 : decode cX10_letters 111 = .ok (.if_icmp .ge 40, 3) := by decide +kernel
theorem dX10_letters_114 : decode cX10_letters 114 = .ok (.aload_n 0, 1) := by decide +kernel
theorem dX10_letters_115 : decode cX10_letters 115 = .ok (.getfield 7, 3) := by decide +kernel
theorem dX10_letters_118 : decode cX10_letters 118 = .ok (.aload_n 0, 1) := by decide +kernel
theorem dX10_letters_119 : decode cX10_letters 119 = .ok (.getfield 55, 3) := by decide +kernel
theorem dX10_letters_122 : decode cX10_letters 122 = .ok (.lload_n 1, 1) := by decide +kernel
theorem dX10_letters_123 : decode cX10_letters 123 = .ok (.bipush 8, 2) := by decide +kernel
theorem dX10_letters_125 : decode cX10_letters 125 = .ok (.iload 7, 2) := by decide +kernel
theorem dX10_letters_127 : decode cX10_letters 127 = .ok (.imul, 1) := by decide +kernel
theorem dX10_letters_128 : decode cX10_letters 128 = .ok (.lushr, 1) := by decide +kernel
theorem dX10_letters_129 : decode cX10_letters 129 = .ok (.ldc2_w 53, 3) := by decide +kernel
theorem dX10_letters_132 : decode cX10_letters 132 = .ok (.land, 1) := by decide +kernel
theorem dX10_letters_133 : decode cX10_letters 133 = .ok (.l2i, 1) := by decide +kernel
theorem dX10_letters_134 : decode cX10_letters 134 = .ok (.iastore, 1) := by decide +kernel
theorem dX10_letters_135 : decode cX10_letters 135 = .ok (.aload_n 0, 1) := by decide +kernel
theorem dX10_letters_136 : decode cX10_letters 136 = .ok (.dup, 1) := by decide +kernel
theorem dX10_letters_137 : decode cX10_letters 137 = .ok (.getfield 55, 3) := by decide +kernel
theorem dX10_letters_140 : decode cX10_letters 140 = .ok (.iconst 1, 1) := by decide +kernel
theorem dX10_letters_141 : decode cX10_letters 141 = .ok (.iadd, 1) := by decide +kernel
theorem dX10_letters_142 : decode cX10_letters 142 = .ok (.putfield 55, 3) := by decide +kernel
theorem dX10_letters_145 : decode cX10_letters 145 = .ok (.iinc 7 1, 3) := by decide +kernel
theorem dX10_letters_148 : decode cX10_letters 148 = .ok (.goto (-40), 3) := by decide +kernel
theorem dX10_letters_151 : decode cX10_letters 151 = .ok (.aload_n 0, 1) := by decide +kernel
theorem dX10_letters_152 : decode cX10_letters 152 = .ok (.getfield 55, 3) := by decide +kernel
theorem dX10_letters_155 : decode cX10_letters 155 = .ok (.ireturn, 1) := by decide +kernel
theorem dX10_blank_0 : decode cX10_blank 0 = .ok (.aload_n 0, 1) := by decide +kernel
theorem dX10_blank_1 : decode cX10_blank 1 = .ok (.getfield 55, 3) := by decide +kernel
theorem dX10_blank_4 : decode cX10_blank 4 = .ok (.istore_n 1, 1) := by decide +kernel
theorem dX10_blank_5 : decode cX10_blank 5 = .ok (.aload_n 0, 1) := by decide +kernel
theorem dX10_blank_6 : decode cX10_blank 6 = .ok (.iconst 0, 1) := by decide +kernel
theorem dX10_blank_7 : decode cX10_blank 7 = .ok (.putfield 55, 3) := by decide +kernel
theorem dX10_blank_10 : decode cX10_blank 10 = .ok (.iload_n 1, 1) := by decide +kernel
theorem dX10_blank_11 : decode cX10_blank 11 = .ok (.ireturn, 1) := by decide +kernel
theorem dX10_go_0 : decode cX10_go 0 = .ok (.aload_n 0, 1) := by decide +kernel
theorem dX10_go_1 : decode cX10_go 1 = .ok (.getfield 58, 3) := by decide +kernel
theorem dX10_go_4 : decode cX10_go 4 = .ok (.iconst 4, 1) := by decide +kernel
theorem dX10_go_5 : decode cX10_go 5 = .ok (.if_icmp .ne 28, 3) := by decide +kernel
theorem dX10_go_8 : decode cX10_go 8 = .ok (.aload_n 0, 1) := by decide +kernel
theorem dX10_go_9 : decode cX10_go 9 = .ok (.iload_n 1, 1) := by decide +kernel
theorem dX10_go_10 : decode cX10_go 10 = .ok (.bipush 48, 2) := by decide +kernel
theorem dX10_go_12 : decode cX10_go 12 = .ok (.isub, 1) := by decide +kernel
theorem dX10_go_13 : decode cX10_go 13 = .ok (.putfield 61, 3) := by decide +kernel
theorem dX10_go_16 : decode cX10_go 16 = .ok (.aload_n 0, 1) := by decide +kernel
theorem dX10_go_17 : decode cX10_go 17 = .ok (.iconst 5, 1) := by decide +kernel
theorem dX10_go_18 : decode cX10_go 18 = .ok (.putfield 58, 3) := by decide +kernel
theorem dX10_go_21 : decode cX10_go 21 = .ok (.iload_n 1, 1) := by decide +kernel
theorem dX10_go_22 : decode cX10_go 22 = .ok (.i2l, 1) := by decide +kernel
theorem dX10_go_23 : decode cX10_go 23 = .ok (.ldc2_w 64, 3) := by decide +kernel
theorem dX10_go_26 : decode cX10_go 26 = .ok (.ldc2_w 66, 3) := by decide +kernel
theorem dX10_go_29 : decode cX10_go 29 = .ok (.invokestatic 68, 3) := by decide +kernel
theorem dX10_go_32 : decode cX10_go 32 = .ok (.ireturn, 1) := by decide +kernel
theorem dX10_go_33 : decode cX10_go 33 = .ok (.iload_n 1, 1) := by decide +kernel
theorem dX10_go_34 : decode cX10_go 34 = .ok (.bipush 110, 2) := by decide +kernel
theorem dX10_go_36 : decode cX10_go 36 = .ok (.if_icmp .ne 7, 3) := by decide +kernel
theorem dX10_go_39 : decode cX10_go 39 = .ok (.iconst 1, 1) := by decide +kernel
theorem dX10_go_40 : decode cX10_go 40 = .ok (.goto 34, 3) := by decide +kernel
theorem dX10_go_43 : decode cX10_go 43 = .ok (.iload_n 1, 1) := by decide +kernel
theorem dX10_go_44 : decode cX10_go 44 = .ok (.bipush 116, 2) := by decide +kernel
theorem dX10_go_46 : decode cX10_go 46 = .ok (.if_icmp .ne 7, 3) := by decide +kernel
theorem dX10_go_49 : decode cX10_go 49 = .ok (.iconst 2, 1) := by decide +kernel
theorem dX10_go_50 : decode cX10_go 50 = .ok (.goto 24, 3) := by decide +kernel
theorem dX10_go_53 : decode cX10_go 53 = .ok (.iload_n 1, 1) := by decide +kernel
theorem dX10_go_54 : decode cX10_go 54 = .ok (.bipush 119, 2) := by decide +kernel
theorem dX10_go_56 : decode cX10_go 56 = .ok (.if_icmp .ne 7, 3) := by decide +kernel
theorem dX10_go_59 : decode cX10_go 59 = .ok (.iconst 3, 1) := by decide +kernel
theorem dX10_go_60 : decode cX10_go 60 = .ok (.goto 14, 3) := by decide +kernel
theorem dX10_go_63 : decode cX10_go 63 = .ok (.iload_n 1, 1) := by decide +kernel
theorem dX10_go_64 : decode cX10_go 64 = .ok (.bipush 109, 2) := by decide +kernel
theorem dX10_go_66 : decode cX10_go 66 = .ok (.if_icmp .ne 7, 3) := by decide +kernel
theorem dX10_go_69 : decode cX10_go 69 = .ok (.iconst 4, 1) := by decide +kernel
theorem dX10_go_70 : decode cX10_go 70 = .ok (.goto 4, 3) := by decide +kernel
theorem dX10_go_73 : decode cX10_go 73 = .ok (.iconst (-1), 1) := by decide +kernel
theorem dX10_go_74 : decode cX10_go 74 = .ok (.istore_n 2, 1) := by decide +kernel
theorem dX10_go_75 : decode cX10_go 75 = .ok (.iload_n 2, 1) := by decide +kernel
theorem dX10_go_76 : decode cX10_go 76 = .ok (.iconst (-1), 1) := by decide +kernel
theorem dX10_go_77 : decode cX10_go 77 = .ok (.if_icmp .eq 11, 3) := by decide +kernel
theorem dX10_go_80 : decode cX10_go 80 = .ok (.iload_n 2, 1) := by decide +kernel
theorem dX10_go_81 : decode cX10_go 81 = .ok (.aload_n 0, 1) := by decide +kernel
theorem dX10_go_82 : decode cX10_go 82 = .ok (.getfield 58, 3) := by decide +kernel
theorem dX10_go_85 : decode cX10_go 85 = .ok (.if_icmp .gt 5, 3) := by decide +kernel
theorem dX10_go_88 : decode cX10_go 88 = .ok (.iconst 0, 1) := by decide +kernel
theorem dX10_go_89 : decode cX10_go 89 = .ok (.ireturn, 1) := by decide +kernel
theorem dX10_go_90 : decode cX10_go 90 = .ok (.aload_n 0, 1) := by decide +kernel
theorem dX10_go_91 : decode cX10_go 91 = .ok (.iload_n 1, 1) := by decide +kernel
theorem dX10_go_92 : decode cX10_go 92 = .ok (.bipush 110, 2) := by decide +kernel
theorem dX10_go_94 : decode cX10_go 94 = .ok (.if_icmp .ne 7, 3) := by decide +kernel
theorem dX10_go_97 : decode cX10_go 97 = .ok (.iconst 1, 1) := by decide +kernel
theorem dX10_go_98 : decode cX10_go 98 = .ok (.goto 7, 3) := by decide +kernel
theorem dX10_go_101 : decode cX10_go 101 = .ok (.aload_n 0, 1) := by decide +kernel
theorem dX10_go_102 : decode cX10_go 102 = .ok (.getfield 72, 3) := by decide +kernel
theorem dX10_go_105 : decode cX10_go 105 = .ok (.putfield 72, 3) := by decide +kernel
theorem dX10_go_108 : decode cX10_go 108 = .ok (.aload_n 0, 1) := by decide +kernel
theorem dX10_go_109 : decode cX10_go 109 = .ok (.iload_n 1, 1) := by decide +kernel
theorem dX10_go_110 : decode cX10_go 110 = .ok (.bipush 116, 2) := by decide +kernel
theorem dX10_go_112 : decode cX10_go 112 = .ok (.if_icmp .ne 7, 3) := by decide +kernel
theorem dX10_go_115 : decode cX10_go 115 = .ok (.iconst 1, 1) := by decide +kernel
theorem dX10_go_116 : decode cX10_go 116 = .ok (.goto 7, 3) := by decide +kernel
theorem dX10_go_119 : decode cX10_go 119 = .ok (.aload_n 0, 1) := by decide +kernel
theorem dX10_go_120 : decode cX10_go 120 = .ok (.getfield 75, 3) := by decide +kernel
theorem dX10_go_123 : decode cX10_go 123 = .ok (.putfield 75, 3) := by decide +kernel
theorem dX10_go_126 : decode cX10_go 126 = .ok (.aload_n 0, 1) := by decide +kernel
theorem dX10_go_127 : decode cX10_go 127 = .ok (.iload_n 1, 1) := by decide +kernel
theorem dX10_go_128 : decode cX10_go 128 = .ok (.bipush 119, 2) := by decide +kernel
theorem dX10_go_130 : decode cX10_go 130 = .ok (.if_icmp .ne 7, 3) := by decide +kernel
theorem dX10_go_133 : decode cX10_go 133 = .ok (.iconst 1, 1) := by decide +kernel
theorem dX10_go_134 : decode cX10_go 134 = .ok (.goto 7, 3) := by decide +kernel
theorem dX10_go_137 : decode cX10_go 137 = .ok (.aload_n 0, 1) := by decide +kernel
theorem dX10_go_138 : decode cX10_go 138 = .ok (.getfield 78, 3) := by decide +kernel
theorem dX10_go_141 : decode cX10_go 141 = .ok (.putfield 78, 3) := by decide +kernel
theorem dX10_go_144 : decode cX10_go 144 = .ok (.aload_n 0, 1) := by decide +kernel
theorem dX10_go_145 : decode cX10_go 145 = .ok (.iload_n 2, 1) := by decide +kernel
theorem dX10_go_146 : decode cX10_go 146 = .ok (.putfield 58, 3) := by decide +kernel
theorem dX10_go_149 : decode cX10_go 149 = .ok (.iconst 1, 1) := by decide +kernel
theorem dX10_go_150 : decode cX10_go 150 = .ok (.ireturn, 1) := by decide +kernel
theorem dX10_faultOf_0 : decode cX10_faultOf 0 = .ok (.aload_n 0, 1) := by decide +kernel
theorem dX10_faultOf_1 : decode cX10_faultOf 1 = .ok (.iconst 0, 1) := by decide +kernel
theorem dX10_faultOf_2 : decode cX10_faultOf 2 = .ok (.putfield 58, 3) := by decide +kernel
theorem dX10_faultOf_5 : decode cX10_faultOf 5 = .ok (.aload_n 0, 1) := by decide +kernel
theorem dX10_faultOf_6 : decode cX10_faultOf 6 = .ok (.iconst 0, 1) := by decide +kernel
theorem dX10_faultOf_7 : decode cX10_faultOf 7 = .ok (.putfield 72, 3) := by decide +kernel
theorem dX10_faultOf_10 : decode cX10_faultOf 10 = .ok (.aload_n 0, 1) := by decide +kernel
theorem dX10_faultOf_11 : decode cX10_faultOf 11 = .ok (.iconst 0, 1) := by decide +kernel
theorem dX10_faultOf_12 : decode cX10_faultOf 12 = .ok (.putfield 75, 3) := by decide +kernel
theorem dX10_faultOf_15 : decode cX10_faultOf 15 = .ok (.aload_n 0, 1) := by decide +kernel
theorem dX10_faultOf_16 : decode cX10_faultOf 16 = .ok (.iconst 0, 1) := by decide +kernel
theorem dX10_faultOf_17 : decode cX10_faultOf 17 = .ok (.putfield 78, 3) := by decide +kernel
theorem dX10_faultOf_20 : decode cX10_faultOf 20 = .ok (.aload_n 0, 1) := by decide +kernel
theorem dX10_faultOf_21 : decode cX10_faultOf 21 = .ok (.bipush 10, 2) := by decide +kernel
theorem dX10_faultOf_23 : decode cX10_faultOf 23 = .ok (.putfield 61, 3) := by decide +kernel
theorem dX10_faultOf_26 : decode cX10_faultOf 26 = .ok (.iconst 0, 1) := by decide +kernel
theorem dX10_faultOf_27 : decode cX10_faultOf 27 = .ok (.istore_n 1, 1) := by decide +kernel
theorem dX10_faultOf_28 : decode cX10_faultOf 28 = .ok (.iload_n 1, 1) := by decide +kernel
theorem dX10_faultOf_29 : decode cX10_faultOf 29 = .ok (.aload_n 0, 1) := by decide +kernel
theorem dX10_faultOf_30 : decode cX10_faultOf 30 = .ok (.getfield 55, 3) := by decide +kernel
theorem dX10_faultOf_33 : decode cX10_faultOf 33 = .ok (.if_icmp .ge 22, 3) := by decide +kernel
theorem dX10_faultOf_36 : decode cX10_faultOf 36 = .ok (.aload_n 0, 1) := by decide +kernel
theorem dX10_faultOf_37 : decode cX10_faultOf 37 = .ok (.aload_n 0, 1) := by decide +kernel
theorem dX10_faultOf_38 : decode cX10_faultOf 38 = .ok (.getfield 7, 3) := by decide +kernel
theorem dX10_faultOf_41 : decode cX10_faultOf 41 = .ok (.iload_n 1, 1) := by decide +kernel
theorem dX10_faultOf_42 : decode cX10_faultOf 42 = .ok (.iaload, 1) := by decide +kernel
theorem dX10_faultOf_43 : decode cX10_faultOf 43 = .ok (.invokevirtual 81, 3) := by decide +kernel
theorem dX10_faultOf_46 : decode cX10_faultOf 46 = .ok (.ifCond .eq 9, 3) := by decide +kernel
theorem dX10_faultOf_49 : decode cX10_faultOf 49 = .ok (.iinc 1 1, 3) := by decide +kernel
theorem dX10_faultOf_52 : decode cX10_faultOf 52 = .ok (.goto (-24), 3) := by decide +kernel
theorem dX10_faultOf_55 : decode cX10_faultOf 55 = .ok (.iload_n 1, 1) := by decide +kernel
theorem dX10_faultOf_56 : decode cX10_faultOf 56 = .ok (.ireturn, 1) := by decide +kernel
theorem dX10_fault_0 : decode cX10_fault 0 = .ok (.aload_n 0, 1) := by decide +kernel
theorem dX10_fault_1 : decode cX10_fault 1 = .ok (.invokevirtual 85, 3) := by decide +kernel
theorem dX10_fault_4 : decode cX10_fault 4 = .ok (.ireturn, 1) := by decide +kernel
theorem dX10_law_0 : decode cX10_law 0 = .ok (.aload_n 0, 1) := by decide +kernel
theorem dX10_law_1 : decode cX10_law 1 = .ok (.invokevirtual 85, 3) := by decide +kernel
theorem dX10_law_4 : decode cX10_law 4 = .ok (.aload_n 0, 1) := by decide +kernel
theorem dX10_law_5 : decode cX10_law 5 = .ok (.getfield 55, 3) := by decide +kernel
theorem dX10_law_8 : decode cX10_law 8 = .ok (.if_icmp .lt 11, 3) := by decide +kernel
theorem dX10_law_11 : decode cX10_law 11 = .ok (.aload_n 0, 1) := by decide +kernel
theorem dX10_law_12 : decode cX10_law 12 = .ok (.getfield 58, 3) := by decide +kernel
theorem dX10_law_15 : decode cX10_law 15 = .ok (.iconst 4, 1) := by decide +kernel
theorem dX10_law_16 : decode cX10_law 16 = .ok (.if_icmp .ne 6, 3) := by decide +kernel
theorem dX10_law_19 : decode cX10_law 19 = .ok (.bipush (-103), 2) := by decide +kernel
theorem dX10_law_21 : decode cX10_law 21 = .ok (.ireturn, 1) := by decide +kernel
theorem dX10_law_22 : decode cX10_law 22 = .ok (.aload_n 0, 1) := by decide +kernel
theorem dX10_law_23 : decode cX10_law 23 = .ok (.aload_n 0, 1) := by decide +kernel
theorem dX10_law_24 : decode cX10_law 24 = .ok (.getfield 72, 3) := by decide +kernel
theorem dX10_law_27 : decode cX10_law 27 = .ok (.putfield 89, 3) := by decide +kernel
theorem dX10_law_30 : decode cX10_law 30 = .ok (.aload_n 0, 1) := by decide +kernel
theorem dX10_law_31 : decode cX10_law 31 = .ok (.aload_n 0, 1) := by decide +kernel
theorem dX10_law_32 : decode cX10_law 32 = .ok (.getfield 75, 3) := by decide +kernel
theorem dX10_law_35 : decode cX10_law 35 = .ok (.putfield 92, 3) := by decide +kernel
theorem dX10_law_38 : decode cX10_law 38 = .ok (.aload_n 0, 1) := by decide +kernel
theorem dX10_law_39 : decode cX10_law 39 = .ok (.aload_n 0, 1) := by decide +kernel
theorem dX10_law_40 : decode cX10_law 40 = .ok (.getfield 78, 3) := by decide +kernel
theorem dX10_law_43 : decode cX10_law 43 = .ok (.putfield 95, 3) := by decide +kernel
theorem dX10_law_46 : decode cX10_law 46 = .ok (.aload_n 0, 1) := by decide +kernel
theorem dX10_law_47 : decode cX10_law 47 = .ok (.aload_n 0, 1) := by decide +kernel
theorem dX10_law_48 : decode cX10_law 48 = .ok (.getfield 61, 3) := by decide +kernel
theorem dX10_law_51 : decode cX10_law 51 = .ok (.putfield 50, 3) := by decide +kernel
theorem dX10_law_54 : decode cX10_law 54 = .ok (.aload_n 0, 1) := by decide +kernel
theorem dX10_law_55 : decode cX10_law 55 = .ok (.dup, 1) := by decide +kernel
theorem dX10_law_56 : decode cX10_law 56 = .ok (.getfield 98, 3) := by decide +kernel
theorem dX10_law_59 : decode cX10_law 59 = .ok (.iconst 1, 1) := by decide +kernel
theorem dX10_law_60 : decode cX10_law 60 = .ok (.iadd, 1) := by decide +kernel
theorem dX10_law_61 : decode cX10_law 61 = .ok (.putfield 98, 3) := by decide +kernel
theorem dX10_law_64 : decode cX10_law 64 = .ok (.aload_n 0, 1) := by decide +kernel
theorem dX10_law_65 : decode cX10_law 65 = .ok (.iconst 0, 1) := by decide +kernel
theorem dX10_law_66 : decode cX10_law 66 = .ok (.putfield 55, 3) := by decide +kernel
theorem dX10_law_69 : decode cX10_law 69 = .ok (.aload_n 0, 1) := by decide +kernel
theorem dX10_law_70 : decode cX10_law 70 = .ok (.getfield 98, 3) := by decide +kernel
theorem dX10_law_73 : decode cX10_law 73 = .ok (.ireturn, 1) := by decide +kernel
theorem dX10_tellLaw_0 : decode cX10_tellLaw 0 = .ok (.iload_n 1, 1) := by decide +kernel
theorem dX10_tellLaw_1 : decode cX10_tellLaw 1 = .ok (.ifCond .ne 10, 3) := by decide +kernel
theorem dX10_tellLaw_4 : decode cX10_tellLaw 4 = .ok (.aload_n 0, 1) := by decide +kernel
theorem dX10_tellLaw_5 : decode cX10_tellLaw 5 = .ok (.getfield 89, 3) := by decide +kernel
theorem dX10_tellLaw_8 : decode cX10_tellLaw 8 = .ok (.goto 41, 3) := by decide +kernel
theorem dX10_tellLaw_11 : decode cX10_tellLaw 11 = .ok (.iload_n 1, 1) := by decide +kernel
theorem dX10_tellLaw_12 : decode cX10_tellLaw 12 = .ok (.iconst 1, 1) := by decide +kernel
theorem dX10_tellLaw_13 : decode cX10_tellLaw 13 = .ok (.if_icmp .ne 10, 3) := by decide +kernel
theorem dX10_tellLaw_16 : decode cX10_tellLaw 16 = .ok (.aload_n 0, 1) := by decide +kernel
theorem dX10_tellLaw_17 : decode cX10_tellLaw 17 = .ok (.getfield 92, 3) := by decide +kernel
theorem dX10_tellLaw_20 : decode cX10_tellLaw 20 = .ok (.goto 29, 3) := by decide +kernel
theorem dX10_tellLaw_23 : decode cX10_tellLaw 23 = .ok (.iload_n 1, 1) := by decide +kernel
theorem dX10_tellLaw_24 : decode cX10_tellLaw 24 = .ok (.iconst 2, 1) := by decide +kernel
theorem dX10_tellLaw_25 : decode cX10_tellLaw 25 = .ok (.if_icmp .ne 10, 3) := by decide +kernel
theorem dX10_tellLaw_28 : decode cX10_tellLaw 28 = .ok (.aload_n 0, 1) := by decide +kernel
theorem dX10_tellLaw_29 : decode cX10_tellLaw 29 = .ok (.getfield 95, 3) := by decide +kernel
theorem dX10_tellLaw_32 : decode cX10_tellLaw 32 = .ok (.goto 17, 3) := by decide +kernel
theorem dX10_tellLaw_35 : decode cX10_tellLaw 35 = .ok (.iload_n 1, 1) := by decide +kernel
theorem dX10_tellLaw_36 : decode cX10_tellLaw 36 = .ok (.iconst 3, 1) := by decide +kernel
theorem dX10_tellLaw_37 : decode cX10_tellLaw 37 = .ok (.if_icmp .ne 10, 3) := by decide +kernel
theorem dX10_tellLaw_40 : decode cX10_tellLaw 40 = .ok (.aload_n 0, 1) := by decide +kernel
theorem dX10_tellLaw_41 : decode cX10_tellLaw 41 = .ok (.getfield 50, 3) := by decide +kernel
theorem dX10_tellLaw_44 : decode cX10_tellLaw 44 = .ok (.goto 5, 3) := by decide +kernel
theorem dX10_tellLaw_47 : decode cX10_tellLaw 47 = .ok (.bipush (-102), 2) := by decide +kernel
theorem dX10_tellLaw_49 : decode cX10_tellLaw 49 = .ok (.ireturn, 1) := by decide +kernel
theorem dX10_lawTold_0 : decode cX10_lawTold 0 = .ok (.aload_n 0, 1) := by decide +kernel
theorem dX10_lawTold_1 : decode cX10_lawTold 1 = .ok (.iload_n 1, 1) := by decide +kernel
theorem dX10_lawTold_2 : decode cX10_lawTold 2 = .ok (.invokevirtual 101, 3) := by decide +kernel
theorem dX10_lawTold_5 : decode cX10_lawTold 5 = .ok (.ireturn, 1) := by decide +kernel
theorem dX10_isBlock_0 : decode cX10_isBlock 0 = .ok (.iload_n 1, 1) := by decide +kernel
theorem dX10_isBlock_1 : decode cX10_isBlock 1 = .ok (.i2l, 1) := by decide +kernel
theorem dX10_isBlock_2 : decode cX10_isBlock 2 = .ok (.lconst 0, 1) := by decide +kernel
theorem dX10_isBlock_3 : decode cX10_isBlock 3 = .ok (.aload_n 0, 1) := by decide +kernel
theorem dX10_isBlock_4 : decode cX10_isBlock 4 = .ok (.getfield 105, 3) := by decide +kernel
theorem dX10_isBlock_7 : decode cX10_isBlock 7 = .ok (.iconst 1, 1) := by decide +kernel
theorem dX10_isBlock_8 : decode cX10_isBlock 8 = .ok (.isub, 1) := by decide +kernel
theorem dX10_isBlock_9 : decode cX10_isBlock 9 = .ok (.i2l, 1) := by decide +kernel
theorem dX10_isBlock_10 : decode cX10_isBlock 10 = .ok (.invokestatic 68, 3) := by decide +kernel
theorem dX10_isBlock_13 : decode cX10_isBlock 13 = .ok (.ireturn, 1) := by decide +kernel
theorem dX10_block_0 : decode cX10_block 0 = .ok (.iload_n 1, 1) := by decide +kernel
theorem dX10_block_1 : decode cX10_block 1 = .ok (.i2l, 1) := by decide +kernel
theorem dX10_block_2 : decode cX10_block 2 = .ok (.lconst 0, 1) := by decide +kernel
theorem dX10_block_3 : decode cX10_block 3 = .ok (.ldc2_w 108, 3) := by decide +kernel
theorem dX10_block_6 : decode cX10_block 6 = .ok (.invokestatic 68, 3) := by decide +kernel
theorem dX10_block_9 : decode cX10_block 9 = .ok (.ifCond .eq 27, 3) := by decide +kernel
theorem dX10_block_12 : decode cX10_block 12 = .ok (.iload_n 2, 1) := by decide +kernel
theorem dX10_block_13 : decode cX10_block 13 = .ok (.i2l, 1) := by decide +kernel
theorem dX10_block_14 : decode cX10_block 14 = .ok (.lconst 0, 1) := by decide +kernel
theorem dX10_block_15 : decode cX10_block 15 = .ok (.ldc2_w 110, 3) := by decide +kernel
theorem dX10_block_18 : decode cX10_block 18 = .ok (.invokestatic 68, 3) := by decide +kernel
theorem dX10_block_21 : decode cX10_block 21 = .ok (.ifCond .eq 15, 3) := by decide +kernel
theorem dX10_block_24 : decode cX10_block 24 = .ok (.iload_n 3, 1) := by decide +kernel
theorem dX10_block_25 : decode cX10_block 25 = .ok (.i2l, 1) := by decide +kernel
theorem dX10_block_26 : decode cX10_block 26 = .ok (.lconst 0, 1) := by decide +kernel
theorem dX10_block_27 : decode cX10_block 27 = .ok (.ldc2_w 110, 3) := by decide +kernel
theorem dX10_block_30 : decode cX10_block 30 = .ok (.invokestatic 68, 3) := by decide +kernel
theorem dX10_block_33 : decode cX10_block 33 = .ok (.ifCond .ne 6, 3) := by decide +kernel
theorem dX10_block_36 : decode cX10_block 36 = .ok (.bipush (-102), 2) := by decide +kernel
theorem dX10_block_38 : decode cX10_block 38 = .ok (.ireturn, 1) := by decide +kernel
theorem dX10_block_39 : decode cX10_block 39 = .ok (.aload_n 0, 1) := by decide +kernel
theorem dX10_block_40 : decode cX10_block 40 = .ok (.getfield 105, 3) := by decide +kernel
theorem dX10_block_43 : decode cX10_block 43 = .ok (.bipush 7, 2) := by decide +kernel
theorem dX10_block_45 : decode cX10_block 45 = .ok (.if_icmp .ne 6, 3) := by decide +kernel
theorem dX10_block_48 : decode cX10_block 48 = .ok (.bipush (-104), 2) := by decide +kernel
theorem dX10_block_50 : decode cX10_block 50 = .ok (.ireturn, 1) := by decide +kernel
theorem dX10_block_51 : decode cX10_block 51 = .ok (.aload_n 0, 1) := by decide +kernel
theorem dX10_block_52 : decode cX10_block 52 = .ok (.getfield 13, 3) := by decide +kernel
theorem dX10_block_55 : decode cX10_block 55 = .ok (.aload_n 0, 1) := by decide +kernel
theorem dX10_block_56 : decode cX10_block 56 = .ok (.getfield 105, 3) := by decide +kernel
theorem dX10_block_59 : decode cX10_block 59 = .ok (.iload_n 1, 1) := by decide +kernel
theorem dX10_block_60 : decode cX10_block 60 = .ok (.iastore, 1) := by decide +kernel
theorem dX10_block_61 : decode cX10_block 61 = .ok (.aload_n 0, 1) := by decide +kernel
theorem dX10_block_62 : decode cX10_block 62 = .ok (.getfield 16, 3) := by decide +kernel
theorem dX10_block_65 : decode cX10_block 65 = .ok (.aload_n 0, 1) := by decide +kernel
theorem dX10_block_66 : decode cX10_block 66 = .ok (.getfield 105, 3) := by decide +kernel
theorem dX10_block_69 : decode cX10_block 69 = .ok (.iload_n 2, 1) := by decide +kernel
theorem dX10_block_70 : decode cX10_block 70 = .ok (.iastore, 1) := by decide +kernel
theorem dX10_block_71 : decode cX10_block 71 = .ok (.aload_n 0, 1) := by decide +kernel
theorem dX10_block_72 : decode cX10_block 72 = .ok (.getfield 19, 3) := by decide +kernel
theorem dX10_block_75 : decode cX10_block 75 = .ok (.aload_n 0, 1) := by decide +kernel
theorem dX10_block_76 : decode cX10_block 76 = .ok (.getfield 105, 3) := by decide +kernel
theorem dX10_block_79 : decode cX10_block 79 = .ok (.iload_n 3, 1) := by decide +kernel
theorem dX10_block_80 : decode cX10_block 80 = .ok (.iastore, 1) := by decide +kernel
theorem dX10_block_81 : decode cX10_block 81 = .ok (.aload_n 0, 1) := by decide +kernel
theorem dX10_block_82 : decode cX10_block 82 = .ok (.getfield 22, 3) := by decide +kernel
theorem dX10_block_85 : decode cX10_block 85 = .ok (.aload_n 0, 1) := by decide +kernel
theorem dX10_block_86 : decode cX10_block 86 = .ok (.getfield 105, 3) := by decide +kernel
theorem dX10_block_89 : decode cX10_block 89 = .ok (.aload_n 0, 1) := by decide +kernel
theorem dX10_block_90 : decode cX10_block 90 = .ok (.getfield 105, 3) := by decide +kernel
theorem dX10_block_93 : decode cX10_block 93 = .ok (.iastore, 1) := by decide +kernel
theorem dX10_block_94 : decode cX10_block 94 = .ok (.aload_n 0, 1) := by decide +kernel
theorem dX10_block_95 : decode cX10_block 95 = .ok (.getfield 25, 3) := by decide +kernel
theorem dX10_block_98 : decode cX10_block 98 = .ok (.aload_n 0, 1) := by decide +kernel
theorem dX10_block_99 : decode cX10_block 99 = .ok (.getfield 105, 3) := by decide +kernel
theorem dX10_block_102 : decode cX10_block 102 = .ok (.iconst (-1), 1) := by decide +kernel
theorem dX10_block_103 : decode cX10_block 103 = .ok (.iastore, 1) := by decide +kernel
theorem dX10_block_104 : decode cX10_block 104 = .ok (.aload_n 0, 1) := by decide +kernel
theorem dX10_block_105 : decode cX10_block 105 = .ok (.dup, 1) := by decide +kernel
theorem dX10_block_106 : decode cX10_block 106 = .ok (.getfield 105, 3) := by decide +kernel
theorem dX10_block_109 : decode cX10_block 109 = .ok (.iconst 1, 1) := by decide +kernel
theorem dX10_block_110 : decode cX10_block 110 = .ok (.iadd, 1) := by decide +kernel
theorem dX10_block_111 : decode cX10_block 111 = .ok (.putfield 105, 3) := by decide +kernel
theorem dX10_block_114 : decode cX10_block 114 = .ok (.aload_n 0, 1) := by decide +kernel
theorem dX10_block_115 : decode cX10_block 115 = .ok (.getfield 105, 3) := by decide +kernel
theorem dX10_block_118 : decode cX10_block 118 = .ok (.iconst 1, 1) := by decide +kernel
theorem dX10_block_119 : decode cX10_block 119 = .ok (.isub, 1) := by decide +kernel
theorem dX10_block_120 : decode cX10_block 120 = .ok (.ireturn, 1) := by decide +kernel
theorem dX10_tell_0 : decode cX10_tell 0 = .ok (.iload_n 2, 1) := by decide +kernel
theorem dX10_tell_1 : decode cX10_tell 1 = .ok (.tableswitch 70 0 4 #[35, 42, 49, 56, 63], 35) := by decide +kernel
theorem dX10_tell_36 : decode cX10_tell 36 = .ok (.aload_n 0, 1) := by decide +kernel
theorem dX10_tell_37 : decode cX10_tell 37 = .ok (.getfield 13, 3) := by decide +kernel
theorem dX10_tell_40 : decode cX10_tell 40 = .ok (.iload_n 1, 1) := by decide +kernel
theorem dX10_tell_41 : decode cX10_tell 41 = .ok (.iaload, 1) := by decide +kernel
theorem dX10_tell_42 : decode cX10_tell 42 = .ok (.ireturn, 1) := by decide +kernel
theorem dX10_tell_43 : decode cX10_tell 43 = .ok (.aload_n 0, 1) := by decide +kernel
theorem dX10_tell_44 : decode cX10_tell 44 = .ok (.getfield 16, 3) := by decide +kernel
theorem dX10_tell_47 : decode cX10_tell 47 = .ok (.iload_n 1, 1) := by decide +kernel
theorem dX10_tell_48 : decode cX10_tell 48 = .ok (.iaload, 1) := by decide +kernel
theorem dX10_tell_49 : decode cX10_tell 49 = .ok (.ireturn, 1) := by decide +kernel
theorem dX10_tell_50 : decode cX10_tell 50 = .ok (.aload_n 0, 1) := by decide +kernel
theorem dX10_tell_51 : decode cX10_tell 51 = .ok (.getfield 19, 3) := by decide +kernel
theorem dX10_tell_54 : decode cX10_tell 54 = .ok (.iload_n 1, 1) := by decide +kernel
theorem dX10_tell_55 : decode cX10_tell 55 = .ok (.iaload, 1) := by decide +kernel
theorem dX10_tell_56 : decode cX10_tell 56 = .ok (.ireturn, 1) := by decide +kernel
theorem dX10_tell_57 : decode cX10_tell 57 = .ok (.aload_n 0, 1) := by decide +kernel
theorem dX10_tell_58 : decode cX10_tell 58 = .ok (.getfield 22, 3) := by decide +kernel
theorem dX10_tell_61 : decode cX10_tell 61 = .ok (.iload_n 1, 1) := by decide +kernel
theorem dX10_tell_62 : decode cX10_tell 62 = .ok (.iaload, 1) := by decide +kernel
theorem dX10_tell_63 : decode cX10_tell 63 = .ok (.ireturn, 1) := by decide +kernel
theorem dX10_tell_64 : decode cX10_tell 64 = .ok (.aload_n 0, 1) := by decide +kernel
theorem dX10_tell_65 : decode cX10_tell 65 = .ok (.getfield 25, 3) := by decide +kernel
theorem dX10_tell_68 : decode cX10_tell 68 = .ok (.iload_n 1, 1) := by decide +kernel
theorem dX10_tell_69 : decode cX10_tell 69 = .ok (.iaload, 1) := by decide +kernel
theorem dX10_tell_70 : decode cX10_tell 70 = .ok (.ireturn, 1) := by decide +kernel
theorem dX10_tell_71 : decode cX10_tell 71 = .ok (.bipush (-102), 2) := by decide +kernel
theorem dX10_tell_73 : decode cX10_tell 73 = .ok (.ireturn, 1) := by decide +kernel
theorem dX10_about_0 : decode cX10_about 0 = .ok (.aload_n 0, 1) := by decide +kernel
theorem dX10_about_1 : decode cX10_about 1 = .ok (.iload_n 1, 1) := by decide +kernel
theorem dX10_about_2 : decode cX10_about 2 = .ok (.invokevirtual 112, 3) := by decide +kernel
theorem dX10_about_5 : decode cX10_about 5 = .ok (.ifCond .eq 12, 3) := by decide +kernel
theorem dX10_about_8 : decode cX10_about 8 = .ok (.aload_n 0, 1) := by decide +kernel
theorem dX10_about_9 : decode cX10_about 9 = .ok (.iload_n 1, 1) := by decide +kernel
theorem dX10_about_10 : decode cX10_about 10 = .ok (.iload_n 2, 1) := by decide +kernel
theorem dX10_about_11 : decode cX10_about 11 = .ok (.invokevirtual 115, 3) := by decide +kernel
theorem dX10_about_14 : decode cX10_about 14 = .ok (.goto 5, 3) := by decide +kernel
theorem dX10_about_17 : decode cX10_about 17 = .ok (.bipush (-101), 2) := by decide +kernel
theorem dX10_about_19 : decode cX10_about 19 = .ok (.ireturn, 1) := by decide +kernel
theorem dX10_as_0 : decode cX10_as 0 = .ok (.aload_n 0, 1) := by decide +kernel
theorem dX10_as_1 : decode cX10_as 1 = .ok (.iload_n 1, 1) := by decide +kernel
theorem dX10_as_2 : decode cX10_as 2 = .ok (.invokevirtual 112, 3) := by decide +kernel
theorem dX10_as_5 : decode cX10_as 5 = .ok (.ifCond .ne 6, 3) := by decide +kernel
theorem dX10_as_8 : decode cX10_as 8 = .ok (.bipush (-101), 2) := by decide +kernel
theorem dX10_as_10 : decode cX10_as 10 = .ok (.ireturn, 1) := by decide +kernel
theorem dX10_as_11 : decode cX10_as 11 = .ok (.iload_n 2, 1) := by decide +kernel
theorem dX10_as_12 : decode cX10_as 12 = .ok (.i2l, 1) := by decide +kernel
theorem dX10_as_13 : decode cX10_as 13 = .ok (.lconst 0, 1) := by decide +kernel
theorem dX10_as_14 : decode cX10_as 14 = .ok (.ldc2_w 108, 3) := by decide +kernel
theorem dX10_as_17 : decode cX10_as 17 = .ok (.invokestatic 68, 3) := by decide +kernel
theorem dX10_as_20 : decode cX10_as 20 = .ok (.ifCond .ne 6, 3) := by decide +kernel
theorem dX10_as_23 : decode cX10_as 23 = .ok (.bipush (-102), 2) := by decide +kernel
theorem dX10_as_25 : decode cX10_as 25 = .ok (.ireturn, 1) := by decide +kernel
theorem dX10_as_26 : decode cX10_as 26 = .ok (.iload_n 2, 1) := by decide +kernel
theorem dX10_as_27 : decode cX10_as 27 = .ok (.ifCond .eq 28, 3) := by decide +kernel
theorem dX10_as_30 : decode cX10_as 30 = .ok (.iload_n 2, 1) := by decide +kernel
theorem dX10_as_31 : decode cX10_as 31 = .ok (.aload_n 0, 1) := by decide +kernel
theorem dX10_as_32 : decode cX10_as 32 = .ok (.getfield 13, 3) := by decide +kernel
theorem dX10_as_35 : decode cX10_as 35 = .ok (.iload_n 1, 1) := by decide +kernel
theorem dX10_as_36 : decode cX10_as 36 = .ok (.iaload, 1) := by decide +kernel
theorem dX10_as_37 : decode cX10_as 37 = .ok (.if_icmp .eq 18, 3) := by decide +kernel
theorem dX10_as_40 : decode cX10_as 40 = .ok (.iload_n 2, 1) := by decide +kernel
theorem dX10_as_41 : decode cX10_as 41 = .ok (.iconst 1, 1) := by decide +kernel
theorem dX10_as_42 : decode cX10_as 42 = .ok (.if_icmp .ne 17, 3) := by decide +kernel
theorem dX10_as_45 : decode cX10_as 45 = .ok (.aload_n 0, 1) := by decide +kernel
theorem dX10_as_46 : decode cX10_as 46 = .ok (.getfield 13, 3) := by decide +kernel
theorem dX10_as_49 : decode cX10_as 49 = .ok (.iload_n 1, 1) := by decide +kernel
theorem dX10_as_50 : decode cX10_as 50 = .ok (.iaload, 1) := by decide +kernel
theorem dX10_as_51 : decode cX10_as 51 = .ok (.iconst 4, 1) := by decide +kernel
theorem dX10_as_52 : decode cX10_as 52 = .ok (.if_icmp .ne 7, 3) := by decide +kernel
theorem dX10_as_55 : decode cX10_as 55 = .ok (.iconst 1, 1) := by decide +kernel
theorem dX10_as_56 : decode cX10_as 56 = .ok (.goto 4, 3) := by decide +kernel
theorem dX10_as_59 : decode cX10_as 59 = .ok (.iconst 0, 1) := by decide +kernel
theorem dX10_as_60 : decode cX10_as 60 = .ok (.istore_n 3, 1) := by decide +kernel
theorem dX10_as_61 : decode cX10_as 61 = .ok (.iload_n 3, 1) := by decide +kernel
theorem dX10_as_62 : decode cX10_as 62 = .ok (.ifCond .eq 7, 3) := by decide +kernel
theorem dX10_as_65 : decode cX10_as 65 = .ok (.iload_n 1, 1) := by decide +kernel
theorem dX10_as_66 : decode cX10_as 66 = .ok (.goto 4, 3) := by decide +kernel
theorem dX10_as_69 : decode cX10_as 69 = .ok (.iconst (-1), 1) := by decide +kernel
theorem dX10_as_70 : decode cX10_as 70 = .ok (.ireturn, 1) := by decide +kernel
theorem dX10_wheels_0 : decode cX10_wheels 0 = .ok (.iload_n 1, 1) := by decide +kernel
theorem dX10_wheels_1 : decode cX10_wheels 1 = .ok (.i2l, 1) := by decide +kernel
theorem dX10_wheels_2 : decode cX10_wheels 2 = .ok (.lconst 0, 1) := by decide +kernel
theorem dX10_wheels_3 : decode cX10_wheels 3 = .ok (.ldc2_w 119, 3) := by decide +kernel
theorem dX10_wheels_6 : decode cX10_wheels 6 = .ok (.invokestatic 68, 3) := by decide +kernel
theorem dX10_wheels_9 : decode cX10_wheels 9 = .ok (.ifCond .ne 6, 3) := by decide +kernel
theorem dX10_wheels_12 : decode cX10_wheels 12 = .ok (.bipush (-101), 2) := by decide +kernel
theorem dX10_wheels_14 : decode cX10_wheels 14 = .ok (.ireturn, 1) := by decide +kernel
theorem dX10_wheels_15 : decode cX10_wheels 15 = .ok (.iload_n 2, 1) := by decide +kernel
theorem dX10_wheels_16 : decode cX10_wheels 16 = .ok (.i2l, 1) := by decide +kernel
theorem dX10_wheels_17 : decode cX10_wheels 17 = .ok (.lconst 0, 1) := by decide +kernel
theorem dX10_wheels_18 : decode cX10_wheels 18 = .ok (.ldc2_w 121, 3) := by decide +kernel
theorem dX10_wheels_21 : decode cX10_wheels 21 = .ok (.invokestatic 68, 3) := by decide +kernel
theorem dX10_wheels_24 : decode cX10_wheels 24 = .ok (.ifCond .ne 6, 3) := by decide +kernel
theorem dX10_wheels_27 : decode cX10_wheels 27 = .ok (.bipush (-102), 2) := by decide +kernel
theorem dX10_wheels_29 : decode cX10_wheels 29 = .ok (.ireturn, 1) := by decide +kernel
theorem dX10_wheels_30 : decode cX10_wheels 30 = .ok (.aload_n 0, 1) := by decide +kernel
theorem dX10_wheels_31 : decode cX10_wheels 31 = .ok (.getfield 28, 3) := by decide +kernel
theorem dX10_wheels_34 : decode cX10_wheels 34 = .ok (.iload_n 1, 1) := by decide +kernel
theorem dX10_wheels_35 : decode cX10_wheels 35 = .ok (.iaload, 1) := by decide +kernel
theorem dX10_wheels_36 : decode cX10_wheels 36 = .ok (.istore_n 3, 1) := by decide +kernel
theorem dX10_wheels_37 : decode cX10_wheels 37 = .ok (.aload_n 0, 1) := by decide +kernel
theorem dX10_wheels_38 : decode cX10_wheels 38 = .ok (.getfield 28, 3) := by decide +kernel
theorem dX10_wheels_41 : decode cX10_wheels 41 = .ok (.iload_n 1, 1) := by decide +kernel
theorem dX10_wheels_42 : decode cX10_wheels 42 = .ok (.iload_n 2, 1) := by decide +kernel
theorem dX10_wheels_43 : decode cX10_wheels 43 = .ok (.iastore, 1) := by decide +kernel
theorem dX10_wheels_44 : decode cX10_wheels 44 = .ok (.iload_n 3, 1) := by decide +kernel
theorem dX10_wheels_45 : decode cX10_wheels 45 = .ok (.ireturn, 1) := by decide +kernel
theorem dX10_blockAt_0 : decode cX10_blockAt 0 = .ok (.iconst (-1), 1) := by decide +kernel
theorem dX10_blockAt_1 : decode cX10_blockAt 1 = .ok (.istore_n 2, 1) := by decide +kernel
theorem dX10_blockAt_2 : decode cX10_blockAt 2 = .ok (.iconst 0, 1) := by decide +kernel
theorem dX10_blockAt_3 : decode cX10_blockAt 3 = .ok (.istore_n 3, 1) := by decide +kernel
theorem dX10_blockAt_4 : decode cX10_blockAt 4 = .ok (.iload_n 3, 1) := by decide +kernel
theorem dX10_blockAt_5 : decode cX10_blockAt 5 = .ok (.aload_n 0, 1) := by decide +kernel
theorem dX10_blockAt_6 : decode cX10_blockAt 6 = .ok (.getfield 105, 3) := by decide +kernel
theorem dX10_blockAt_9 : decode cX10_blockAt 9 = .ok (.if_icmp .ge 25, 3) := by decide +kernel
theorem dX10_blockAt_12 : decode cX10_blockAt 12 = .ok (.aload_n 0, 1) := by decide +kernel
theorem dX10_blockAt_13 : decode cX10_blockAt 13 = .ok (.getfield 22, 3) := by decide +kernel
theorem dX10_blockAt_16 : decode cX10_blockAt 16 = .ok (.iload_n 3, 1) := by decide +kernel
theorem dX10_blockAt_17 : decode cX10_blockAt 17 = .ok (.iaload, 1) := by decide +kernel
theorem dX10_blockAt_18 : decode cX10_blockAt 18 = .ok (.iload_n 1, 1) := by decide +kernel
theorem dX10_blockAt_19 : decode cX10_blockAt 19 = .ok (.if_icmp .ne 7, 3) := by decide +kernel
theorem dX10_blockAt_22 : decode cX10_blockAt 22 = .ok (.iload_n 3, 1) := by decide +kernel
theorem dX10_blockAt_23 : decode cX10_blockAt 23 = .ok (.goto 4, 3) := by decide +kernel
theorem dX10_blockAt_26 : decode cX10_blockAt 26 = .ok (.iload_n 2, 1) := by decide +kernel
theorem dX10_blockAt_27 : decode cX10_blockAt 27 = .ok (.istore_n 2, 1) := by decide +kernel
theorem dX10_blockAt_28 : decode cX10_blockAt 28 = .ok (.iinc 3 1, 3) := by decide +kernel
theorem dX10_blockAt_31 : decode cX10_blockAt 31 = .ok (.goto (-27), 3) := by decide +kernel
theorem dX10_blockAt_34 : decode cX10_blockAt 34 = .ok (.iload_n 2, 1) := by decide +kernel
theorem dX10_blockAt_35 : decode cX10_blockAt 35 = .ok (.ireturn, 1) := by decide +kernel
theorem dX10_at_0 : decode cX10_at 0 = .ok (.aload_n 0, 1) := by decide +kernel
theorem dX10_at_1 : decode cX10_at 1 = .ok (.iload_n 1, 1) := by decide +kernel
theorem dX10_at_2 : decode cX10_at 2 = .ok (.invokevirtual 112, 3) := by decide +kernel
theorem dX10_at_5 : decode cX10_at 5 = .ok (.ifCond .eq 11, 3) := by decide +kernel
theorem dX10_at_8 : decode cX10_at 8 = .ok (.aload_n 0, 1) := by decide +kernel
theorem dX10_at_9 : decode cX10_at 9 = .ok (.iload_n 1, 1) := by decide +kernel
theorem dX10_at_10 : decode cX10_at 10 = .ok (.invokevirtual 123, 3) := by decide +kernel
theorem dX10_at_13 : decode cX10_at 13 = .ok (.goto 5, 3) := by decide +kernel
theorem dX10_at_16 : decode cX10_at 16 = .ok (.bipush (-101), 2) := by decide +kernel
theorem dX10_at_18 : decode cX10_at 18 = .ok (.ireturn, 1) := by decide +kernel
theorem dX10_exchange_0 : decode cX10_exchange 0 = .ok (.aload_n 0, 1) := by decide +kernel
theorem dX10_exchange_1 : decode cX10_exchange 1 = .ok (.iload_n 2, 1) := by decide +kernel
theorem dX10_exchange_2 : decode cX10_exchange 2 = .ok (.iaload, 1) := by decide +kernel
theorem dX10_exchange_3 : decode cX10_exchange 3 = .ok (.istore_n 3, 1) := by decide +kernel
theorem dX10_exchange_4 : decode cX10_exchange 4 = .ok (.aload_n 0, 1) := by decide +kernel
theorem dX10_exchange_5 : decode cX10_exchange 5 = .ok (.iload_n 2, 1) := by decide +kernel
theorem dX10_exchange_6 : decode cX10_exchange 6 = .ok (.aload_n 1, 1) := by decide +kernel
theorem dX10_exchange_7 : decode cX10_exchange 7 = .ok (.iload_n 2, 1) := by decide +kernel
theorem dX10_exchange_8 : decode cX10_exchange 8 = .ok (.iaload, 1) := by decide +kernel
theorem dX10_exchange_9 : decode cX10_exchange 9 = .ok (.iastore, 1) := by decide +kernel
theorem dX10_exchange_10 : decode cX10_exchange 10 = .ok (.aload_n 1, 1) := by decide +kernel
theorem dX10_exchange_11 : decode cX10_exchange 11 = .ok (.iload_n 2, 1) := by decide +kernel
theorem dX10_exchange_12 : decode cX10_exchange 12 = .ok (.iload_n 3, 1) := by decide +kernel
theorem dX10_exchange_13 : decode cX10_exchange 13 = .ok (.iastore, 1) := by decide +kernel
theorem dX10_exchange_14 : decode cX10_exchange 14 = .ok (.return_, 1) := by decide +kernel
theorem dX10_turn_0 : decode cX10_turn 0 = .ok (.aload_n 0, 1) := by decide +kernel
theorem dX10_turn_1 : decode cX10_turn 1 = .ok (.iload_n 1, 1) := by decide +kernel
theorem dX10_turn_2 : decode cX10_turn 2 = .ok (.invokevirtual 112, 3) := by decide +kernel
theorem dX10_turn_5 : decode cX10_turn 5 = .ok (.ifCond .ne 6, 3) := by decide +kernel
theorem dX10_turn_8 : decode cX10_turn 8 = .ok (.bipush (-101), 2) := by decide +kernel
theorem dX10_turn_10 : decode cX10_turn 10 = .ok (.ireturn, 1) := by decide +kernel
theorem dX10_turn_11 : decode cX10_turn 11 = .ok (.aload_n 0, 1) := by decide +kernel
theorem dX10_turn_12 : decode cX10_turn 12 = .ok (.getfield 13, 3) := by decide +kernel
theorem dX10_turn_15 : decode cX10_turn 15 = .ok (.iload_n 1, 1) := by decide +kernel
theorem dX10_turn_16 : decode cX10_turn 16 = .ok (.iaload, 1) := by decide +kernel
theorem dX10_turn_17 : decode cX10_turn 17 = .ok (.iconst 4, 1) := by decide +kernel
theorem dX10_turn_18 : decode cX10_turn 18 = .ok (.if_icmp .ne 6, 3) := by decide +kernel
theorem dX10_turn_21 : decode cX10_turn 21 = .ok (.bipush (-103), 2) := by decide +kernel
theorem dX10_turn_23 : decode cX10_turn 23 = .ok (.ireturn, 1) := by decide +kernel
theorem dX10_turn_24 : decode cX10_turn 24 = .ok (.aload_n 0, 1) := by decide +kernel
theorem dX10_turn_25 : decode cX10_turn 25 = .ok (.getfield 16, 3) := by decide +kernel
theorem dX10_turn_28 : decode cX10_turn 28 = .ok (.aload_n 0, 1) := by decide +kernel
theorem dX10_turn_29 : decode cX10_turn 29 = .ok (.getfield 19, 3) := by decide +kernel
theorem dX10_turn_32 : decode cX10_turn 32 = .ok (.iload_n 1, 1) := by decide +kernel
theorem dX10_turn_33 : decode cX10_turn 33 = .ok (.invokestatic 126, 3) := by decide +kernel
theorem dX10_turn_36 : decode cX10_turn 36 = .ok (.aload_n 0, 1) := by decide +kernel
theorem dX10_turn_37 : decode cX10_turn 37 = .ok (.getfield 16, 3) := by decide +kernel
theorem dX10_turn_40 : decode cX10_turn 40 = .ok (.iload_n 1, 1) := by decide +kernel
theorem dX10_turn_41 : decode cX10_turn 41 = .ok (.iaload, 1) := by decide +kernel
theorem dX10_turn_42 : decode cX10_turn 42 = .ok (.ireturn, 1) := by decide +kernel
theorem dX10_thief_0 : decode cX10_thief 0 = .ok (.aload_n 0, 1) := by decide +kernel
theorem dX10_thief_1 : decode cX10_thief 1 = .ok (.iload_n 1, 1) := by decide +kernel
theorem dX10_thief_2 : decode cX10_thief 2 = .ok (.invokevirtual 112, 3) := by decide +kernel
theorem dX10_thief_5 : decode cX10_thief 5 = .ok (.ifCond .ne 6, 3) := by decide +kernel
theorem dX10_thief_8 : decode cX10_thief 8 = .ok (.bipush (-101), 2) := by decide +kernel
theorem dX10_thief_10 : decode cX10_thief 10 = .ok (.ireturn, 1) := by decide +kernel
theorem dX10_thief_11 : decode cX10_thief 11 = .ok (.aload_n 0, 1) := by decide +kernel
theorem dX10_thief_12 : decode cX10_thief 12 = .ok (.getfield 105, 3) := by decide +kernel
theorem dX10_thief_15 : decode cX10_thief 15 = .ok (.iconst 3, 1) := by decide +kernel
theorem dX10_thief_16 : decode cX10_thief 16 = .ok (.if_icmp .ge 6, 3) := by decide +kernel
theorem dX10_thief_19 : decode cX10_thief 19 = .ok (.bipush (-103), 2) := by decide +kernel
theorem dX10_thief_21 : decode cX10_thief 21 = .ok (.ireturn, 1) := by decide +kernel
theorem dX10_thief_22 : decode cX10_thief 22 = .ok (.aload_n 0, 1) := by decide +kernel
theorem dX10_thief_23 : decode cX10_thief 23 = .ok (.getfield 22, 3) := by decide +kernel
theorem dX10_thief_26 : decode cX10_thief 26 = .ok (.iload_n 1, 1) := by decide +kernel
theorem dX10_thief_27 : decode cX10_thief 27 = .ok (.iaload, 1) := by decide +kernel
theorem dX10_thief_28 : decode cX10_thief 28 = .ok (.istore_n 2, 1) := by decide +kernel
theorem dX10_thief_29 : decode cX10_thief 29 = .ok (.iload_n 1, 1) := by decide +kernel
theorem dX10_thief_30 : decode cX10_thief 30 = .ok (.istore_n 3, 1) := by decide +kernel
theorem dX10_thief_31 : decode cX10_thief 31 = .ok (.iload_n 3, 1) := by decide +kernel
theorem dX10_thief_32 : decode cX10_thief 32 = .ok (.aload_n 0, 1) := by decide +kernel
theorem dX10_thief_33 : decode cX10_thief 33 = .ok (.getfield 105, 3) := by decide +kernel
theorem dX10_thief_36 : decode cX10_thief 36 = .ok (.iconst 1, 1) := by decide +kernel
theorem dX10_thief_37 : decode cX10_thief 37 = .ok (.isub, 1) := by decide +kernel
theorem dX10_thief_38 : decode cX10_thief 38 = .ok (.if_icmp .ge 79, 3) := by decide +kernel
theorem dX10_thief_41 : decode cX10_thief 41 = .ok (.aload_n 0, 1) := by decide +kernel
theorem dX10_thief_42 : decode cX10_thief 42 = .ok (.getfield 13, 3) := by decide +kernel
theorem dX10_thief_45 : decode cX10_thief 45 = .ok (.iload_n 3, 1) := by decide +kernel
theorem dX10_thief_46 : decode cX10_thief 46 = .ok (.aload_n 0, 1) := by decide +kernel
theorem dX10_thief_47 : decode cX10_thief 47 = .ok (.getfield 13, 3) := by decide +kernel
theorem dX10_thief_50 : decode cX10_thief 50 = .ok (.iload_n 3, 1) := by decide +kernel
theorem dX10_thief_51 : decode cX10_thief 51 = .ok (.iconst 1, 1) := by decide +kernel
theorem dX10_thief_52 : decode cX10_thief 52 = .ok (.iadd, 1) := by decide +kernel
theorem dX10_thief_53 : decode cX10_thief 53 = .ok (.iaload, 1) := by decide +kernel
theorem dX10_thief_54 : decode cX10_thief 54 = .ok (.iastore, 1) := by decide +kernel
theorem dX10_thief_55 : decode cX10_thief 55 = .ok (.aload_n 0, 1) := by decide +kernel
theorem dX10_thief_56 : decode cX10_thief 56 = .ok (.getfield 16, 3) := by decide +kernel
theorem dX10_thief_59 : decode cX10_thief 59 = .ok (.iload_n 3, 1) := by decide +kernel
theorem dX10_thief_60 : decode cX10_thief 60 = .ok (.aload_n 0, 1) := by decide +kernel
theorem dX10_thief_61 : decode cX10_thief 61 = .ok (.getfield 16, 3) := by decide +kernel
theorem dX10_thief_64 : decode cX10_thief 64 = .ok (.iload_n 3, 1) := by decide +kernel
theorem dX10_thief_65 : decode cX10_thief 65 = .ok (.iconst 1, 1) := by decide +kernel
theorem dX10_thief_66 : decode cX10_thief 66 = .ok (.iadd, 1) := by decide +kernel
theorem dX10_thief_67 : decode cX10_thief 67 = .ok (.iaload, 1) := by decide +kernel
theorem dX10_thief_68 : decode cX10_thief 68 = .ok (.iastore, 1) := by decide +kernel
theorem dX10_thief_69 : decode cX10_thief 69 = .ok (.aload_n 0, 1) := by decide +kernel
theorem dX10_thief_70 : decode cX10_thief 70 = .ok (.getfield 19, 3) := by decide +kernel
theorem dX10_thief_73 : decode cX10_thief 73 = .ok (.iload_n 3, 1) := by decide +kernel
theorem dX10_thief_74 : decode cX10_thief 74 = .ok (.aload_n 0, 1) := by decide +kernel
theorem dX10_thief_75 : decode cX10_thief 75 = .ok (.getfield 19, 3) := by decide +kernel
theorem dX10_thief_78 : decode cX10_thief 78 = .ok (.iload_n 3, 1) := by decide +kernel
theorem dX10_thief_79 : decode cX10_thief 79 = .ok (.iconst 1, 1) := by decide +kernel
theorem dX10_thief_80 : decode cX10_thief 80 = .ok (.iadd, 1) := by decide +kernel
theorem dX10_thief_81 : decode cX10_thief 81 = .ok (.iaload, 1) := by decide +kernel
theorem dX10_thief_82 : decode cX10_thief 82 = .ok (.iastore, 1) := by decide +kernel
theorem dX10_thief_83 : decode cX10_thief 83 = .ok (.aload_n 0, 1) := by decide +kernel
theorem dX10_thief_84 : decode cX10_thief 84 = .ok (.getfield 22, 3) := by decide +kernel
theorem dX10_thief_87 : decode cX10_thief 87 = .ok (.iload_n 3, 1) := by decide +kernel
theorem dX10_thief_88 : decode cX10_thief 88 = .ok (.aload_n 0, 1) := by decide +kernel
theorem dX10_thief_89 : decode cX10_thief 89 = .ok (.getfield 22, 3) := by decide +kernel
theorem dX10_thief_92 : decode cX10_thief 92 = .ok (.iload_n 3, 1) := by decide +kernel
theorem dX10_thief_93 : decode cX10_thief 93 = .ok (.iconst 1, 1) := by decide +kernel
theorem dX10_thief_94 : decode cX10_thief 94 = .ok (.iadd, 1) := by decide +kernel
theorem dX10_thief_95 : decode cX10_thief 95 = .ok (.iaload, 1) := by decide +kernel
theorem dX10_thief_96 : decode cX10_thief 96 = .ok (.iastore, 1) := by decide +kernel
theorem dX10_thief_97 : decode cX10_thief 97 = .ok (.aload_n 0, 1) := by decide +kernel
theorem dX10_thief_98 : decode cX10_thief 98 = .ok (.getfield 25, 3) := by decide +kernel
theorem dX10_thief_101 : decode cX10_thief 101 = .ok (.iload_n 3, 1) := by decide +kernel
theorem dX10_thief_102 : decode cX10_thief 102 = .ok (.aload_n 0, 1) := by decide +kernel
theorem dX10_thief_103 : decode cX10_thief 103 = .ok (.getfield 25, 3) := by decide +kernel
theorem dX10_thief_106 : decode cX10_thief 106 = .ok (.iload_n 3, 1) := by decide +kernel
theorem dX10_thief_107 : decode cX10_thief 107 = .ok (.iconst 1, 1) := by decide +kernel
theorem dX10_thief_108 : decode cX10_thief 108 = .ok (.iadd, 1) := by decide +kernel
theorem dX10_thief_109 : decode cX10_thief 109 = .ok (.iaload, 1) := by decide +kernel
theorem dX10_thief_110 : decode cX10_thief 110 = .ok (.iastore, 1) := by decide +kernel
theorem dX10_thief_111 : decode cX10_thief 111 = .ok (.iinc 3 1, 3) := by decide +kernel
theorem dX10_thief_114 : decode cX10_thief 114 = .ok (.goto (-83), 3) := by decide +kernel
theorem dX10_thief_117 : decode cX10_thief 117 = .ok (.aload_n 0, 1) := by decide +kernel
theorem dX10_thief_118 : decode cX10_thief 118 = .ok (.dup, 1) := by decide +kernel
theorem dX10_thief_119 : decode cX10_thief 119 = .ok (.getfield 105, 3) := by decide +kernel
theorem dX10_thief_122 : decode cX10_thief 122 = .ok (.iconst 1, 1) := by decide +kernel
theorem dX10_thief_123 : decode cX10_thief 123 = .ok (.isub, 1) := by decide +kernel
theorem dX10_thief_124 : decode cX10_thief 124 = .ok (.putfield 105, 3) := by decide +kernel
theorem dX10_thief_127 : decode cX10_thief 127 = .ok (.iconst 0, 1) := by decide +kernel
theorem dX10_thief_128 : decode cX10_thief 128 = .ok (.istore_n 3, 1) := by decide +kernel
theorem dX10_thief_129 : decode cX10_thief 129 = .ok (.iload_n 3, 1) := by decide +kernel
theorem dX10_thief_130 : decode cX10_thief 130 = .ok (.aload_n 0, 1) := by decide +kernel
theorem dX10_thief_131 : decode cX10_thief 131 = .ok (.getfield 105, 3) := by decide +kernel
theorem dX10_thief_134 : decode cX10_thief 134 = .ok (.if_icmp .ge 33, 3) := by decide +kernel
theorem dX10_thief_137 : decode cX10_thief 137 = .ok (.aload_n 0, 1) := by decide +kernel
theorem dX10_thief_138 : decode cX10_thief 138 = .ok (.getfield 22, 3) := by decide +kernel
theorem dX10_thief_141 : decode cX10_thief 141 = .ok (.iload_n 3, 1) := by decide +kernel
theorem dX10_thief_142 : decode cX10_thief 142 = .ok (.dup2, 1) := by decide +kernel
theorem dX10_thief_143 : decode cX10_thief 143 = .ok (.iaload, 1) := by decide +kernel
theorem dX10_thief_144 : decode cX10_thief 144 = .ok (.aload_n 0, 1) := by decide +kernel
theorem dX10_thief_145 : decode cX10_thief 145 = .ok (.getfield 22, 3) := by decide +kernel
theorem dX10_thief_148 : decode cX10_thief 148 = .ok (.iload_n 3, 1) := by decide +kernel
theorem dX10_thief_149 : decode cX10_thief 149 = .ok (.iaload, 1) := by decide +kernel
theorem dX10_thief_150 : decode cX10_thief 150 = .ok (.iload_n 2, 1) := by decide +kernel
theorem dX10_thief_151 : decode cX10_thief 151 = .ok (.if_icmp .le 7, 3) := by decide +kernel
theorem dX10_thief_154 : decode cX10_thief 154 = .ok (.iconst 1, 1) := by decide +kernel
theorem dX10_thief_155 : decode cX10_thief 155 = .ok (.goto 4, 3) := by decide +kernel
theorem dX10_thief_158 : decode cX10_thief 158 = .ok (.iconst 0, 1) := by decide +kernel
theorem dX10_thief_159 : decode cX10_thief 159 = .ok (.isub, 1) := by decide +kernel
theorem dX10_thief_160 : decode cX10_thief 160 = .ok (.iastore, 1) := by decide +kernel
theorem dX10_thief_161 : decode cX10_thief 161 = .ok (.iinc 3 1, 3) := by decide +kernel
theorem dX10_thief_164 : decode cX10_thief 164 = .ok (.goto (-35), 3) := by decide +kernel
theorem dX10_thief_167 : decode cX10_thief 167 = .ok (.aload_n 0, 1) := by decide +kernel
theorem dX10_thief_168 : decode cX10_thief 168 = .ok (.getfield 105, 3) := by decide +kernel
theorem dX10_thief_171 : decode cX10_thief 171 = .ok (.ireturn, 1) := by decide +kernel
theorem dX10_lacks_0 : decode cX10_lacks 0 = .ok (.aload_n 0, 1) := by decide +kernel
theorem dX10_lacks_1 : decode cX10_lacks 1 = .ok (.getfield 105, 3) := by decide +kernel
theorem dX10_lacks_4 : decode cX10_lacks 4 = .ok (.iconst 2, 1) := by decide +kernel
theorem dX10_lacks_5 : decode cX10_lacks 5 = .ok (.if_icmp .ge 7, 3) := by decide +kernel
theorem dX10_lacks_8 : decode cX10_lacks 8 = .ok (.iconst 1, 1) := by decide +kernel
theorem dX10_lacks_9 : decode cX10_lacks 9 = .ok (.goto 4, 3) := by decide +kernel
theorem dX10_lacks_12 : decode cX10_lacks 12 = .ok (.iconst 0, 1) := by decide +kernel
theorem dX10_lacks_13 : decode cX10_lacks 13 = .ok (.ireturn, 1) := by decide +kernel
theorem dX10_readOrder_0 : decode cX10_readOrder 0 = .ok (.iload_n 1, 1) := by decide +kernel
theorem dX10_readOrder_1 : decode cX10_readOrder 1 = .ok (.istore_n 2, 1) := by decide +kernel
theorem dX10_readOrder_2 : decode cX10_readOrder 2 = .ok (.iconst 0, 1) := by decide +kernel
theorem dX10_readOrder_3 : decode cX10_readOrder 3 = .ok (.istore_n 3, 1) := by decide +kernel
theorem dX10_readOrder_4 : decode cX10_readOrder 4 = .ok (.iconst 0, 1) := by decide +kernel
theorem dX10_readOrder_5 : decode cX10_readOrder 5 = .ok (.istore 4, 2) := by decide +kernel
theorem dX10_readOrder_7 : decode cX10_readOrder 7 = .ok (.iload 4, 2) := by decide +kernel
theorem dX10_readOrder_9 : decode cX10_readOrder 9 = .ok (.aload_n 0, 1) := by decide +kernel
theorem dX10_readOrder_10 : decode cX10_readOrder 10 = .ok (.getfield 105, 3) := by decide +kernel
theorem dX10_readOrder_13 : decode cX10_readOrder 13 = .ok (.if_icmp .ge 36, 3) := by decide +kernel
theorem dX10_readOrder_16 : decode cX10_readOrder 16 = .ok (.aload_n 0, 1) := by decide +kernel
theorem dX10_readOrder_17 : decode cX10_readOrder 17 = .ok (.getfield 31, 3) := by decide +kernel
theorem dX10_readOrder_20 : decode cX10_readOrder 20 = .ok (.iload 4, 2) := by decide +kernel
theorem dX10_readOrder_22 : decode cX10_readOrder 22 = .ok (.iload_n 2, 1) := by decide +kernel
theorem dX10_readOrder_23 : decode cX10_readOrder 23 = .ok (.bipush 7, 2) := by decide +kernel
theorem dX10_readOrder_25 : decode cX10_readOrder 25 = .ok (.iand, 1) := by decide +kernel
theorem dX10_readOrder_26 : decode cX10_readOrder 26 = .ok (.iastore, 1) := by decide +kernel
theorem dX10_readOrder_27 : decode cX10_readOrder 27 = .ok (.iload_n 3, 1) := by decide +kernel
theorem dX10_readOrder_28 : decode cX10_readOrder 28 = .ok (.iconst 1, 1) := by decide +kernel
theorem dX10_readOrder_29 : decode cX10_readOrder 29 = .ok (.aload_n 0, 1) := by decide +kernel
theorem dX10_readOrder_30 : decode cX10_readOrder 30 = .ok (.getfield 31, 3) := by decide +kernel
theorem dX10_readOrder_33 : decode cX10_readOrder 33 = .ok (.iload 4, 2) := by decide +kernel
theorem dX10_readOrder_35 : decode cX10_readOrder 35 = .ok (.iaload, 1) := by decide +kernel
theorem dX10_readOrder_36 : decode cX10_readOrder 36 = .ok (.ishl, 1) := by decide +kernel
theorem dX10_readOrder_37 : decode cX10_readOrder 37 = .ok (.ior, 1) := by decide +kernel
theorem dX10_readOrder_38 : decode cX10_readOrder 38 = .ok (.istore_n 3, 1) := by decide +kernel
theorem dX10_readOrder_39 : decode cX10_readOrder 39 = .ok (.iload_n 2, 1) := by decide +kernel
theorem dX10_readOrder_40 : decode cX10_readOrder 40 = .ok (.iconst 3, 1) := by decide +kernel
theorem dX10_readOrder_41 : decode cX10_readOrder 41 = .ok (.ishr, 1) := by decide +kernel
theorem dX10_readOrder_42 : decode cX10_readOrder 42 = .ok (.istore_n 2, 1) := by decide +kernel
theorem dX10_readOrder_43 : decode cX10_readOrder 43 = .ok (.iinc 4 1, 3) := by decide +kernel
theorem dX10_readOrder_46 : decode cX10_readOrder 46 = .ok (.goto (-39), 3) := by decide +kernel
theorem dX10_readOrder_49 : decode cX10_readOrder 49 = .ok (.iload_n 1, 1) := by decide +kernel
theorem dX10_readOrder_50 : decode cX10_readOrder 50 = .ok (.ifCond .lt 23, 3) := by decide +kernel
theorem dX10_readOrder_53 : decode cX10_readOrder 53 = .ok (.iload_n 2, 1) := by decide +kernel
theorem dX10_readOrder_54 : decode cX10_readOrder 54 = .ok (.ifCond .ne 19, 3) := by decide +kernel
theorem dX10_readOrder_57 : decode cX10_readOrder 57 = .ok (.iload_n 3, 1) := by decide +kernel
theorem dX10_readOrder_58 : decode cX10_readOrder 58 = .ok (.iconst 1, 1) := by decide +kernel
theorem dX10_readOrder_59 : decode cX10_readOrder 59 = .ok (.aload_n 0, 1) := by decide +kernel
theorem dX10_readOrder_60 : decode cX10_readOrder 60 = .ok (.getfield 105, 3) := by decide +kernel
theorem dX10_readOrder_63 : decode cX10_readOrder 63 = .ok (.ishl, 1) := by decide +kernel
theorem dX10_readOrder_64 : decode cX10_readOrder 64 = .ok (.iconst 1, 1) := by decide +kernel
theorem dX10_readOrder_65 : decode cX10_readOrder 65 = .ok (.isub, 1) := by decide +kernel
theorem dX10_readOrder_66 : decode cX10_readOrder 66 = .ok (.if_icmp .ne 7, 3) := by decide +kernel
theorem dX10_readOrder_69 : decode cX10_readOrder 69 = .ok (.iconst 1, 1) := by decide +kernel
theorem dX10_readOrder_70 : decode cX10_readOrder 70 = .ok (.goto 4, 3) := by decide +kernel
theorem dX10_readOrder_73 : decode cX10_readOrder 73 = .ok (.iconst 0, 1) := by decide +kernel
theorem dX10_readOrder_74 : decode cX10_readOrder 74 = .ok (.ireturn, 1) := by decide +kernel
theorem dX10_numberOf_0 : decode cX10_numberOf 0 = .ok (.iconst 0, 1) := by decide +kernel
theorem dX10_numberOf_1 : decode cX10_numberOf 1 = .ok (.istore_n 1, 1) := by decide +kernel
theorem dX10_numberOf_2 : decode cX10_numberOf 2 = .ok (.aload_n 0, 1) := by decide +kernel
theorem dX10_numberOf_3 : decode cX10_numberOf 3 = .ok (.getfield 105, 3) := by decide +kernel
theorem dX10_numberOf_6 : decode cX10_numberOf 6 = .ok (.iconst 1, 1) := by decide +kernel
theorem dX10_numberOf_7 : decode cX10_numberOf 7 = .ok (.isub, 1) := by decide +kernel
theorem dX10_numberOf_8 : decode cX10_numberOf 8 = .ok (.istore_n 2, 1) := by decide +kernel
theorem dX10_numberOf_9 : decode cX10_numberOf 9 = .ok (.iload_n 2, 1) := by decide +kernel
theorem dX10_numberOf_10 : decode cX10_numberOf 10 = .ok (.ifCond .lt 21, 3) := by decide +kernel
theorem dX10_numberOf_13 : decode cX10_numberOf 13 = .ok (.bipush 8, 2) := by decide +kernel
theorem dX10_numberOf_15 : decode cX10_numberOf 15 = .ok (.iload_n 1, 1) := by decide +kernel
theorem dX10_numberOf_16 : decode cX10_numberOf 16 = .ok (.imul, 1) := by decide +kernel
theorem dX10_numberOf_17 : decode cX10_numberOf 17 = .ok (.aload_n 0, 1) := by decide +kernel
theorem dX10_numberOf_18 : decode cX10_numberOf 18 = .ok (.getfield 31, 3) := by decide +kernel
theorem dX10_numberOf_21 : decode cX10_numberOf 21 = .ok (.iload_n 2, 1) := by decide +kernel
theorem dX10_numberOf_22 : decode cX10_numberOf 22 = .ok (.iaload, 1) := by decide +kernel
theorem dX10_numberOf_23 : decode cX10_numberOf 23 = .ok (.iadd, 1) := by decide +kernel
theorem dX10_numberOf_24 : decode cX10_numberOf 24 = .ok (.istore_n 1, 1) := by decide +kernel
theorem dX10_numberOf_25 : decode cX10_numberOf 25 = .ok (.iinc 2 (-1), 3) := by decide +kernel
theorem dX10_numberOf_28 : decode cX10_numberOf 28 = .ok (.goto (-19), 3) := by decide +kernel
theorem dX10_numberOf_31 : decode cX10_numberOf 31 = .ok (.iload_n 1, 1) := by decide +kernel
theorem dX10_numberOf_32 : decode cX10_numberOf 32 = .ok (.ireturn, 1) := by decide +kernel
theorem dX10_firstOrder_0 : decode cX10_firstOrder 0 = .ok (.iconst 0, 1) := by decide +kernel
theorem dX10_firstOrder_1 : decode cX10_firstOrder 1 = .ok (.istore_n 1, 1) := by decide +kernel
theorem dX10_firstOrder_2 : decode cX10_firstOrder 2 = .ok (.iload_n 1, 1) := by decide +kernel
theorem dX10_firstOrder_3 : decode cX10_firstOrder 3 = .ok (.aload_n 0, 1) := by decide +kernel
theorem dX10_firstOrder_4 : decode cX10_firstOrder 4 = .ok (.getfield 105, 3) := by decide +kernel
theorem dX10_firstOrder_7 : decode cX10_firstOrder 7 = .ok (.if_icmp .ge 16, 3) := by decide +kernel
theorem dX10_firstOrder_10 : decode cX10_firstOrder 10 = .ok (.aload_n 0, 1) := by decide +kernel
theorem dX10_firstOrder_11 : decode cX10_firstOrder 11 = .ok (.getfield 31, 3) := by decide +kernel
theorem dX10_firstOrder_14 : decode cX10_firstOrder 14 = .ok (.iload_n 1, 1) := by decide +kernel
theorem dX10_firstOrder_15 : decode cX10_firstOrder 15 = .ok (.iload_n 1, 1) := by decide +kernel
theorem dX10_firstOrder_16 : decode cX10_firstOrder 16 = .ok (.iastore, 1) := by decide +kernel
theorem dX10_firstOrder_17 : decode cX10_firstOrder 17 = .ok (.iinc 1 1, 3) := by decide +kernel
theorem dX10_firstOrder_20 : decode cX10_firstOrder 20 = .ok (.goto (-18), 3) := by decide +kernel
theorem dX10_firstOrder_23 : decode cX10_firstOrder 23 = .ok (.return_, 1) := by decide +kernel
theorem dX10_nextOrder_0 : decode cX10_nextOrder 0 = .ok (.aload_n 0, 1) := by decide +kernel
theorem dX10_nextOrder_1 : decode cX10_nextOrder 1 = .ok (.getfield 105, 3) := by decide +kernel
theorem dX10_nextOrder_4 : decode cX10_nextOrder 4 = .ok (.iconst 2, 1) := by decide +kernel
theorem dX10_nextOrder_5 : decode cX10_nextOrder 5 = .ok (.isub, 1) := by decide +kernel
theorem dX10_nextOrder_6 : decode cX10_nextOrder 6 = .ok (.istore_n 1, 1) := by decide +kernel
theorem dX10_nextOrder_7 : decode cX10_nextOrder 7 = .ok (.iload_n 1, 1) := by decide +kernel
theorem dX10_nextOrder_8 : decode cX10_nextOrder 8 = .ok (.ifCond .lt 26, 3) := by decide +kernel
theorem dX10_nextOrder_11 : decode cX10_nextOrder 11 = .ok (.aload_n 0, 1) := by decide +kernel
theorem dX10_nextOrder_12 : decode cX10_nextOrder 12 = .ok (.getfield 31, 3) := by decide +kernel
theorem dX10_nextOrder_15 : decode cX10_nextOrder 15 = .ok (.iload_n 1, 1) := by decide +kernel
theorem dX10_nextOrder_16 : decode cX10_nextOrder 16 = .ok (.iaload, 1) := by decide +kernel
theorem dX10_nextOrder_17 : decode cX10_nextOrder 17 = .ok (.aload_n 0, 1) := by decide +kernel
theorem dX10_nextOrder_18 : decode cX10_nextOrder 18 = .ok (.getfield 31, 3) := by decide +kernel
theorem dX10_nextOrder_21 : decode cX10_nextOrder 21 = .ok (.iload_n 1, 1) := by decide +kernel
theorem dX10_nextOrder_22 : decode cX10_nextOrder 22 = .ok (.iconst 1, 1) := by decide +kernel
theorem dX10_nextOrder_23 : decode cX10_nextOrder 23 = .ok (.iadd, 1) := by decide +kernel
theorem dX10_nextOrder_24 : decode cX10_nextOrder 24 = .ok (.iaload, 1) := by decide +kernel
theorem dX10_nextOrder_25 : decode cX10_nextOrder 25 = .ok (.if_icmp .le 9, 3) := by decide +kernel
theorem dX10_nextOrder_28 : decode cX10_nextOrder 28 = .ok (.iinc 1 (-1), 3) := by decide +kernel
theorem dX10_nextOrder_31 : decode cX10_nextOrder 31 = .ok (.goto (-24), 3) := by decide +kernel
theorem dX10_nextOrder_34 : decode cX10_nextOrder 34 = .ok (.iload_n 1, 1) := by decide +kernel
theorem dX10_nextOrder_35 : decode cX10_nextOrder 35 = .ok (.ifCond .ge 5, 3) := by decide +kernel
theorem dX10_nextOrder_38 : decode cX10_nextOrder 38 = .ok (.iconst 0, 1) := by decide +kernel
theorem dX10_nextOrder_39 : decode cX10_nextOrder 39 = .ok (.ireturn, 1) := by decide +kernel
theorem dX10_nextOrder_40 : decode cX10_nextOrder 40 = .ok (.aload_n 0, 1) := by decide +kernel
theorem dX10_nextOrder_41 : decode cX10_nextOrder 41 = .ok (.getfield 105, 3) := by decide +kernel
theorem dX10_nextOrder_44 : decode cX10_nextOrder 44 = .ok (.iconst 1, 1) := by decide +kernel
theorem dX10_nextOrder_45 : decode cX10_nextOrder 45 = .ok (.isub, 1) := by decide +kernel
theorem dX10_nextOrder_46 : decode cX10_nextOrder 46 = .ok (.istore_n 2, 1) := by decide +kernel
theorem dX10_nextOrder_47 : decode cX10_nextOrder 47 = .ok (.aload_n 0, 1) := by decide +kernel
theorem dX10_nextOrder_48 : decode cX10_nextOrder 48 = .ok (.getfield 31, 3) := by decide +kernel
theorem dX10_nextOrder_51 : decode cX10_nextOrder 51 = .ok (.iload_n 2, 1) := by decide +kernel
theorem dX10_nextOrder_52 : decode cX10_nextOrder 52 = .ok (.iaload, 1) := by decide +kernel
theorem dX10_nextOrder_53 : decode cX10_nextOrder 53 = .ok (.aload_n 0, 1) := by decide +kernel
theorem dX10_nextOrder_54 : decode cX10_nextOrder 54 = .ok (.getfield 31, 3) := by decide +kernel
theorem dX10_nextOrder_57 : decode cX10_nextOrder 57 = .ok (.iload_n 1, 1) := by decide +kernel
theorem dX10_nextOrder_58 : decode cX10_nextOrder 58 = .ok (.iaload, 1) := by decide +kernel
theorem dX10_nextOrder_59 : decode cX10_nextOrder 59 = .ok (.if_icmp .ge 9, 3) := by decide +kernel
theorem dX10_nextOrder_62 : decode cX10_nextOrder 62 = .ok (.iinc 2 (-1), 3) := by decide +kernel
theorem dX10_nextOrder_65 : decode cX10_nextOrder 65 = .ok (.goto (-18), 3) := by decide +kernel
theorem dX10_nextOrder_68 : decode cX10_nextOrder 68 = .ok (.aload_n 0, 1) := by decide +kernel
theorem dX10_nextOrder_69 : decode cX10_nextOrder 69 = .ok (.getfield 31, 3) := by decide +kernel
theorem dX10_nextOrder_72 : decode cX10_nextOrder 72 = .ok (.iload_n 1, 1) := by decide +kernel
theorem dX10_nextOrder_73 : decode cX10_nextOrder 73 = .ok (.iaload, 1) := by decide +kernel
theorem dX10_nextOrder_74 : decode cX10_nextOrder 74 = .ok (.istore_n 3, 1) := by decide +kernel
theorem dX10_nextOrder_75 : decode cX10_nextOrder 75 = .ok (.aload_n 0, 1) := by decide +kernel
theorem dX10_nextOrder_76 : decode cX10_nextOrder 76 = .ok (.getfield 31, 3) := by decide +kernel
theorem dX10_nextOrder_79 : decode cX10_nextOrder 79 = .ok (.iload_n 1, 1) := by decide +kernel
theorem dX10_nextOrder_80 : decode cX10_nextOrder 80 = .ok (.aload_n 0, 1) := by decide +kernel
theorem dX10_nextOrder_81 : decode cX10_nextOrder 81 = .ok (.getfield 31, 3) := by decide +kernel
theorem dX10_nextOrder_84 : decode cX10_nextOrder 84 = .ok (.iload_n 2, 1) := by decide +kernel
theorem dX10_nextOrder_85 : decode cX10_nextOrder 85 = .ok (.iaload, 1) := by decide +kernel
theorem dX10_nextOrder_86 : decode cX10_nextOrder 86 = .ok (.iastore, 1) := by decide +kernel
theorem dX10_nextOrder_87 : decode cX10_nextOrder 87 = .ok (.aload_n 0, 1) := by decide +kernel
theorem dX10_nextOrder_88 : decode cX10_nextOrder 88 = .ok (.getfield 31, 3) := by decide +kernel
theorem dX10_nextOrder_91 : decode cX10_nextOrder 91 = .ok (.iload_n 2, 1) := by decide +kernel
theorem dX10_nextOrder_92 : decode cX10_nextOrder 92 = .ok (.iload_n 3, 1) := by decide +kernel
theorem dX10_nextOrder_93 : decode cX10_nextOrder 93 = .ok (.iastore, 1) := by decide +kernel
theorem dX10_nextOrder_94 : decode cX10_nextOrder 94 = .ok (.aload_n 0, 1) := by decide +kernel
theorem dX10_nextOrder_95 : decode cX10_nextOrder 95 = .ok (.getfield 105, 3) := by decide +kernel
theorem dX10_nextOrder_98 : decode cX10_nextOrder 98 = .ok (.iconst 1, 1) := by decide +kernel
theorem dX10_nextOrder_99 : decode cX10_nextOrder 99 = .ok (.isub, 1) := by decide +kernel
theorem dX10_nextOrder_100 : decode cX10_nextOrder 100 = .ok (.istore 4, 2) := by decide +kernel
theorem dX10_nextOrder_102 : decode cX10_nextOrder 102 = .ok (.iload_n 1, 1) := by decide +kernel
theorem dX10_nextOrder_103 : decode cX10_nextOrder 103 = .ok (.iconst 1, 1) := by decide +kernel
theorem dX10_nextOrder_104 : decode cX10_nextOrder 104 = .ok (.iadd, 1) := by decide +kernel
theorem dX10_nextOrder_105 : decode cX10_nextOrder 105 = .ok (.istore 5, 2) := by decide +kernel
theorem dX10_nextOrder_107 : decode cX10_nextOrder 107 = .ok (.iload 5, 2) := by decide +kernel
theorem dX10_nextOrder_109 : decode cX10_nextOrder 109 = .ok (.iload 4, 2) := by decide +kernel
theorem dX10_nextOrder_111 : decode cX10_nextOrder 111 = .ok (.if_icmp .ge 42, 3) := by decide +kernel
theorem dX10_nextOrder_114 : decode cX10_nextOrder 114 = .ok (.aload_n 0, 1) := by decide +kernel
theorem dX10_nextOrder_115 : decode cX10_nextOrder 115 = .ok (.getfield 31, 3) := by decide +kernel
theorem dX10_nextOrder_118 : decode cX10_nextOrder 118 = .ok (.iload 5, 2) := by decide +kernel
theorem dX10_nextOrder_120 : decode cX10_nextOrder 120 = .ok (.iaload, 1) := by decide +kernel
theorem dX10_nextOrder_121 : decode cX10_nextOrder 121 = .ok (.istore_n 3, 1) := by decide +kernel
theorem dX10_nextOrder_122 : decode cX10_nextOrder 122 = .ok (.aload_n 0, 1) := by decide +kernel
theorem dX10_nextOrder_123 : decode cX10_nextOrder 123 = .ok (.getfield 31, 3) := by decide +kernel
theorem dX10_nextOrder_126 : decode cX10_nextOrder 126 = .ok (.iload 5, 2) := by decide +kernel
theorem dX10_nextOrder_128 : decode cX10_nextOrder 128 = .ok (.aload_n 0, 1) := by decide +kernel
theorem dX10_nextOrder_129 : decode cX10_nextOrder 129 = .ok (.getfield 31, 3) := by decide +kernel
theorem dX10_nextOrder_132 : decode cX10_nextOrder 132 = .ok (.iload 4, 2) := by decide +kernel
theorem dX10_nextOrder_134 : decode cX10_nextOrder 134 = .ok (.iaload, 1) := by decide +kernel
theorem dX10_nextOrder_135 : decode cX10_nextOrder 135 = .ok (.iastore, 1) := by decide +kernel
theorem dX10_nextOrder_136 : decode cX10_nextOrder 136 = .ok (.aload_n 0, 1) := by decide +kernel
theorem dX10_nextOrder_137 : decode cX10_nextOrder 137 = .ok (.getfield 31, 3) := by decide +kernel
theorem dX10_nextOrder_140 : decode cX10_nextOrder 140 = .ok (.iload 4, 2) := by decide +kernel
theorem dX10_nextOrder_142 : decode cX10_nextOrder 142 = .ok (.iload_n 3, 1) := by decide +kernel
theorem dX10_nextOrder_143 : decode cX10_nextOrder 143 = .ok (.iastore, 1) := by decide +kernel
theorem dX10_nextOrder_144 : decode cX10_nextOrder 144 = .ok (.iinc 4 (-1), 3) := by decide +kernel
theorem dX10_nextOrder_147 : decode cX10_nextOrder 147 = .ok (.iinc 5 1, 3) := by decide +kernel
theorem dX10_nextOrder_150 : decode cX10_nextOrder 150 = .ok (.goto (-43), 3) := by decide +kernel
theorem dX10_nextOrder_153 : decode cX10_nextOrder 153 = .ok (.iconst 1, 1) := by decide +kernel
theorem dX10_nextOrder_154 : decode cX10_nextOrder 154 = .ok (.ireturn, 1) := by decide +kernel
theorem dX10_size_0 : decode cX10_size 0 = .ok (.iload_n 0, 1) := by decide +kernel
theorem dX10_size_1 : decode cX10_size 1 = .ok (.ifCond .ge 8, 3) := by decide +kernel
theorem dX10_size_4 : decode cX10_size 4 = .ok (.iload_n 0, 1) := by decide +kernel
theorem dX10_size_5 : decode cX10_size 5 = .ok (.ineg, 1) := by decide +kernel
theorem dX10_size_6 : decode cX10_size 6 = .ok (.goto 4, 3) := by decide +kernel
theorem dX10_size_9 : decode cX10_size 9 = .ok (.iload_n 0, 1) := by decide +kernel
theorem dX10_size_10 : decode cX10_size 10 = .ok (.ireturn, 1) := by decide +kernel
theorem dX10_isLawful_0 : decode cX10_isLawful 0 = .ok (.iconst 1, 1) := by decide +kernel
theorem dX10_isLawful_1 : decode cX10_isLawful 1 = .ok (.istore_n 2, 1) := by decide +kernel
theorem dX10_isLawful_2 : decode cX10_isLawful 2 = .ok (.iconst 0, 1) := by decide +kernel
theorem dX10_isLawful_3 : decode cX10_isLawful 3 = .ok (.istore_n 3, 1) := by decide +kernel
theorem dX10_isLawful_4 : decode cX10_isLawful 4 = .ok (.iload_n 3, 1) := by decide +kernel
theorem dX10_isLawful_5 : decode cX10_isLawful 5 = .ok (.aload_n 0, 1) := by decide +kernel
theorem dX10_isLawful_6 : decode cX10_isLawful 6 = .ok (.getfield 105, 3) := by decide +kernel
theorem dX10_isLawful_9 : decode cX10_isLawful 9 = .ok (.if_icmp .ge 160, 3) := by decide +kernel
theorem dX10_isLawful_12 : decode cX10_isLawful 12 = .ok (.iload_n 3, 1) := by decide +kernel
theorem dX10_isLawful_13 : decode cX10_isLawful 13 = .ok (.ifCond .le 24, 3) := by decide +kernel
theorem dX10_isLawful_16 : decode cX10_isLawful 16 = .ok (.aload_n 0, 1) := by decide +kernel
theorem dX10_isLawful_17 : decode cX10_isLawful 17 = .ok (.getfield 13, 3) := by decide +kernel
theorem dX10_isLawful_20 : decode cX10_isLawful 20 = .ok (.aload_n 0, 1) := by decide +kernel
theorem dX10_isLawful_21 : decode cX10_isLawful 21 = .ok (.getfield 31, 3) := by decide +kernel
theorem dX10_isLawful_24 : decode cX10_isLawful 24 = .ok (.iload_n 3, 1) := by decide +kernel
theorem dX10_isLawful_25 : decode cX10_isLawful 25 = .ok (.iconst 1, 1) := by decide +kernel
theorem dX10_isLawful_26 : decode cX10_isLawful 26 = .ok (.isub, 1) := by decide +kernel
theorem dX10_isLawful_27 : decode cX10_isLawful 27 = .ok (.iaload, 1) := by decide +kernel
theorem dX10_isLawful_28 : decode cX10_isLawful 28 = .ok (.iaload, 1) := by decide +kernel
theorem dX10_isLawful_29 : decode cX10_isLawful 29 = .ok (.iconst 3, 1) := by decide +kernel
theorem dX10_isLawful_30 : decode cX10_isLawful 30 = .ok (.if_icmp .ne 7, 3) := by decide +kernel
theorem dX10_isLawful_33 : decode cX10_isLawful 33 = .ok (.iconst 1, 1) := by decide +kernel
theorem dX10_isLawful_34 : decode cX10_isLawful 34 = .ok (.goto 4, 3) := by decide +kernel
theorem dX10_isLawful_37 : decode cX10_isLawful 37 = .ok (.iconst 0, 1) := by decide +kernel
theorem dX10_isLawful_38 : decode cX10_isLawful 38 = .ok (.istore 4, 2) := by decide +kernel
theorem dX10_isLawful_40 : decode cX10_isLawful 40 = .ok (.iload_n 3, 1) := by decide +kernel
theorem dX10_isLawful_41 : decode cX10_isLawful 41 = .ok (.aload_n 0, 1) := by decide +kernel
theorem dX10_isLawful_42 : decode cX10_isLawful 42 = .ok (.getfield 105, 3) := by decide +kernel
theorem dX10_isLawful_45 : decode cX10_isLawful 45 = .ok (.iconst 1, 1) := by decide +kernel
theorem dX10_isLawful_46 : decode cX10_isLawful 46 = .ok (.isub, 1) := by decide +kernel
theorem dX10_isLawful_47 : decode cX10_isLawful 47 = .ok (.if_icmp .ge 24, 3) := by decide +kernel
theorem dX10_isLawful_50 : decode cX10_isLawful 50 = .ok (.aload_n 0, 1) := by decide +kernel
theorem dX10_isLawful_51 : decode cX10_isLawful 51 = .ok (.getfield 13, 3) := by decide +kernel
theorem dX10_isLawful_54 : decode cX10_isLawful 54 = .ok (.aload_n 0, 1) := by decide +kernel
theorem dX10_isLawful_55 : decode cX10_isLawful 55 = .ok (.getfield 31, 3) := by decide +kernel
theorem dX10_isLawful_58 : decode cX10_isLawful 58 = .ok (.iload_n 3, 1) := by decide +kernel
theorem dX10_isLawful_59 : decode cX10_isLawful 59 = .ok (.iconst 1, 1) := by decide +kernel
theorem dX10_isLawful_60 : decode cX10_isLawful 60 = .ok (.iadd, 1) := by decide +kernel
theorem dX10_isLawful_61 : decode cX10_isLawful 61 = .ok (.iaload, 1) := by decide +kernel
theorem dX10_isLawful_62 : decode cX10_isLawful 62 = .ok (.iaload, 1) := by decide +kernel
theorem dX10_isLawful_63 : decode cX10_isLawful 63 = .ok (.iconst 3, 1) := by decide +kernel
theorem dX10_isLawful_64 : decode cX10_isLawful 64 = .ok (.if_icmp .ne 7, 3) := by decide +kernel
theorem dX10_isLawful_67 : decode cX10_isLawful 67 = .ok (.iconst 1, 1) := by decide +kernel
theorem dX10_isLawful_68 : decode cX10_isLawful 68 = .ok (.goto 4, 3) := by decide +kernel
theorem dX10_isLawful_71 : decode cX10_isLawful 71 = .ok (.iconst 0, 1) := by decide +kernel
theorem dX10_isLawful_72 : decode cX10_isLawful 72 = .ok (.istore 5, 2) := by decide +kernel
theorem dX10_isLawful_74 : decode cX10_isLawful 74 = .ok (.iload_n 2, 1) := by decide +kernel
theorem dX10_isLawful_75 : decode cX10_isLawful 75 = .ok (.ifCond .eq 39, 3) := by decide +kernel
theorem dX10_isLawful_78 : decode cX10_isLawful 78 = .ok (.aload_n 0, 1) := by decide +kernel
theorem dX10_isLawful_79 : decode cX10_isLawful 79 = .ok (.getfield 95, 3) := by decide +kernel
theorem dX10_isLawful_82 : decode cX10_isLawful 82 = .ok (.ifCond .eq 28, 3) := by decide +kernel
theorem dX10_isLawful_85 : decode cX10_isLawful 85 = .ok (.aload_n 0, 1) := by decide +kernel
theorem dX10_isLawful_86 : decode cX10_isLawful 86 = .ok (.getfield 13, 3) := by decide +kernel
theorem dX10_isLawful_89 : decode cX10_isLawful 89 = .ok (.aload_n 0, 1) := by decide +kernel
theorem dX10_isLawful_90 : decode cX10_isLawful 90 = .ok (.getfield 31, 3) := by decide +kernel
theorem dX10_isLawful_93 : decode cX10_isLawful 93 = .ok (.iload_n 3, 1) := by decide +kernel
theorem dX10_isLawful_94 : decode cX10_isLawful 94 = .ok (.iaload, 1) := by decide +kernel
theorem dX10_isLawful_95 : decode cX10_isLawful 95 = .ok (.iaload, 1) := by decide +kernel
theorem dX10_isLawful_96 : decode cX10_isLawful 96 = .ok (.iconst 3, 1) := by decide +kernel
theorem dX10_isLawful_97 : decode cX10_isLawful 97 = .ok (.if_icmp .ne 13, 3) := by decide +kernel
theorem dX10_isLawful_100 : decode cX10_isLawful 100 = .ok (.iload 4, 2) := by decide +kernel
theorem dX10_isLawful_102 : decode cX10_isLawful 102 = .ok (.ifCond .ne 8, 3) := by decide +kernel
theorem dX10_isLawful_105 : decode cX10_isLawful 105 = .ok (.iload 5, 2) := by decide +kernel
theorem dX10_isLawful_107 : decode cX10_isLawful 107 = .ok (.ifCond .eq 7, 3) := by decide +kernel
theorem dX10_isLawful_110 : decode cX10_isLawful 110 = .ok (.iconst 1, 1) := by decide +kernel
theorem dX10_isLawful_111 : decode cX10_isLawful 111 = .ok (.goto 4, 3) := by decide +kernel
theorem dX10_isLawful_114 : decode cX10_isLawful 114 = .ok (.iconst 0, 1) := by decide +kernel
theorem dX10_isLawful_115 : decode cX10_isLawful 115 = .ok (.istore_n 2, 1) := by decide +kernel
theorem dX10_isLawful_116 : decode cX10_isLawful 116 = .ok (.iload_n 2, 1) := by decide +kernel
theorem dX10_isLawful_117 : decode cX10_isLawful 117 = .ok (.ifCond .eq 44, 3) := by decide +kernel
theorem dX10_isLawful_120 : decode cX10_isLawful 120 = .ok (.aload_n 0, 1) := by decide +kernel
theorem dX10_isLawful_121 : decode cX10_isLawful 121 = .ok (.getfield 89, 3) := by decide +kernel
theorem dX10_isLawful_124 : decode cX10_isLawful 124 = .ok (.ifCond .eq 33, 3) := by decide +kernel
theorem dX10_isLawful_127 : decode cX10_isLawful 127 = .ok (.iload_n 3, 1) := by decide +kernel
theorem dX10_isLawful_128 : decode cX10_isLawful 128 = .ok (.ifCond .eq 29, 3) := by decide +kernel
theorem dX10_isLawful_131 : decode cX10_isLawful 131 = .ok (.aload_n 1, 1) := by decide +kernel
theorem dX10_isLawful_132 : decode cX10_isLawful 132 = .ok (.aload_n 0, 1) := by decide +kernel
theorem dX10_isLawful_133 : decode cX10_isLawful 133 = .ok (.getfield 31, 3) := by decide +kernel
theorem dX10_isLawful_136 : decode cX10_isLawful 136 = .ok (.iload_n 3, 1) := by decide +kernel
theorem dX10_isLawful_137 : decode cX10_isLawful 137 = .ok (.iaload, 1) := by decide +kernel
theorem dX10_isLawful_138 : decode cX10_isLawful 138 = .ok (.iaload, 1) := by decide +kernel
theorem dX10_isLawful_139 : decode cX10_isLawful 139 = .ok (.aload_n 1, 1) := by decide +kernel
theorem dX10_isLawful_140 : decode cX10_isLawful 140 = .ok (.aload_n 0, 1) := by decide +kernel
theorem dX10_isLawful_141 : decode cX10_isLawful 141 = .ok (.getfield 31, 3) := by decide +kernel
theorem dX10_isLawful_144 : decode cX10_isLawful 144 = .ok (.iload_n 3, 1) := by decide +kernel
theorem dX10_isLawful_145 : decode cX10_isLawful 145 = .ok (.iconst 1, 1) := by decide +kernel
theorem dX10_isLawful_146 : decode cX10_isLawful 146 = .ok (.isub, 1) := by decide +kernel
theorem dX10_isLawful_147 : decode cX10_isLawful 147 = .ok (.iaload, 1) := by decide +kernel
theorem dX10_isLawful_148 : decode cX10_isLawful 148 = .ok (.iaload, 1) := by decide +kernel
theorem dX10_isLawful_149 : decode cX10_isLawful 149 = .ok (.isub, 1) := by decide +kernel
theorem dX10_isLawful_150 : decode cX10_isLawful 150 = .ok (.invokestatic 130, 3) := by decide +kernel
theorem dX10_isLawful_153 : decode cX10_isLawful 153 = .ok (.iconst 1, 1) := by decide +kernel
theorem dX10_isLawful_154 : decode cX10_isLawful 154 = .ok (.if_icmp .eq 7, 3) := by decide +kernel
theorem dX10_isLawful_157 : decode cX10_isLawful 157 = .ok (.iconst 1, 1) := by decide +kernel
theorem dX10_isLawful_158 : decode cX10_isLawful 158 = .ok (.goto 4, 3) := by decide +kernel
theorem dX10_isLawful_161 : decode cX10_isLawful 161 = .ok (.iconst 0, 1) := by decide +kernel
theorem dX10_isLawful_162 : decode cX10_isLawful 162 = .ok (.istore_n 2, 1) := by decide +kernel
theorem dX10_isLawful_163 : decode cX10_isLawful 163 = .ok (.iinc 3 1, 3) := by decide +kernel
theorem dX10_isLawful_166 : decode cX10_isLawful 166 = .ok (.goto (-162), 3) := by decide +kernel
theorem dX10_isLawful_169 : decode cX10_isLawful 169 = .ok (.iload_n 2, 1) := by decide +kernel
theorem dX10_isLawful_170 : decode cX10_isLawful 170 = .ok (.ireturn, 1) := by decide +kernel
theorem dX10_worn_0 : decode cX10_worn 0 = .ok (.iload_n 0, 1) := by decide +kernel
theorem dX10_worn_1 : decode cX10_worn 1 = .ok (.iconst 1, 1) := by decide +kernel
theorem dX10_worn_2 : decode cX10_worn 2 = .ok (.if_icmp .eq 8, 3) := by decide +kernel
theorem dX10_worn_5 : decode cX10_worn 5 = .ok (.iload_n 0, 1) := by decide +kernel
theorem dX10_worn_6 : decode cX10_worn 6 = .ok (.iconst 4, 1) := by decide +kernel
theorem dX10_worn_7 : decode cX10_worn 7 = .ok (.if_icmp .ne 11, 3) := by decide +kernel
theorem dX10_worn_10 : decode cX10_worn 10 = .ok (.iload_n 2, 1) := by decide +kernel
theorem dX10_worn_11 : decode cX10_worn 11 = .ok (.iconst 1, 1) := by decide +kernel
theorem dX10_worn_12 : decode cX10_worn 12 = .ok (.iadd, 1) := by decide +kernel
theorem dX10_worn_13 : decode cX10_worn 13 = .ok (.iconst 2, 1) := by decide +kernel
theorem dX10_worn_14 : decode cX10_worn 14 = .ok (.idiv, 1) := by decide +kernel
theorem dX10_worn_15 : decode cX10_worn 15 = .ok (.goto 15, 3) := by decide +kernel
theorem dX10_worn_18 : decode cX10_worn 18 = .ok (.iload_n 0, 1) := by decide +kernel
theorem dX10_worn_19 : decode cX10_worn 19 = .ok (.iconst 2, 1) := by decide +kernel
theorem dX10_worn_20 : decode cX10_worn 20 = .ok (.if_icmp .ne 9, 3) := by decide +kernel
theorem dX10_worn_23 : decode cX10_worn 23 = .ok (.iconst 2, 1) := by decide +kernel
theorem dX10_worn_24 : decode cX10_worn 24 = .ok (.iload_n 2, 1) := by decide +kernel
theorem dX10_worn_25 : decode cX10_worn 25 = .ok (.imul, 1) := by decide +kernel
theorem dX10_worn_26 : decode cX10_worn 26 = .ok (.goto 4, 3) := by decide +kernel
theorem dX10_worn_29 : decode cX10_worn 29 = .ok (.iload_n 2, 1) := by decide +kernel
theorem dX10_worn_30 : decode cX10_worn 30 = .ok (.istore_n 3, 1) := by decide +kernel
theorem dX10_worn_31 : decode cX10_worn 31 = .ok (.iload_n 1, 1) := by decide +kernel
theorem dX10_worn_32 : decode cX10_worn 32 = .ok (.iload_n 3, 1) := by decide +kernel
theorem dX10_worn_33 : decode cX10_worn 33 = .ok (.iadd, 1) := by decide +kernel
theorem dX10_worn_34 : decode cX10_worn 34 = .ok (.sipush 999, 3) := by decide +kernel
theorem dX10_worn_37 : decode cX10_worn 37 = .ok (.if_icmp .le 9, 3) := by decide +kernel
theorem dX10_worn_40 : decode cX10_worn 40 = .ok (.sipush 999, 3) := by decide +kernel
theorem dX10_worn_43 : decode cX10_worn 43 = .ok (.goto 6, 3) := by decide +kernel
theorem dX10_worn_46 : decode cX10_worn 46 = .ok (.iload_n 1, 1) := by decide +kernel
theorem dX10_worn_47 : decode cX10_worn 47 = .ok (.iload_n 3, 1) := by decide +kernel
theorem dX10_worn_48 : decode cX10_worn 48 = .ok (.iadd, 1) := by decide +kernel
theorem dX10_worn_49 : decode cX10_worn 49 = .ok (.ireturn, 1) := by decide +kernel
theorem dX10_worstOf_0 : decode cX10_worstOf 0 = .ok (.iconst 0, 1) := by decide +kernel
theorem dX10_worstOf_1 : decode cX10_worstOf 1 = .ok (.istore_n 2, 1) := by decide +kernel
theorem dX10_worstOf_2 : decode cX10_worstOf 2 = .ok (.iconst 0, 1) := by decide +kernel
theorem dX10_worstOf_3 : decode cX10_worstOf 3 = .ok (.istore_n 3, 1) := by decide +kernel
theorem dX10_worstOf_4 : decode cX10_worstOf 4 = .ok (.iload_n 3, 1) := by decide +kernel
theorem dX10_worstOf_5 : decode cX10_worstOf 5 = .ok (.aload_n 0, 1) := by decide +kernel
theorem dX10_worstOf_6 : decode cX10_worstOf 6 = .ok (.getfield 105, 3) := by decide +kernel
theorem dX10_worstOf_9 : decode cX10_worstOf 9 = .ok (.if_icmp .ge 24, 3) := by decide +kernel
theorem dX10_worstOf_12 : decode cX10_worstOf 12 = .ok (.aload_n 1, 1) := by decide +kernel
theorem dX10_worstOf_13 : decode cX10_worstOf 13 = .ok (.iload_n 3, 1) := by decide +kernel
theorem dX10_worstOf_14 : decode cX10_worstOf 14 = .ok (.iaload, 1) := by decide +kernel
end
section
theorem dX10_worstOf_15 : decode cX10_worstOf 15 = .ok (.iload_n 2, 1) := by decide +kernel
theorem dX10_worstOf_16 : decode cX10_worstOf 16 = .ok (.if_icmp .le 9, 3) := by decide +kernel
theorem dX10_worstOf_19 : decode cX10_worstOf 19 = .ok (.aload_n 1, 1) := by decide +kernel
theorem dX10_worstOf_20 : decode cX10_worstOf 20 = .ok (.iload_n 3, 1) := by decide +kernel
theorem dX10_worstOf_21 : decode cX10_worstOf 21 = .ok (.iaload, 1) := by decide +kernel
theorem dX10_worstOf_22 : decode cX10_worstOf 22 = .ok (.goto 4, 3) := by decide +kernel
theorem dX10_worstOf_25 : decode cX10_worstOf 25 = .ok (.iload_n 2, 1) := by decide +kernel
theorem dX10_worstOf_26 : decode cX10_worstOf 26 = .ok (.istore_n 2, 1) := by decide +kernel
theorem dX10_worstOf_27 : decode cX10_worstOf 27 = .ok (.iinc 3 1, 3) := by decide +kernel
theorem dX10_worstOf_30 : decode cX10_worstOf 30 = .ok (.goto (-26), 3) := by decide +kernel
theorem dX10_worstOf_33 : decode cX10_worstOf 33 = .ok (.iload_n 2, 1) := by decide +kernel
theorem dX10_worstOf_34 : decode cX10_worstOf 34 = .ok (.ireturn, 1) := by decide +kernel
theorem dX10_yearOn_0 : decode cX10_yearOn 0 = .ok (.iconst 0, 1) := by decide +kernel
theorem dX10_yearOn_1 : decode cX10_yearOn 1 = .ok (.istore_n 3, 1) := by decide +kernel
theorem dX10_yearOn_2 : decode cX10_yearOn 2 = .ok (.iload_n 3, 1) := by decide +kernel
theorem dX10_yearOn_3 : decode cX10_yearOn 3 = .ok (.aload_n 0, 1) := by decide +kernel
theorem dX10_yearOn_4 : decode cX10_yearOn 4 = .ok (.getfield 105, 3) := by decide +kernel
theorem dX10_yearOn_7 : decode cX10_yearOn 7 = .ok (.if_icmp .ge 32, 3) := by decide +kernel
theorem dX10_yearOn_10 : decode cX10_yearOn 10 = .ok (.aload_n 1, 1) := by decide +kernel
theorem dX10_yearOn_11 : decode cX10_yearOn 11 = .ok (.iload_n 3, 1) := by decide +kernel
theorem dX10_yearOn_12 : decode cX10_yearOn 12 = .ok (.aload_n 0, 1) := by decide +kernel
theorem dX10_yearOn_13 : decode cX10_yearOn 13 = .ok (.getfield 13, 3) := by decide +kernel
theorem dX10_yearOn_16 : decode cX10_yearOn 16 = .ok (.iload_n 3, 1) := by decide +kernel
theorem dX10_yearOn_17 : decode cX10_yearOn 17 = .ok (.iaload, 1) := by decide +kernel
theorem dX10_yearOn_18 : decode cX10_yearOn 18 = .ok (.aload_n 1, 1) := by decide +kernel
theorem dX10_yearOn_19 : decode cX10_yearOn 19 = .ok (.iload_n 3, 1) := by decide +kernel
theorem dX10_yearOn_20 : decode cX10_yearOn 20 = .ok (.iaload, 1) := by decide +kernel
theorem dX10_yearOn_21 : decode cX10_yearOn 21 = .ok (.aload_n 0, 1) := by decide +kernel
theorem dX10_yearOn_22 : decode cX10_yearOn 22 = .ok (.getfield 28, 3) := by decide +kernel
theorem dX10_yearOn_25 : decode cX10_yearOn 25 = .ok (.aload_n 2, 1) := by decide +kernel
theorem dX10_yearOn_26 : decode cX10_yearOn 26 = .ok (.iload_n 3, 1) := by decide +kernel
theorem dX10_yearOn_27 : decode cX10_yearOn 27 = .ok (.iaload, 1) := by decide +kernel
theorem dX10_yearOn_28 : decode cX10_yearOn 28 = .ok (.iaload, 1) := by decide +kernel
theorem dX10_yearOn_29 : decode cX10_yearOn 29 = .ok (.invokestatic 133, 3) := by decide +kernel
theorem dX10_yearOn_32 : decode cX10_yearOn 32 = .ok (.iastore, 1) := by decide +kernel
theorem dX10_yearOn_33 : decode cX10_yearOn 33 = .ok (.iinc 3 1, 3) := by decide +kernel
theorem dX10_yearOn_36 : decode cX10_yearOn 36 = .ok (.goto (-34), 3) := by decide +kernel
theorem dX10_yearOn_39 : decode cX10_yearOn 39 = .ok (.return_, 1) := by decide +kernel
theorem dX10_layOn_0 : decode cX10_layOn 0 = .ok (.iconst 0, 1) := by decide +kernel
theorem dX10_layOn_1 : decode cX10_layOn 1 = .ok (.istore 4, 2) := by decide +kernel
theorem dX10_layOn_3 : decode cX10_layOn 3 = .ok (.iload 4, 2) := by decide +kernel
theorem dX10_layOn_5 : decode cX10_layOn 5 = .ok (.aload_n 0, 1) := by decide +kernel
theorem dX10_layOn_6 : decode cX10_layOn 6 = .ok (.getfield 105, 3) := by decide +kernel
theorem dX10_layOn_9 : decode cX10_layOn 9 = .ok (.if_icmp .ge 50, 3) := by decide +kernel
theorem dX10_layOn_12 : decode cX10_layOn 12 = .ok (.aload_n 0, 1) := by decide +kernel
theorem dX10_layOn_13 : decode cX10_layOn 13 = .ok (.getfield 31, 3) := by decide +kernel
theorem dX10_layOn_16 : decode cX10_layOn 16 = .ok (.iload 4, 2) := by decide +kernel
theorem dX10_layOn_18 : decode cX10_layOn 18 = .ok (.iaload, 1) := by decide +kernel
theorem dX10_layOn_19 : decode cX10_layOn 19 = .ok (.istore 5, 2) := by decide +kernel
theorem dX10_layOn_21 : decode cX10_layOn 21 = .ok (.aload_n 3, 1) := by decide +kernel
theorem dX10_layOn_22 : decode cX10_layOn 22 = .ok (.iload 5, 2) := by decide +kernel
theorem dX10_layOn_24 : decode cX10_layOn 24 = .ok (.iload 4, 2) := by decide +kernel
theorem dX10_layOn_26 : decode cX10_layOn 26 = .ok (.iastore, 1) := by decide +kernel
theorem dX10_layOn_27 : decode cX10_layOn 27 = .ok (.aload_n 0, 1) := by decide +kernel
theorem dX10_layOn_28 : decode cX10_layOn 28 = .ok (.getfield 92, 3) := by decide +kernel
theorem dX10_layOn_31 : decode cX10_layOn 31 = .ok (.iconst 1, 1) := by decide +kernel
theorem dX10_layOn_32 : decode cX10_layOn 32 = .ok (.if_icmp .ne 21, 3) := by decide +kernel
theorem dX10_layOn_35 : decode cX10_layOn 35 = .ok (.aload_n 0, 1) := by decide +kernel
theorem dX10_layOn_36 : decode cX10_layOn 36 = .ok (.getfield 13, 3) := by decide +kernel
theorem dX10_layOn_39 : decode cX10_layOn 39 = .ok (.iload 5, 2) := by decide +kernel
theorem dX10_layOn_41 : decode cX10_layOn 41 = .ok (.iaload, 1) := by decide +kernel
theorem dX10_layOn_42 : decode cX10_layOn 42 = .ok (.iconst 4, 1) := by decide +kernel
theorem dX10_layOn_43 : decode cX10_layOn 43 = .ok (.if_icmp .eq 10, 3) := by decide +kernel
theorem dX10_layOn_46 : decode cX10_layOn 46 = .ok (.aload_n 1, 1) := by decide +kernel
theorem dX10_layOn_47 : decode cX10_layOn 47 = .ok (.aload_n 2, 1) := by decide +kernel
theorem dX10_layOn_48 : decode cX10_layOn 48 = .ok (.iload 5, 2) := by decide +kernel
theorem dX10_layOn_50 : decode cX10_layOn 50 = .ok (.invokestatic 126, 3) := by decide +kernel
theorem dX10_layOn_53 : decode cX10_layOn 53 = .ok (.iinc 4 1, 3) := by decide +kernel
theorem dX10_layOn_56 : decode cX10_layOn 56 = .ok (.goto (-53), 3) := by decide +kernel
theorem dX10_layOn_59 : decode cX10_layOn 59 = .ok (.return_, 1) := by decide +kernel
theorem dX10_lay_0 : decode cX10_lay 0 = .ok (.aload_n 0, 1) := by decide +kernel
theorem dX10_lay_1 : decode cX10_lay 1 = .ok (.invokevirtual 137, 3) := by decide +kernel
theorem dX10_lay_4 : decode cX10_lay 4 = .ok (.ifCond .eq 6, 3) := by decide +kernel
theorem dX10_lay_7 : decode cX10_lay 7 = .ok (.bipush (-103), 2) := by decide +kernel
theorem dX10_lay_9 : decode cX10_lay 9 = .ok (.ireturn, 1) := by decide +kernel
theorem dX10_lay_10 : decode cX10_lay 10 = .ok (.aload_n 0, 1) := by decide +kernel
theorem dX10_lay_11 : decode cX10_lay 11 = .ok (.iload_n 1, 1) := by decide +kernel
theorem dX10_lay_12 : decode cX10_lay 12 = .ok (.invokevirtual 141, 3) := by decide +kernel
theorem dX10_lay_15 : decode cX10_lay 15 = .ok (.ifCond .ne 6, 3) := by decide +kernel
theorem dX10_lay_18 : decode cX10_lay 18 = .ok (.bipush (-102), 2) := by decide +kernel
theorem dX10_lay_20 : decode cX10_lay 20 = .ok (.ireturn, 1) := by decide +kernel
theorem dX10_lay_21 : decode cX10_lay 21 = .ok (.aload_n 0, 1) := by decide +kernel
theorem dX10_lay_22 : decode cX10_lay 22 = .ok (.aload_n 0, 1) := by decide +kernel
theorem dX10_lay_23 : decode cX10_lay 23 = .ok (.getfield 22, 3) := by decide +kernel
theorem dX10_lay_26 : decode cX10_lay 26 = .ok (.invokevirtual 144, 3) := by decide +kernel
theorem dX10_lay_29 : decode cX10_lay 29 = .ok (.ifCond .ne 6, 3) := by decide +kernel
theorem dX10_lay_32 : decode cX10_lay 32 = .ok (.bipush (-103), 2) := by decide +kernel
theorem dX10_lay_34 : decode cX10_lay 34 = .ok (.ireturn, 1) := by decide +kernel
theorem dX10_lay_35 : decode cX10_lay 35 = .ok (.aload_n 0, 1) := by decide +kernel
theorem dX10_lay_36 : decode cX10_lay 36 = .ok (.aload_n 0, 1) := by decide +kernel
theorem dX10_lay_37 : decode cX10_lay 37 = .ok (.getfield 16, 3) := by decide +kernel
theorem dX10_lay_40 : decode cX10_lay 40 = .ok (.aload_n 0, 1) := by decide +kernel
theorem dX10_lay_41 : decode cX10_lay 41 = .ok (.getfield 19, 3) := by decide +kernel
theorem dX10_lay_44 : decode cX10_lay 44 = .ok (.aload_n 0, 1) := by decide +kernel
theorem dX10_lay_45 : decode cX10_lay 45 = .ok (.getfield 22, 3) := by decide +kernel
theorem dX10_lay_48 : decode cX10_lay 48 = .ok (.invokevirtual 148, 3) := by decide +kernel
theorem dX10_lay_51 : decode cX10_lay 51 = .ok (.aload_n 0, 1) := by decide +kernel
theorem dX10_lay_52 : decode cX10_lay 52 = .ok (.aload_n 0, 1) := by decide +kernel
theorem dX10_lay_53 : decode cX10_lay 53 = .ok (.getfield 16, 3) := by decide +kernel
theorem dX10_lay_56 : decode cX10_lay 56 = .ok (.invokevirtual 152, 3) := by decide +kernel
theorem dX10_lay_59 : decode cX10_lay 59 = .ok (.ireturn, 1) := by decide +kernel
theorem dX10_lawful_0 : decode cX10_lawful 0 = .ok (.aload_n 0, 1) := by decide +kernel
theorem dX10_lawful_1 : decode cX10_lawful 1 = .ok (.invokevirtual 137, 3) := by decide +kernel
theorem dX10_lawful_4 : decode cX10_lawful 4 = .ok (.ifCond .eq 6, 3) := by decide +kernel
theorem dX10_lawful_7 : decode cX10_lawful 7 = .ok (.bipush (-103), 2) := by decide +kernel
theorem dX10_lawful_9 : decode cX10_lawful 9 = .ok (.ireturn, 1) := by decide +kernel
theorem dX10_lawful_10 : decode cX10_lawful 10 = .ok (.aload_n 0, 1) := by decide +kernel
theorem dX10_lawful_11 : decode cX10_lawful 11 = .ok (.iload_n 1, 1) := by decide +kernel
theorem dX10_lawful_12 : decode cX10_lawful 12 = .ok (.invokevirtual 141, 3) := by decide +kernel
theorem dX10_lawful_15 : decode cX10_lawful 15 = .ok (.ifCond .ne 6, 3) := by decide +kernel
theorem dX10_lawful_18 : decode cX10_lawful 18 = .ok (.bipush (-102), 2) := by decide +kernel
theorem dX10_lawful_20 : decode cX10_lawful 20 = .ok (.ireturn, 1) := by decide +kernel
theorem dX10_lawful_21 : decode cX10_lawful 21 = .ok (.aload_n 0, 1) := by decide +kernel
theorem dX10_lawful_22 : decode cX10_lawful 22 = .ok (.aload_n 0, 1) := by decide +kernel
theorem dX10_lawful_23 : decode cX10_lawful 23 = .ok (.getfield 22, 3) := by decide +kernel
theorem dX10_lawful_26 : decode cX10_lawful 26 = .ok (.invokevirtual 144, 3) := by decide +kernel
theorem dX10_lawful_29 : decode cX10_lawful 29 = .ok (.ifCond .eq 7, 3) := by decide +kernel
theorem dX10_lawful_32 : decode cX10_lawful 32 = .ok (.iconst 1, 1) := by decide +kernel
theorem dX10_lawful_33 : decode cX10_lawful 33 = .ok (.goto 4, 3) := by decide +kernel
theorem dX10_lawful_36 : decode cX10_lawful 36 = .ok (.iconst 0, 1) := by decide +kernel
theorem dX10_lawful_37 : decode cX10_lawful 37 = .ok (.ireturn, 1) := by decide +kernel
theorem dX10_years_0 : decode cX10_years 0 = .ok (.aload_n 0, 1) := by decide +kernel
theorem dX10_years_1 : decode cX10_years 1 = .ok (.invokevirtual 137, 3) := by decide +kernel
theorem dX10_years_4 : decode cX10_years 4 = .ok (.ifCond .eq 6, 3) := by decide +kernel
theorem dX10_years_7 : decode cX10_years 7 = .ok (.bipush (-103), 2) := by decide +kernel
theorem dX10_years_9 : decode cX10_years 9 = .ok (.ireturn, 1) := by decide +kernel
theorem dX10_years_10 : decode cX10_years 10 = .ok (.iload_n 1, 1) := by decide +kernel
theorem dX10_years_11 : decode cX10_years 11 = .ok (.i2l, 1) := by decide +kernel
theorem dX10_years_12 : decode cX10_years 12 = .ok (.lconst 1, 1) := by decide +kernel
theorem dX10_years_13 : decode cX10_years 13 = .ok (.ldc2_w 156, 3) := by decide +kernel
theorem dX10_years_16 : decode cX10_years 16 = .ok (.invokestatic 68, 3) := by decide +kernel
theorem dX10_years_19 : decode cX10_years 19 = .ok (.ifCond .ne 6, 3) := by decide +kernel
theorem dX10_years_22 : decode cX10_years 22 = .ok (.bipush (-102), 2) := by decide +kernel
theorem dX10_years_24 : decode cX10_years 24 = .ok (.ireturn, 1) := by decide +kernel
theorem dX10_years_25 : decode cX10_years 25 = .ok (.iconst 0, 1) := by decide +kernel
theorem dX10_years_26 : decode cX10_years 26 = .ok (.istore_n 2, 1) := by decide +kernel
theorem dX10_years_27 : decode cX10_years 27 = .ok (.iload_n 2, 1) := by decide +kernel
theorem dX10_years_28 : decode cX10_years 28 = .ok (.iload_n 1, 1) := by decide +kernel
theorem dX10_years_29 : decode cX10_years 29 = .ok (.if_icmp .ge 21, 3) := by decide +kernel
theorem dX10_years_32 : decode cX10_years 32 = .ok (.aload_n 0, 1) := by decide +kernel
theorem dX10_years_33 : decode cX10_years 33 = .ok (.aload_n 0, 1) := by decide +kernel
theorem dX10_years_34 : decode cX10_years 34 = .ok (.getfield 16, 3) := by decide +kernel
theorem dX10_years_37 : decode cX10_years 37 = .ok (.aload_n 0, 1) := by decide +kernel
theorem dX10_years_38 : decode cX10_years 38 = .ok (.getfield 22, 3) := by decide +kernel
theorem dX10_years_41 : decode cX10_years 41 = .ok (.invokevirtual 158, 3) := by decide +kernel
theorem dX10_years_44 : decode cX10_years 44 = .ok (.iinc 2 1, 3) := by decide +kernel
theorem dX10_years_47 : decode cX10_years 47 = .ok (.goto (-20), 3) := by decide +kernel
theorem dX10_years_50 : decode cX10_years 50 = .ok (.aload_n 0, 1) := by decide +kernel
theorem dX10_years_51 : decode cX10_years 51 = .ok (.aload_n 0, 1) := by decide +kernel
theorem dX10_years_52 : decode cX10_years 52 = .ok (.getfield 16, 3) := by decide +kernel
theorem dX10_years_55 : decode cX10_years 55 = .ok (.invokevirtual 152, 3) := by decide +kernel
theorem dX10_years_58 : decode cX10_years 58 = .ok (.ireturn, 1) := by decide +kernel
theorem dX10_worst_0 : decode cX10_worst 0 = .ok (.aload_n 0, 1) := by decide +kernel
theorem dX10_worst_1 : decode cX10_worst 1 = .ok (.invokevirtual 137, 3) := by decide +kernel
theorem dX10_worst_4 : decode cX10_worst 4 = .ok (.ifCond .eq 8, 3) := by decide +kernel
theorem dX10_worst_7 : decode cX10_worst 7 = .ok (.bipush (-103), 2) := by decide +kernel
theorem dX10_worst_9 : decode cX10_worst 9 = .ok (.goto 11, 3) := by decide +kernel
theorem dX10_worst_12 : decode cX10_worst 12 = .ok (.aload_n 0, 1) := by decide +kernel
theorem dX10_worst_13 : decode cX10_worst 13 = .ok (.aload_n 0, 1) := by decide +kernel
theorem dX10_worst_14 : decode cX10_worst 14 = .ok (.getfield 16, 3) := by decide +kernel
theorem dX10_worst_17 : decode cX10_worst 17 = .ok (.invokevirtual 152, 3) := by decide +kernel
theorem dX10_worst_20 : decode cX10_worst 20 = .ok (.ireturn, 1) := by decide +kernel
theorem dX10_wouldBe_0 : decode cX10_wouldBe 0 = .ok (.iconst 0, 1) := by decide +kernel
theorem dX10_wouldBe_1 : decode cX10_wouldBe 1 = .ok (.istore_n 3, 1) := by decide +kernel
theorem dX10_wouldBe_2 : decode cX10_wouldBe 2 = .ok (.iconst 0, 1) := by decide +kernel
theorem dX10_wouldBe_3 : decode cX10_wouldBe 3 = .ok (.istore 4, 2) := by decide +kernel
theorem dX10_wouldBe_5 : decode cX10_wouldBe 5 = .ok (.iload 4, 2) := by decide +kernel
theorem dX10_wouldBe_7 : decode cX10_wouldBe 7 = .ok (.aload_n 0, 1) := by decide +kernel
theorem dX10_wouldBe_8 : decode cX10_wouldBe 8 = .ok (.getfield 105, 3) := by decide +kernel
theorem dX10_wouldBe_11 : decode cX10_wouldBe 11 = .ok (.if_icmp .ge 92, 3) := by decide +kernel
theorem dX10_wouldBe_14 : decode cX10_wouldBe 14 = .ok (.aload_n 0, 1) := by decide +kernel
theorem dX10_wouldBe_15 : decode cX10_wouldBe 15 = .ok (.getfield 31, 3) := by decide +kernel
theorem dX10_wouldBe_18 : decode cX10_wouldBe 18 = .ok (.iload 4, 2) := by decide +kernel
theorem dX10_wouldBe_20 : decode cX10_wouldBe 20 = .ok (.iaload, 1) := by decide +kernel
theorem dX10_wouldBe_21 : decode cX10_wouldBe 21 = .ok (.istore 5, 2) := by decide +kernel
theorem dX10_wouldBe_23 : decode cX10_wouldBe 23 = .ok (.aload_n 0, 1) := by decide +kernel
theorem dX10_wouldBe_24 : decode cX10_wouldBe 24 = .ok (.getfield 92, 3) := by decide +kernel
theorem dX10_wouldBe_27 : decode cX10_wouldBe 27 = .ok (.iconst 1, 1) := by decide +kernel
theorem dX10_wouldBe_28 : decode cX10_wouldBe 28 = .ok (.if_icmp .ne 18, 3) := by decide +kernel
theorem dX10_wouldBe_31 : decode cX10_wouldBe 31 = .ok (.aload_n 0, 1) := by decide +kernel
theorem dX10_wouldBe_32 : decode cX10_wouldBe 32 = .ok (.getfield 13, 3) := by decide +kernel
theorem dX10_wouldBe_35 : decode cX10_wouldBe 35 = .ok (.iload 5, 2) := by decide +kernel
theorem dX10_wouldBe_37 : decode cX10_wouldBe 37 = .ok (.iaload, 1) := by decide +kernel
theorem dX10_wouldBe_38 : decode cX10_wouldBe 38 = .ok (.iconst 4, 1) := by decide +kernel
theorem dX10_wouldBe_39 : decode cX10_wouldBe 39 = .ok (.if_icmp .eq 7, 3) := by decide +kernel
theorem dX10_wouldBe_42 : decode cX10_wouldBe 42 = .ok (.iconst 1, 1) := by decide +kernel
theorem dX10_wouldBe_43 : decode cX10_wouldBe 43 = .ok (.goto 4, 3) := by decide +kernel
theorem dX10_wouldBe_46 : decode cX10_wouldBe 46 = .ok (.iconst 0, 1) := by decide +kernel
theorem dX10_wouldBe_47 : decode cX10_wouldBe 47 = .ok (.istore 6, 2) := by decide +kernel
theorem dX10_wouldBe_49 : decode cX10_wouldBe 49 = .ok (.aload_n 0, 1) := by decide +kernel
theorem dX10_wouldBe_50 : decode cX10_wouldBe 50 = .ok (.getfield 13, 3) := by decide +kernel
theorem dX10_wouldBe_53 : decode cX10_wouldBe 53 = .ok (.iload 5, 2) := by decide +kernel
theorem dX10_wouldBe_55 : decode cX10_wouldBe 55 = .ok (.iaload, 1) := by decide +kernel
theorem dX10_wouldBe_56 : decode cX10_wouldBe 56 = .ok (.iload 6, 2) := by decide +kernel
theorem dX10_wouldBe_58 : decode cX10_wouldBe 58 = .ok (.ifCond .eq 10, 3) := by decide +kernel
theorem dX10_wouldBe_61 : decode cX10_wouldBe 61 = .ok (.aload_n 2, 1) := by decide +kernel
theorem dX10_wouldBe_62 : decode cX10_wouldBe 62 = .ok (.iload 5, 2) := by decide +kernel
theorem dX10_wouldBe_64 : decode cX10_wouldBe 64 = .ok (.iaload, 1) := by decide +kernel
theorem dX10_wouldBe_65 : decode cX10_wouldBe 65 = .ok (.goto 7, 3) := by decide +kernel
theorem dX10_wouldBe_68 : decode cX10_wouldBe 68 = .ok (.aload_n 1, 1) := by decide +kernel
theorem dX10_wouldBe_69 : decode cX10_wouldBe 69 = .ok (.iload 5, 2) := by decide +kernel
theorem dX10_wouldBe_71 : decode cX10_wouldBe 71 = .ok (.iaload, 1) := by decide +kernel
theorem dX10_wouldBe_72 : decode cX10_wouldBe 72 = .ok (.aload_n 0, 1) := by decide +kernel
theorem dX10_wouldBe_73 : decode cX10_wouldBe 73 = .ok (.getfield 28, 3) := by decide +kernel
theorem dX10_wouldBe_76 : decode cX10_wouldBe 76 = .ok (.iload 4, 2) := by decide +kernel
theorem dX10_wouldBe_78 : decode cX10_wouldBe 78 = .ok (.iaload, 1) := by decide +kernel
theorem dX10_wouldBe_79 : decode cX10_wouldBe 79 = .ok (.invokestatic 133, 3) := by decide +kernel
theorem dX10_wouldBe_82 : decode cX10_wouldBe 82 = .ok (.istore 7, 2) := by decide +kernel
theorem dX10_wouldBe_84 : decode cX10_wouldBe 84 = .ok (.iload 7, 2) := by decide +kernel
theorem dX10_wouldBe_86 : decode cX10_wouldBe 86 = .ok (.iload_n 3, 1) := by decide +kernel
theorem dX10_wouldBe_87 : decode cX10_wouldBe 87 = .ok (.if_icmp .le 8, 3) := by decide +kernel
theorem dX10_wouldBe_90 : decode cX10_wouldBe 90 = .ok (.iload 7, 2) := by decide +kernel
theorem dX10_wouldBe_92 : decode cX10_wouldBe 92 = .ok (.goto 4, 3) := by decide +kernel
theorem dX10_wouldBe_95 : decode cX10_wouldBe 95 = .ok (.iload_n 3, 1) := by decide +kernel
theorem dX10_wouldBe_96 : decode cX10_wouldBe 96 = .ok (.istore_n 3, 1) := by decide +kernel
theorem dX10_wouldBe_97 : decode cX10_wouldBe 97 = .ok (.iinc 4 1, 3) := by decide +kernel
theorem dX10_wouldBe_100 : decode cX10_wouldBe 100 = .ok (.goto (-95), 3) := by decide +kernel
theorem dX10_wouldBe_103 : decode cX10_wouldBe 103 = .ok (.iload_n 3, 1) := by decide +kernel
theorem dX10_wouldBe_104 : decode cX10_wouldBe 104 = .ok (.ireturn, 1) := by decide +kernel
theorem dX10_findBest_0 : decode cX10_findBest 0 = .ok (.aload_n 0, 1) := by decide +kernel
theorem dX10_findBest_1 : decode cX10_findBest 1 = .ok (.iconst (-1), 1) := by decide +kernel
theorem dX10_findBest_2 : decode cX10_findBest 2 = .ok (.putfield 162, 3) := by decide +kernel
theorem dX10_findBest_5 : decode cX10_findBest 5 = .ok (.aload_n 0, 1) := by decide +kernel
theorem dX10_findBest_6 : decode cX10_findBest 6 = .ok (.ldc 165, 2) := by decide +kernel
theorem dX10_findBest_8 : decode cX10_findBest 8 = .ok (.putfield 166, 3) := by decide +kernel
theorem dX10_findBest_11 : decode cX10_findBest 11 = .ok (.iconst 0, 1) := by decide +kernel
theorem dX10_findBest_12 : decode cX10_findBest 12 = .ok (.istore 4, 2) := by decide +kernel
theorem dX10_findBest_14 : decode cX10_findBest 14 = .ok (.iconst 1, 1) := by decide +kernel
theorem dX10_findBest_15 : decode cX10_findBest 15 = .ok (.istore 5, 2) := by decide +kernel
theorem dX10_findBest_17 : decode cX10_findBest 17 = .ok (.aload_n 0, 1) := by decide +kernel
theorem dX10_findBest_18 : decode cX10_findBest 18 = .ok (.invokevirtual 169, 3) := by decide +kernel
theorem dX10_findBest_21 : decode cX10_findBest 21 = .ok (.iload 5, 2) := by decide +kernel
theorem dX10_findBest_23 : decode cX10_findBest 23 = .ok (.ifCond .eq 77, 3) := by decide +kernel
theorem dX10_findBest_26 : decode cX10_findBest 26 = .ok (.aload_n 0, 1) := by decide +kernel
theorem dX10_findBest_27 : decode cX10_findBest 27 = .ok (.aload_n 3, 1) := by decide +kernel
theorem dX10_findBest_28 : decode cX10_findBest 28 = .ok (.invokevirtual 144, 3) := by decide +kernel
theorem dX10_findBest_31 : decode cX10_findBest 31 = .ok (.ifCond .eq 60, 3) := by decide +kernel
theorem dX10_findBest_34 : decode cX10_findBest 34 = .ok (.iinc 4 1, 3) := by decide +kernel
theorem dX10_findBest_37 : decode cX10_findBest 37 = .ok (.aload_n 0, 1) := by decide +kernel
theorem dX10_findBest_38 : decode cX10_findBest 38 = .ok (.aload_n 1, 1) := by decide +kernel
theorem dX10_findBest_39 : decode cX10_findBest 39 = .ok (.aload_n 2, 1) := by decide +kernel
theorem dX10_findBest_40 : decode cX10_findBest 40 = .ok (.invokevirtual 172, 3) := by decide +kernel
theorem dX10_findBest_43 : decode cX10_findBest 43 = .ok (.istore 6, 2) := by decide +kernel
theorem dX10_findBest_45 : decode cX10_findBest 45 = .ok (.aload_n 0, 1) := by decide +kernel
theorem dX10_findBest_46 : decode cX10_findBest 46 = .ok (.iload 6, 2) := by decide +kernel
theorem dX10_findBest_48 : decode cX10_findBest 48 = .ok (.aload_n 0, 1) := by decide +kernel
theorem dX10_findBest_49 : decode cX10_findBest 49 = .ok (.getfield 166, 3) := by decide +kernel
theorem dX10_findBest_52 : decode cX10_findBest 52 = .ok (.if_icmp .ge 10, 3) := by decide +kernel
theorem dX10_findBest_55 : decode cX10_findBest 55 = .ok (.aload_n 0, 1) := by decide +kernel
theorem dX10_findBest_56 : decode cX10_findBest 56 = .ok (.invokevirtual 176, 3) := by decide +kernel
theorem dX10_findBest_59 : decode cX10_findBest 59 = .ok (.goto 7, 3) := by decide +kernel
theorem dX10_findBest_62 : decode cX10_findBest 62 = .ok (.aload_n 0, 1) := by decide +kernel
theorem dX10_findBest_63 : decode cX10_findBest 63 = .ok (.getfield 162, 3) := by decide +kernel
theorem dX10_findBest_66 : decode cX10_findBest 66 = .ok (.putfield 162, 3) := by decide +kernel
theorem dX10_findBest_69 : decode cX10_findBest 69 = .ok (.aload_n 0, 1) := by decide +kernel
theorem dX10_findBest_70 : decode cX10_findBest 70 = .ok (.iload 6, 2) := by decide +kernel
theorem dX10_findBest_72 : decode cX10_findBest 72 = .ok (.aload_n 0, 1) := by decide +kernel
theorem dX10_findBest_73 : decode cX10_findBest 73 = .ok (.getfield 166, 3) := by decide +kernel
theorem dX10_findBest_76 : decode cX10_findBest 76 = .ok (.if_icmp .ge 8, 3) := by decide +kernel
theorem dX10_findBest_79 : decode cX10_findBest 79 = .ok (.iload 6, 2) := by decide +kernel
theorem dX10_findBest_81 : decode cX10_findBest 81 = .ok (.goto 7, 3) := by decide +kernel
theorem dX10_findBest_84 : decode cX10_findBest 84 = .ok (.aload_n 0, 1) := by decide +kernel
theorem dX10_findBest_85 : decode cX10_findBest 85 = .ok (.getfield 166, 3) := by decide +kernel
theorem dX10_findBest_88 : decode cX10_findBest 88 = .ok (.putfield 166, 3) := by decide +kernel
theorem dX10_findBest_91 : decode cX10_findBest 91 = .ok (.aload_n 0, 1) := by decide +kernel
theorem dX10_findBest_92 : decode cX10_findBest 92 = .ok (.invokevirtual 179, 3) := by decide +kernel
theorem dX10_findBest_95 : decode cX10_findBest 95 = .ok (.istore 5, 2) := by decide +kernel
theorem dX10_findBest_97 : decode cX10_findBest 97 = .ok (.goto (-76), 3) := by decide +kernel
theorem dX10_findBest_100 : decode cX10_findBest 100 = .ok (.iload 4, 2) := by decide +kernel
theorem dX10_findBest_102 : decode cX10_findBest 102 = .ok (.ireturn, 1) := by decide +kernel
theorem dX10_best_0 : decode cX10_best 0 = .ok (.aload_n 0, 1) := by decide +kernel
theorem dX10_best_1 : decode cX10_best 1 = .ok (.invokevirtual 137, 3) := by decide +kernel
theorem dX10_best_4 : decode cX10_best 4 = .ok (.ifCond .eq 6, 3) := by decide +kernel
theorem dX10_best_7 : decode cX10_best 7 = .ok (.bipush (-103), 2) := by decide +kernel
theorem dX10_best_9 : decode cX10_best 9 = .ok (.ireturn, 1) := by decide +kernel
theorem dX10_best_10 : decode cX10_best 10 = .ok (.iload_n 1, 1) := by decide +kernel
theorem dX10_best_11 : decode cX10_best 11 = .ok (.i2l, 1) := by decide +kernel
theorem dX10_best_12 : decode cX10_best 12 = .ok (.lconst 0, 1) := by decide +kernel
theorem dX10_best_13 : decode cX10_best 13 = .ok (.lconst 1, 1) := by decide +kernel
theorem dX10_best_14 : decode cX10_best 14 = .ok (.invokestatic 68, 3) := by decide +kernel
theorem dX10_best_17 : decode cX10_best 17 = .ok (.ifCond .ne 6, 3) := by decide +kernel
theorem dX10_best_20 : decode cX10_best 20 = .ok (.bipush (-102), 2) := by decide +kernel
theorem dX10_best_22 : decode cX10_best 22 = .ok (.ireturn, 1) := by decide +kernel
theorem dX10_best_23 : decode cX10_best 23 = .ok (.aload_n 0, 1) := by decide +kernel
theorem dX10_best_24 : decode cX10_best 24 = .ok (.getfield 182, 3) := by decide +kernel
theorem dX10_best_27 : decode cX10_best 27 = .ok (.bipush 40, 2) := by decide +kernel
theorem dX10_best_29 : decode cX10_best 29 = .ok (.if_icmp .ne 6, 3) := by decide +kernel
theorem dX10_best_32 : decode cX10_best 32 = .ok (.bipush (-103), 2) := by decide +kernel
theorem dX10_best_34 : decode cX10_best 34 = .ok (.ireturn, 1) := by decide +kernel
theorem dX10_best_35 : decode cX10_best 35 = .ok (.aload_n 0, 1) := by decide +kernel
theorem dX10_best_36 : decode cX10_best 36 = .ok (.dup, 1) := by decide +kernel
theorem dX10_best_37 : decode cX10_best 37 = .ok (.getfield 182, 3) := by decide +kernel
theorem dX10_best_40 : decode cX10_best 40 = .ok (.iconst 1, 1) := by decide +kernel
theorem dX10_best_41 : decode cX10_best 41 = .ok (.iadd, 1) := by decide +kernel
theorem dX10_best_42 : decode cX10_best 42 = .ok (.putfield 182, 3) := by decide +kernel
theorem dX10_best_45 : decode cX10_best 45 = .ok (.aload_n 0, 1) := by decide +kernel
theorem dX10_best_46 : decode cX10_best 46 = .ok (.aload_n 0, 1) := by decide +kernel
theorem dX10_best_47 : decode cX10_best 47 = .ok (.getfield 16, 3) := by decide +kernel
theorem dX10_best_50 : decode cX10_best 50 = .ok (.aload_n 0, 1) := by decide +kernel
theorem dX10_best_51 : decode cX10_best 51 = .ok (.getfield 19, 3) := by decide +kernel
theorem dX10_best_54 : decode cX10_best 54 = .ok (.aload_n 0, 1) := by decide +kernel
theorem dX10_best_55 : decode cX10_best 55 = .ok (.getfield 22, 3) := by decide +kernel
theorem dX10_best_58 : decode cX10_best 58 = .ok (.invokevirtual 185, 3) := by decide +kernel
theorem dX10_best_61 : decode cX10_best 61 = .ok (.istore_n 2, 1) := by decide +kernel
theorem dX10_best_62 : decode cX10_best 62 = .ok (.iload_n 2, 1) := by decide +kernel
theorem dX10_best_63 : decode cX10_best 63 = .ok (.ifCond .eq 8, 3) := by decide +kernel
theorem dX10_best_66 : decode cX10_best 66 = .ok (.iload_n 1, 1) := by decide +kernel
theorem dX10_best_67 : decode cX10_best 67 = .ok (.iconst 1, 1) := by decide +kernel
theorem dX10_best_68 : decode cX10_best 68 = .ok (.if_icmp .ne 10, 3) := by decide +kernel
theorem dX10_best_71 : decode cX10_best 71 = .ok (.aload_n 0, 1) := by decide +kernel
theorem dX10_best_72 : decode cX10_best 72 = .ok (.getfield 162, 3) := by decide +kernel
theorem dX10_best_75 : decode cX10_best 75 = .ok (.goto 7, 3) := by decide +kernel
theorem dX10_best_78 : decode cX10_best 78 = .ok (.aload_n 0, 1) := by decide +kernel
theorem dX10_best_79 : decode cX10_best 79 = .ok (.getfield 166, 3) := by decide +kernel
theorem dX10_best_82 : decode cX10_best 82 = .ok (.ireturn, 1) := by decide +kernel
theorem dX10_howMany_0 : decode cX10_howMany 0 = .ok (.aload_n 0, 1) := by decide +kernel
theorem dX10_howMany_1 : decode cX10_howMany 1 = .ok (.invokevirtual 137, 3) := by decide +kernel
theorem dX10_howMany_4 : decode cX10_howMany 4 = .ok (.ifCond .ne 12, 3) := by decide +kernel
theorem dX10_howMany_7 : decode cX10_howMany 7 = .ok (.aload_n 0, 1) := by decide +kernel
theorem dX10_howMany_8 : decode cX10_howMany 8 = .ok (.getfield 182, 3) := by decide +kernel
theorem dX10_howMany_11 : decode cX10_howMany 11 = .ok (.bipush 40, 2) := by decide +kernel
theorem dX10_howMany_13 : decode cX10_howMany 13 = .ok (.if_icmp .ne 6, 3) := by decide +kernel
theorem dX10_howMany_16 : decode cX10_howMany 16 = .ok (.bipush (-103), 2) := by decide +kernel
theorem dX10_howMany_18 : decode cX10_howMany 18 = .ok (.ireturn, 1) := by decide +kernel
theorem dX10_howMany_19 : decode cX10_howMany 19 = .ok (.aload_n 0, 1) := by decide +kernel
theorem dX10_howMany_20 : decode cX10_howMany 20 = .ok (.dup, 1) := by decide +kernel
theorem dX10_howMany_21 : decode cX10_howMany 21 = .ok (.getfield 182, 3) := by decide +kernel
theorem dX10_howMany_24 : decode cX10_howMany 24 = .ok (.iconst 1, 1) := by decide +kernel
theorem dX10_howMany_25 : decode cX10_howMany 25 = .ok (.iadd, 1) := by decide +kernel
theorem dX10_howMany_26 : decode cX10_howMany 26 = .ok (.putfield 182, 3) := by decide +kernel
theorem dX10_howMany_29 : decode cX10_howMany 29 = .ok (.aload_n 0, 1) := by decide +kernel
theorem dX10_howMany_30 : decode cX10_howMany 30 = .ok (.aload_n 0, 1) := by decide +kernel
theorem dX10_howMany_31 : decode cX10_howMany 31 = .ok (.getfield 16, 3) := by decide +kernel
theorem dX10_howMany_34 : decode cX10_howMany 34 = .ok (.aload_n 0, 1) := by decide +kernel
theorem dX10_howMany_35 : decode cX10_howMany 35 = .ok (.getfield 19, 3) := by decide +kernel
theorem dX10_howMany_38 : decode cX10_howMany 38 = .ok (.aload_n 0, 1) := by decide +kernel
theorem dX10_howMany_39 : decode cX10_howMany 39 = .ok (.getfield 22, 3) := by decide +kernel
theorem dX10_howMany_42 : decode cX10_howMany 42 = .ok (.invokevirtual 185, 3) := by decide +kernel
theorem dX10_howMany_45 : decode cX10_howMany 45 = .ok (.ireturn, 1) := by decide +kernel
theorem dX10_tellCarried_0 : decode cX10_tellCarried 0 = .ok (.iconst 0, 1) := by decide +kernel
theorem dX10_tellCarried_1 : decode cX10_tellCarried 1 = .ok (.istore_n 2, 1) := by decide +kernel
theorem dX10_tellCarried_2 : decode cX10_tellCarried 2 = .ok (.iconst 0, 1) := by decide +kernel
theorem dX10_tellCarried_3 : decode cX10_tellCarried 3 = .ok (.istore_n 3, 1) := by decide +kernel
theorem dX10_tellCarried_4 : decode cX10_tellCarried 4 = .ok (.iconst 0, 1) := by decide +kernel
theorem dX10_tellCarried_5 : decode cX10_tellCarried 5 = .ok (.istore 4, 2) := by decide +kernel
theorem dX10_tellCarried_7 : decode cX10_tellCarried 7 = .ok (.iconst 0, 1) := by decide +kernel
theorem dX10_tellCarried_8 : decode cX10_tellCarried 8 = .ok (.istore 5, 2) := by decide +kernel
theorem dX10_tellCarried_10 : decode cX10_tellCarried 10 = .ok (.iconst 0, 1) := by decide +kernel
theorem dX10_tellCarried_11 : decode cX10_tellCarried 11 = .ok (.istore 6, 2) := by decide +kernel
theorem dX10_tellCarried_13 : decode cX10_tellCarried 13 = .ok (.iload 6, 2) := by decide +kernel
theorem dX10_tellCarried_15 : decode cX10_tellCarried 15 = .ok (.aload_n 0, 1) := by decide +kernel
theorem dX10_tellCarried_16 : decode cX10_tellCarried 16 = .ok (.getfield 105, 3) := by decide +kernel
theorem dX10_tellCarried_19 : decode cX10_tellCarried 19 = .ok (.if_icmp .ge 129, 3) := by decide +kernel
theorem dX10_tellCarried_22 : decode cX10_tellCarried 22 = .ok (.aload_n 0, 1) := by decide +kernel
theorem dX10_tellCarried_23 : decode cX10_tellCarried 23 = .ok (.getfield 22, 3) := by decide +kernel
theorem dX10_tellCarried_26 : decode cX10_tellCarried 26 = .ok (.aload_n 0, 1) := by decide +kernel
theorem dX10_tellCarried_27 : decode cX10_tellCarried 27 = .ok (.getfield 31, 3) := by decide +kernel
theorem dX10_tellCarried_30 : decode cX10_tellCarried 30 = .ok (.iload 6, 2) := by decide +kernel
theorem dX10_tellCarried_32 : decode cX10_tellCarried 32 = .ok (.iaload, 1) := by decide +kernel
theorem dX10_tellCarried_33 : decode cX10_tellCarried 33 = .ok (.iaload, 1) := by decide +kernel
theorem dX10_tellCarried_34 : decode cX10_tellCarried 34 = .ok (.iload 6, 2) := by decide +kernel
theorem dX10_tellCarried_36 : decode cX10_tellCarried 36 = .ok (.isub, 1) := by decide +kernel
theorem dX10_tellCarried_37 : decode cX10_tellCarried 37 = .ok (.invokestatic 130, 3) := by decide +kernel
theorem dX10_tellCarried_40 : decode cX10_tellCarried 40 = .ok (.istore 7, 2) := by decide +kernel
theorem dX10_tellCarried_42 : decode cX10_tellCarried 42 = .ok (.iload_n 2, 1) := by decide +kernel
theorem dX10_tellCarried_43 : decode cX10_tellCarried 43 = .ok (.iload 6, 2) := by decide +kernel
theorem dX10_tellCarried_45 : decode cX10_tellCarried 45 = .ok (.aload_n 0, 1) := by decide +kernel
theorem dX10_tellCarried_46 : decode cX10_tellCarried 46 = .ok (.getfield 105, 3) := by decide +kernel
theorem dX10_tellCarried_49 : decode cX10_tellCarried 49 = .ok (.iconst 2, 1) := by decide +kernel
theorem dX10_tellCarried_50 : decode cX10_tellCarried 50 = .ok (.idiv, 1) := by decide +kernel
theorem dX10_tellCarried_51 : decode cX10_tellCarried 51 = .ok (.if_icmp .ge 8, 3) := by decide +kernel
theorem dX10_tellCarried_54 : decode cX10_tellCarried 54 = .ok (.iload 7, 2) := by decide +kernel
theorem dX10_tellCarried_56 : decode cX10_tellCarried 56 = .ok (.goto 4, 3) := by decide +kernel
theorem dX10_tellCarried_59 : decode cX10_tellCarried 59 = .ok (.iconst 0, 1) := by decide +kernel
theorem dX10_tellCarried_60 : decode cX10_tellCarried 60 = .ok (.iadd, 1) := by decide +kernel
theorem dX10_tellCarried_61 : decode cX10_tellCarried 61 = .ok (.istore_n 2, 1) := by decide +kernel
theorem dX10_tellCarried_62 : decode cX10_tellCarried 62 = .ok (.iload_n 3, 1) := by decide +kernel
theorem dX10_tellCarried_63 : decode cX10_tellCarried 63 = .ok (.iload 6, 2) := by decide +kernel
theorem dX10_tellCarried_65 : decode cX10_tellCarried 65 = .ok (.aload_n 0, 1) := by decide +kernel
theorem dX10_tellCarried_66 : decode cX10_tellCarried 66 = .ok (.getfield 105, 3) := by decide +kernel
theorem dX10_tellCarried_69 : decode cX10_tellCarried 69 = .ok (.iconst 2, 1) := by decide +kernel
theorem dX10_tellCarried_70 : decode cX10_tellCarried 70 = .ok (.idiv, 1) := by decide +kernel
theorem dX10_tellCarried_71 : decode cX10_tellCarried 71 = .ok (.if_icmp .ge 7, 3) := by decide +kernel
theorem dX10_tellCarried_74 : decode cX10_tellCarried 74 = .ok (.iconst 0, 1) := by decide +kernel
theorem dX10_tellCarried_75 : decode cX10_tellCarried 75 = .ok (.goto 5, 3) := by decide +kernel
theorem dX10_tellCarried_78 : decode cX10_tellCarried 78 = .ok (.iload 7, 2) := by decide +kernel
theorem dX10_tellCarried_80 : decode cX10_tellCarried 80 = .ok (.iadd, 1) := by decide +kernel
theorem dX10_tellCarried_81 : decode cX10_tellCarried 81 = .ok (.istore_n 3, 1) := by decide +kernel
theorem dX10_tellCarried_82 : decode cX10_tellCarried 82 = .ok (.iload 4, 2) := by decide +kernel
theorem dX10_tellCarried_84 : decode cX10_tellCarried 84 = .ok (.iload 5, 2) := by decide +kernel
theorem dX10_tellCarried_86 : decode cX10_tellCarried 86 = .ok (.iload 6, 2) := by decide +kernel
theorem dX10_tellCarried_88 : decode cX10_tellCarried 88 = .ok (.ishr, 1) := by decide +kernel
theorem dX10_tellCarried_89 : decode cX10_tellCarried 89 = .ok (.iconst 1, 1) := by decide +kernel
theorem dX10_tellCarried_90 : decode cX10_tellCarried 90 = .ok (.iand, 1) := by decide +kernel
theorem dX10_tellCarried_91 : decode cX10_tellCarried 91 = .ok (.ifCond .ne 7, 3) := by decide +kernel
theorem dX10_tellCarried_94 : decode cX10_tellCarried 94 = .ok (.iconst 1, 1) := by decide +kernel
theorem dX10_tellCarried_95 : decode cX10_tellCarried 95 = .ok (.goto 4, 3) := by decide +kernel
theorem dX10_tellCarried_98 : decode cX10_tellCarried 98 = .ok (.iconst 0, 1) := by decide +kernel
theorem dX10_tellCarried_99 : decode cX10_tellCarried 99 = .ok (.iadd, 1) := by decide +kernel
theorem dX10_tellCarried_100 : decode cX10_tellCarried 100 = .ok (.istore 4, 2) := by decide +kernel
theorem dX10_tellCarried_102 : decode cX10_tellCarried 102 = .ok (.iload 6, 2) := by decide +kernel
theorem dX10_tellCarried_104 : decode cX10_tellCarried 104 = .ok (.istore 8, 2) := by decide +kernel
theorem dX10_tellCarried_106 : decode cX10_tellCarried 106 = .ok (.iload 5, 2) := by decide +kernel
theorem dX10_tellCarried_108 : decode cX10_tellCarried 108 = .ok (.iload 8, 2) := by decide +kernel
theorem dX10_tellCarried_110 : decode cX10_tellCarried 110 = .ok (.ishr, 1) := by decide +kernel
theorem dX10_tellCarried_111 : decode cX10_tellCarried 111 = .ok (.iconst 1, 1) := by decide +kernel
theorem dX10_tellCarried_112 : decode cX10_tellCarried 112 = .ok (.iand, 1) := by decide +kernel
theorem dX10_tellCarried_113 : decode cX10_tellCarried 113 = .ok (.ifCond .ne 29, 3) := by decide +kernel
theorem dX10_tellCarried_116 : decode cX10_tellCarried 116 = .ok (.iload 5, 2) := by decide +kernel
theorem dX10_tellCarried_118 : decode cX10_tellCarried 118 = .ok (.iconst 1, 1) := by decide +kernel
theorem dX10_tellCarried_119 : decode cX10_tellCarried 119 = .ok (.iload 8, 2) := by decide +kernel
theorem dX10_tellCarried_121 : decode cX10_tellCarried 121 = .ok (.ishl, 1) := by decide +kernel
theorem dX10_tellCarried_122 : decode cX10_tellCarried 122 = .ok (.ior, 1) := by decide +kernel
theorem dX10_tellCarried_123 : decode cX10_tellCarried 123 = .ok (.istore 5, 2) := by decide +kernel
theorem dX10_tellCarried_125 : decode cX10_tellCarried 125 = .ok (.aload_n 0, 1) := by decide +kernel
theorem dX10_tellCarried_126 : decode cX10_tellCarried 126 = .ok (.getfield 22, 3) := by decide +kernel
theorem dX10_tellCarried_129 : decode cX10_tellCarried 129 = .ok (.aload_n 0, 1) := by decide +kernel
theorem dX10_tellCarried_130 : decode cX10_tellCarried 130 = .ok (.getfield 31, 3) := by decide +kernel
theorem dX10_tellCarried_133 : decode cX10_tellCarried 133 = .ok (.iload 8, 2) := by decide +kernel
theorem dX10_tellCarried_135 : decode cX10_tellCarried 135 = .ok (.iaload, 1) := by decide +kernel
theorem dX10_tellCarried_136 : decode cX10_tellCarried 136 = .ok (.iaload, 1) := by decide +kernel
theorem dX10_tellCarried_137 : decode cX10_tellCarried 137 = .ok (.istore 8, 2) := by decide +kernel
theorem dX10_tellCarried_139 : decode cX10_tellCarried 139 = .ok (.goto (-33), 3) := by decide +kernel
theorem dX10_tellCarried_142 : decode cX10_tellCarried 142 = .ok (.iinc 6 1, 3) := by decide +kernel
theorem dX10_tellCarried_145 : decode cX10_tellCarried 145 = .ok (.goto (-132), 3) := by decide +kernel
theorem dX10_tellCarried_148 : decode cX10_tellCarried 148 = .ok (.iload_n 1, 1) := by decide +kernel
theorem dX10_tellCarried_149 : decode cX10_tellCarried 149 = .ok (.ifCond .ne 9, 3) := by decide +kernel
theorem dX10_tellCarried_152 : decode cX10_tellCarried 152 = .ok (.iload_n 2, 1) := by decide +kernel
theorem dX10_tellCarried_153 : decode cX10_tellCarried 153 = .ok (.iload_n 3, 1) := by decide +kernel
theorem dX10_tellCarried_154 : decode cX10_tellCarried 154 = .ok (.iadd, 1) := by decide +kernel
theorem dX10_tellCarried_155 : decode cX10_tellCarried 155 = .ok (.goto 28, 3) := by decide +kernel
theorem dX10_tellCarried_158 : decode cX10_tellCarried 158 = .ok (.iload_n 1, 1) := by decide +kernel
theorem dX10_tellCarried_159 : decode cX10_tellCarried 159 = .ok (.iconst 1, 1) := by decide +kernel
theorem dX10_tellCarried_160 : decode cX10_tellCarried 160 = .ok (.if_icmp .ne 13, 3) := by decide +kernel
theorem dX10_tellCarried_163 : decode cX10_tellCarried 163 = .ok (.aload_n 0, 1) := by decide +kernel
theorem dX10_tellCarried_164 : decode cX10_tellCarried 164 = .ok (.getfield 105, 3) := by decide +kernel
theorem dX10_tellCarried_167 : decode cX10_tellCarried 167 = .ok (.iload 4, 2) := by decide +kernel
theorem dX10_tellCarried_169 : decode cX10_tellCarried 169 = .ok (.isub, 1) := by decide +kernel
theorem dX10_tellCarried_170 : decode cX10_tellCarried 170 = .ok (.goto 13, 3) := by decide +kernel
theorem dX10_tellCarried_173 : decode cX10_tellCarried 173 = .ok (.iload_n 2, 1) := by decide +kernel
theorem dX10_tellCarried_174 : decode cX10_tellCarried 174 = .ok (.iload_n 3, 1) := by decide +kernel
theorem dX10_tellCarried_175 : decode cX10_tellCarried 175 = .ok (.if_icmp .le 7, 3) := by decide +kernel
theorem dX10_tellCarried_178 : decode cX10_tellCarried 178 = .ok (.iload_n 2, 1) := by decide +kernel
theorem dX10_tellCarried_179 : decode cX10_tellCarried 179 = .ok (.goto 4, 3) := by decide +kernel
theorem dX10_tellCarried_182 : decode cX10_tellCarried 182 = .ok (.iload_n 3, 1) := by decide +kernel
theorem dX10_tellCarried_183 : decode cX10_tellCarried 183 = .ok (.ireturn, 1) := by decide +kernel
theorem dX10_carried_0 : decode cX10_carried 0 = .ok (.aload_n 0, 1) := by decide +kernel
theorem dX10_carried_1 : decode cX10_carried 1 = .ok (.invokevirtual 137, 3) := by decide +kernel
theorem dX10_carried_4 : decode cX10_carried 4 = .ok (.ifCond .eq 6, 3) := by decide +kernel
theorem dX10_carried_7 : decode cX10_carried 7 = .ok (.bipush (-103), 2) := by decide +kernel
theorem dX10_carried_9 : decode cX10_carried 9 = .ok (.ireturn, 1) := by decide +kernel
theorem dX10_carried_10 : decode cX10_carried 10 = .ok (.aload_n 0, 1) := by decide +kernel
theorem dX10_carried_11 : decode cX10_carried 11 = .ok (.iload_n 1, 1) := by decide +kernel
theorem dX10_carried_12 : decode cX10_carried 12 = .ok (.invokevirtual 141, 3) := by decide +kernel
theorem dX10_carried_15 : decode cX10_carried 15 = .ok (.ifCond .eq 23, 3) := by decide +kernel
theorem dX10_carried_18 : decode cX10_carried 18 = .ok (.iload_n 2, 1) := by decide +kernel
theorem dX10_carried_19 : decode cX10_carried 19 = .ok (.i2l, 1) := by decide +kernel
theorem dX10_carried_20 : decode cX10_carried 20 = .ok (.lconst 0, 1) := by decide +kernel
theorem dX10_carried_21 : decode cX10_carried 21 = .ok (.ldc2_w 189, 3) := by decide +kernel
theorem dX10_carried_24 : decode cX10_carried 24 = .ok (.invokestatic 68, 3) := by decide +kernel
theorem dX10_carried_27 : decode cX10_carried 27 = .ok (.ifCond .eq 11, 3) := by decide +kernel
theorem dX10_carried_30 : decode cX10_carried 30 = .ok (.aload_n 0, 1) := by decide +kernel
theorem dX10_carried_31 : decode cX10_carried 31 = .ok (.iload_n 2, 1) := by decide +kernel
theorem dX10_carried_32 : decode cX10_carried 32 = .ok (.invokevirtual 191, 3) := by decide +kernel
theorem dX10_carried_35 : decode cX10_carried 35 = .ok (.goto 5, 3) := by decide +kernel
theorem dX10_carried_38 : decode cX10_carried 38 = .ok (.bipush (-102), 2) := by decide +kernel
theorem dX10_carried_40 : decode cX10_carried 40 = .ok (.ireturn, 1) := by decide +kernel
theorem dX10_draw_0 : decode cX10_draw 0 = .ok (.aload_n 0, 1) := by decide +kernel
theorem dX10_draw_1 : decode cX10_draw 1 = .ok (.ldc2_w 194, 3) := by decide +kernel
theorem dX10_draw_4 : decode cX10_draw 4 = .ok (.aload_n 0, 1) := by decide +kernel
theorem dX10_draw_5 : decode cX10_draw 5 = .ok (.getfield 196, 3) := by decide +kernel
theorem dX10_draw_8 : decode cX10_draw 8 = .ok (.i2l, 1) := by decide +kernel
theorem dX10_draw_9 : decode cX10_draw 9 = .ok (.lmul, 1) := by decide +kernel
theorem dX10_draw_10 : decode cX10_draw 10 = .ok (.ldc2_w 199, 3) := by decide +kernel
theorem dX10_draw_13 : decode cX10_draw 13 = .ok (.ladd, 1) := by decide +kernel
theorem dX10_draw_14 : decode cX10_draw 14 = .ok (.ldc2_w 201, 3) := by decide +kernel
theorem dX10_draw_17 : decode cX10_draw 17 = .ok (.land, 1) := by decide +kernel
theorem dX10_draw_18 : decode cX10_draw 18 = .ok (.l2i, 1) := by decide +kernel
theorem dX10_draw_19 : decode cX10_draw 19 = .ok (.putfield 196, 3) := by decide +kernel
theorem dX10_draw_22 : decode cX10_draw 22 = .ok (.aload_n 0, 1) := by decide +kernel
theorem dX10_draw_23 : decode cX10_draw 23 = .ok (.getfield 196, 3) := by decide +kernel
theorem dX10_draw_26 : decode cX10_draw 26 = .ok (.ldc 203, 2) := by decide +kernel
theorem dX10_draw_28 : decode cX10_draw 28 = .ok (.idiv, 1) := by decide +kernel
theorem dX10_draw_29 : decode cX10_draw 29 = .ok (.iload_n 1, 1) := by decide +kernel
theorem dX10_draw_30 : decode cX10_draw 30 = .ok (.irem, 1) := by decide +kernel
theorem dX10_draw_31 : decode cX10_draw 31 = .ok (.ireturn, 1) := by decide +kernel
theorem dX10_flood_0 : decode cX10_flood 0 = .ok (.aload_n 0, 1) := by decide +kernel
theorem dX10_flood_1 : decode cX10_flood 1 = .ok (.invokevirtual 137, 3) := by decide +kernel
theorem dX10_flood_4 : decode cX10_flood 4 = .ok (.ifCond .eq 6, 3) := by decide +kernel
theorem dX10_flood_7 : decode cX10_flood 7 = .ok (.bipush (-103), 2) := by decide +kernel
theorem dX10_flood_9 : decode cX10_flood 9 = .ok (.ireturn, 1) := by decide +kernel
theorem dX10_flood_10 : decode cX10_flood 10 = .ok (.iload_n 1, 1) := by decide +kernel
theorem dX10_flood_11 : decode cX10_flood 11 = .ok (.ifCond .ge 6, 3) := by decide +kernel
theorem dX10_flood_14 : decode cX10_flood 14 = .ok (.bipush (-102), 2) := by decide +kernel
theorem dX10_flood_16 : decode cX10_flood 16 = .ok (.ireturn, 1) := by decide +kernel
theorem dX10_flood_17 : decode cX10_flood 17 = .ok (.aload_n 0, 1) := by decide +kernel
theorem dX10_flood_18 : decode cX10_flood 18 = .ok (.iload_n 1, 1) := by decide +kernel
theorem dX10_flood_19 : decode cX10_flood 19 = .ok (.putfield 196, 3) := by decide +kernel
theorem dX10_flood_22 : decode cX10_flood 22 = .ok (.aload_n 0, 1) := by decide +kernel
theorem dX10_flood_23 : decode cX10_flood 23 = .ok (.getfield 105, 3) := by decide +kernel
theorem dX10_flood_26 : decode cX10_flood 26 = .ok (.iconst 1, 1) := by decide +kernel
theorem dX10_flood_27 : decode cX10_flood 27 = .ok (.isub, 1) := by decide +kernel
theorem dX10_flood_28 : decode cX10_flood 28 = .ok (.istore_n 2, 1) := by decide +kernel
theorem dX10_flood_29 : decode cX10_flood 29 = .ok (.iload_n 2, 1) := by decide +kernel
theorem dX10_flood_30 : decode cX10_flood 30 = .ok (.ifCond .le 69, 3) := by decide +kernel
theorem dX10_flood_33 : decode cX10_flood 33 = .ok (.aload_n 0, 1) := by decide +kernel
theorem dX10_flood_34 : decode cX10_flood 34 = .ok (.iload_n 2, 1) := by decide +kernel
theorem dX10_flood_35 : decode cX10_flood 35 = .ok (.iconst 1, 1) := by decide +kernel
theorem dX10_flood_36 : decode cX10_flood 36 = .ok (.iadd, 1) := by decide +kernel
theorem dX10_flood_37 : decode cX10_flood 37 = .ok (.invokevirtual 204, 3) := by decide +kernel
theorem dX10_flood_40 : decode cX10_flood 40 = .ok (.istore_n 3, 1) := by decide +kernel
theorem dX10_flood_41 : decode cX10_flood 41 = .ok (.aload_n 0, 1) := by decide +kernel
theorem dX10_flood_42 : decode cX10_flood 42 = .ok (.iload_n 2, 1) := by decide +kernel
theorem dX10_flood_43 : decode cX10_flood 43 = .ok (.invokevirtual 123, 3) := by decide +kernel
theorem dX10_flood_46 : decode cX10_flood 46 = .ok (.istore 4, 2) := by decide +kernel
theorem dX10_flood_48 : decode cX10_flood 48 = .ok (.aload_n 0, 1) := by decide +kernel
theorem dX10_flood_49 : decode cX10_flood 49 = .ok (.iload_n 3, 1) := by decide +kernel
theorem dX10_flood_50 : decode cX10_flood 50 = .ok (.invokevirtual 123, 3) := by decide +kernel
theorem dX10_flood_53 : decode cX10_flood 53 = .ok (.istore 5, 2) := by decide +kernel
theorem dX10_flood_55 : decode cX10_flood 55 = .ok (.aload_n 0, 1) := by decide +kernel
theorem dX10_flood_56 : decode cX10_flood 56 = .ok (.getfield 22, 3) := by decide +kernel
theorem dX10_flood_59 : decode cX10_flood 59 = .ok (.iload 4, 2) := by decide +kernel
theorem dX10_flood_61 : decode cX10_flood 61 = .ok (.iload_n 3, 1) := by decide +kernel
theorem dX10_flood_62 : decode cX10_flood 62 = .ok (.iastore, 1) := by decide +kernel
theorem dX10_flood_63 : decode cX10_flood 63 = .ok (.aload_n 0, 1) := by decide +kernel
theorem dX10_flood_64 : decode cX10_flood 64 = .ok (.getfield 22, 3) := by decide +kernel
theorem dX10_flood_67 : decode cX10_flood 67 = .ok (.iload 5, 2) := by decide +kernel
theorem dX10_flood_69 : decode cX10_flood 69 = .ok (.iload_n 2, 1) := by decide +kernel
theorem dX10_flood_70 : decode cX10_flood 70 = .ok (.iastore, 1) := by decide +kernel
theorem dX10_flood_71 : decode cX10_flood 71 = .ok (.aload_n 0, 1) := by decide +kernel
theorem dX10_flood_72 : decode cX10_flood 72 = .ok (.iconst 2, 1) := by decide +kernel
theorem dX10_flood_73 : decode cX10_flood 73 = .ok (.invokevirtual 204, 3) := by decide +kernel
theorem dX10_flood_76 : decode cX10_flood 76 = .ok (.iconst 1, 1) := by decide +kernel
theorem dX10_flood_77 : decode cX10_flood 77 = .ok (.if_icmp .ne 16, 3) := by decide +kernel
theorem dX10_flood_80 : decode cX10_flood 80 = .ok (.aload_n 0, 1) := by decide +kernel
theorem dX10_flood_81 : decode cX10_flood 81 = .ok (.getfield 16, 3) := by decide +kernel
theorem dX10_flood_84 : decode cX10_flood 84 = .ok (.aload_n 0, 1) := by decide +kernel
theorem dX10_flood_85 : decode cX10_flood 85 = .ok (.getfield 19, 3) := by decide +kernel
theorem dX10_flood_88 : decode cX10_flood 88 = .ok (.iload 5, 2) := by decide +kernel
theorem dX10_flood_90 : decode cX10_flood 90 = .ok (.invokestatic 126, 3) := by decide +kernel
theorem dX10_flood_93 : decode cX10_flood 93 = .ok (.iinc 2 (-1), 3) := by decide +kernel
theorem dX10_flood_96 : decode cX10_flood 96 = .ok (.goto (-67), 3) := by decide +kernel
theorem dX10_flood_99 : decode cX10_flood 99 = .ok (.aload_n 0, 1) := by decide +kernel
theorem dX10_flood_100 : decode cX10_flood 100 = .ok (.getfield 196, 3) := by decide +kernel
theorem dX10_flood_103 : decode cX10_flood 103 = .ok (.ireturn, 1) := by decide +kernel
theorem dX10_looksOf_0 : decode cX10_looksOf 0 = .ok (.iconst 0, 1) := by decide +kernel
theorem dX10_looksOf_1 : decode cX10_looksOf 1 = .ok (.istore_n 1, 1) := by decide +kernel
theorem dX10_looksOf_2 : decode cX10_looksOf 2 = .ok (.iconst 0, 1) := by decide +kernel
theorem dX10_looksOf_3 : decode cX10_looksOf 3 = .ok (.istore_n 2, 1) := by decide +kernel
theorem dX10_looksOf_4 : decode cX10_looksOf 4 = .ok (.iload_n 2, 1) := by decide +kernel
theorem dX10_looksOf_5 : decode cX10_looksOf 5 = .ok (.iconst 5, 1) := by decide +kernel
theorem dX10_looksOf_6 : decode cX10_looksOf 6 = .ok (.if_icmp .ge 62, 3) := by decide +kernel
theorem dX10_looksOf_9 : decode cX10_looksOf 9 = .ok (.iconst 0, 1) := by decide +kernel
theorem dX10_looksOf_10 : decode cX10_looksOf 10 = .ok (.istore_n 3, 1) := by decide +kernel
theorem dX10_looksOf_11 : decode cX10_looksOf 11 = .ok (.iconst 0, 1) := by decide +kernel
theorem dX10_looksOf_12 : decode cX10_looksOf 12 = .ok (.istore 4, 2) := by decide +kernel
theorem dX10_looksOf_14 : decode cX10_looksOf 14 = .ok (.iload 4, 2) := by decide +kernel
theorem dX10_looksOf_16 : decode cX10_looksOf 16 = .ok (.aload_n 0, 1) := by decide +kernel
theorem dX10_looksOf_17 : decode cX10_looksOf 17 = .ok (.getfield 105, 3) := by decide +kernel
theorem dX10_looksOf_20 : decode cX10_looksOf 20 = .ok (.if_icmp .ge 28, 3) := by decide +kernel
theorem dX10_looksOf_23 : decode cX10_looksOf 23 = .ok (.iload_n 3, 1) := by decide +kernel
theorem dX10_looksOf_24 : decode cX10_looksOf 24 = .ok (.aload_n 0, 1) := by decide +kernel
theorem dX10_looksOf_25 : decode cX10_looksOf 25 = .ok (.getfield 13, 3) := by decide +kernel
theorem dX10_looksOf_28 : decode cX10_looksOf 28 = .ok (.iload 4, 2) := by decide +kernel
theorem dX10_looksOf_30 : decode cX10_looksOf 30 = .ok (.iaload, 1) := by decide +kernel
theorem dX10_looksOf_31 : decode cX10_looksOf 31 = .ok (.iload_n 2, 1) := by decide +kernel
theorem dX10_looksOf_32 : decode cX10_looksOf 32 = .ok (.if_icmp .ne 7, 3) := by decide +kernel
theorem dX10_looksOf_35 : decode cX10_looksOf 35 = .ok (.iconst 1, 1) := by decide +kernel
theorem dX10_looksOf_36 : decode cX10_looksOf 36 = .ok (.goto 4, 3) := by decide +kernel
theorem dX10_looksOf_39 : decode cX10_looksOf 39 = .ok (.iconst 0, 1) := by decide +kernel
theorem dX10_looksOf_40 : decode cX10_looksOf 40 = .ok (.iadd, 1) := by decide +kernel
theorem dX10_looksOf_41 : decode cX10_looksOf 41 = .ok (.istore_n 3, 1) := by decide +kernel
theorem dX10_looksOf_42 : decode cX10_looksOf 42 = .ok (.iinc 4 1, 3) := by decide +kernel
theorem dX10_looksOf_45 : decode cX10_looksOf 45 = .ok (.goto (-31), 3) := by decide +kernel
theorem dX10_looksOf_48 : decode cX10_looksOf 48 = .ok (.iload_n 1, 1) := by decide +kernel
theorem dX10_looksOf_49 : decode cX10_looksOf 49 = .ok (.iload_n 3, 1) := by decide +kernel
theorem dX10_looksOf_50 : decode cX10_looksOf 50 = .ok (.ifCond .le 9, 3) := by decide +kernel
theorem dX10_looksOf_53 : decode cX10_looksOf 53 = .ok (.iload_n 3, 1) := by decide +kernel
theorem dX10_looksOf_54 : decode cX10_looksOf 54 = .ok (.iconst 1, 1) := by decide +kernel
theorem dX10_looksOf_55 : decode cX10_looksOf 55 = .ok (.isub, 1) := by decide +kernel
theorem dX10_looksOf_56 : decode cX10_looksOf 56 = .ok (.goto 4, 3) := by decide +kernel
theorem dX10_looksOf_59 : decode cX10_looksOf 59 = .ok (.iconst 0, 1) := by decide +kernel
theorem dX10_looksOf_60 : decode cX10_looksOf 60 = .ok (.iadd, 1) := by decide +kernel
theorem dX10_looksOf_61 : decode cX10_looksOf 61 = .ok (.istore_n 1, 1) := by decide +kernel
theorem dX10_looksOf_62 : decode cX10_looksOf 62 = .ok (.iinc 2 1, 3) := by decide +kernel
theorem dX10_looksOf_65 : decode cX10_looksOf 65 = .ok (.goto (-61), 3) := by decide +kernel
theorem dX10_looksOf_68 : decode cX10_looksOf 68 = .ok (.iload_n 1, 1) := by decide +kernel
theorem dX10_looksOf_69 : decode cX10_looksOf 69 = .ok (.ireturn, 1) := by decide +kernel
theorem dX10_looks_0 : decode cX10_looks 0 = .ok (.aload_n 0, 1) := by decide +kernel
theorem dX10_looks_1 : decode cX10_looks 1 = .ok (.invokevirtual 137, 3) := by decide +kernel
theorem dX10_looks_4 : decode cX10_looks 4 = .ok (.ifCond .eq 8, 3) := by decide +kernel
theorem dX10_looks_7 : decode cX10_looks 7 = .ok (.bipush (-103), 2) := by decide +kernel
theorem dX10_looks_9 : decode cX10_looks 9 = .ok (.goto 7, 3) := by decide +kernel
theorem dX10_looks_12 : decode cX10_looks 12 = .ok (.aload_n 0, 1) := by decide +kernel
theorem dX10_looks_13 : decode cX10_looks 13 = .ok (.invokevirtual 207, 3) := by decide +kernel
theorem dX10_looks_16 : decode cX10_looks 16 = .ok (.ireturn, 1) := by decide +kernel
theorem dX10_was_0 : decode cX10_was 0 = .ok (.aload_n 0, 1) := by decide +kernel
theorem dX10_was_1 : decode cX10_was 1 = .ok (.iload_n 1, 1) := by decide +kernel
theorem dX10_was_2 : decode cX10_was 2 = .ok (.invokevirtual 112, 3) := by decide +kernel
theorem dX10_was_5 : decode cX10_was 5 = .ok (.ifCond .ne 6, 3) := by decide +kernel
theorem dX10_was_8 : decode cX10_was 8 = .ok (.bipush (-101), 2) := by decide +kernel
theorem dX10_was_10 : decode cX10_was 10 = .ok (.ireturn, 1) := by decide +kernel
theorem dX10_was_11 : decode cX10_was 11 = .ok (.iload_n 2, 1) := by decide +kernel
theorem dX10_was_12 : decode cX10_was 12 = .ok (.i2l, 1) := by decide +kernel
theorem dX10_was_13 : decode cX10_was 13 = .ok (.ldc2_w 210, 3) := by decide +kernel
theorem dX10_was_16 : decode cX10_was 16 = .ok (.ldc2_w 110, 3) := by decide +kernel
theorem dX10_was_19 : decode cX10_was 19 = .ok (.invokestatic 68, 3) := by decide +kernel
theorem dX10_was_22 : decode cX10_was 22 = .ok (.ifCond .ne 6, 3) := by decide +kernel
theorem dX10_was_25 : decode cX10_was 25 = .ok (.bipush (-102), 2) := by decide +kernel
theorem dX10_was_27 : decode cX10_was 27 = .ok (.ireturn, 1) := by decide +kernel
theorem dX10_was_28 : decode cX10_was 28 = .ok (.aload_n 0, 1) := by decide +kernel
theorem dX10_was_29 : decode cX10_was 29 = .ok (.getfield 25, 3) := by decide +kernel
theorem dX10_was_32 : decode cX10_was 32 = .ok (.iload_n 1, 1) := by decide +kernel
theorem dX10_was_33 : decode cX10_was 33 = .ok (.iaload, 1) := by decide +kernel
theorem dX10_was_34 : decode cX10_was 34 = .ok (.istore_n 3, 1) := by decide +kernel
theorem dX10_was_35 : decode cX10_was 35 = .ok (.aload_n 0, 1) := by decide +kernel
theorem dX10_was_36 : decode cX10_was 36 = .ok (.getfield 25, 3) := by decide +kernel
theorem dX10_was_39 : decode cX10_was 39 = .ok (.iload_n 1, 1) := by decide +kernel
theorem dX10_was_40 : decode cX10_was 40 = .ok (.iload_n 2, 1) := by decide +kernel
theorem dX10_was_41 : decode cX10_was 41 = .ok (.iastore, 1) := by decide +kernel
theorem dX10_was_42 : decode cX10_was 42 = .ok (.iload_n 3, 1) := by decide +kernel
theorem dX10_was_43 : decode cX10_was 43 = .ok (.ireturn, 1) := by decide +kernel
theorem dX10_isLast_0 : decode cX10_isLast 0 = .ok (.iconst 1, 1) := by decide +kernel
theorem dX10_isLast_1 : decode cX10_isLast 1 = .ok (.istore_n 1, 1) := by decide +kernel
theorem dX10_isLast_2 : decode cX10_isLast 2 = .ok (.iconst 0, 1) := by decide +kernel
theorem dX10_isLast_3 : decode cX10_isLast 3 = .ok (.istore_n 2, 1) := by decide +kernel
theorem dX10_isLast_4 : decode cX10_isLast 4 = .ok (.iload_n 2, 1) := by decide +kernel
theorem dX10_isLast_5 : decode cX10_isLast 5 = .ok (.aload_n 0, 1) := by decide +kernel
theorem dX10_isLast_6 : decode cX10_isLast 6 = .ok (.getfield 105, 3) := by decide +kernel
theorem dX10_isLast_9 : decode cX10_isLast 9 = .ok (.if_icmp .ge 66, 3) := by decide +kernel
theorem dX10_isLast_12 : decode cX10_isLast 12 = .ok (.aload_n 0, 1) := by decide +kernel
theorem dX10_isLast_13 : decode cX10_isLast 13 = .ok (.getfield 31, 3) := by decide +kernel
theorem dX10_isLast_16 : decode cX10_isLast 16 = .ok (.iload_n 2, 1) := by decide +kernel
theorem dX10_isLast_17 : decode cX10_isLast 17 = .ok (.iaload, 1) := by decide +kernel
theorem dX10_isLast_18 : decode cX10_isLast 18 = .ok (.istore_n 3, 1) := by decide +kernel
theorem dX10_isLast_19 : decode cX10_isLast 19 = .ok (.iload_n 1, 1) := by decide +kernel
theorem dX10_isLast_20 : decode cX10_isLast 20 = .ok (.ifCond .eq 47, 3) := by decide +kernel
theorem dX10_isLast_23 : decode cX10_isLast 23 = .ok (.aload_n 0, 1) := by decide +kernel
theorem dX10_isLast_24 : decode cX10_isLast 24 = .ok (.getfield 25, 3) := by decide +kernel
theorem dX10_isLast_27 : decode cX10_isLast 27 = .ok (.iload_n 3, 1) := by decide +kernel
theorem dX10_isLast_28 : decode cX10_isLast 28 = .ok (.iaload, 1) := by decide +kernel
theorem dX10_isLast_29 : decode cX10_isLast 29 = .ok (.iconst (-1), 1) := by decide +kernel
theorem dX10_isLast_30 : decode cX10_isLast 30 = .ok (.if_icmp .eq 33, 3) := by decide +kernel
theorem dX10_isLast_33 : decode cX10_isLast 33 = .ok (.aload_n 0, 1) := by decide +kernel
theorem dX10_isLast_34 : decode cX10_isLast 34 = .ok (.getfield 13, 3) := by decide +kernel
theorem dX10_isLast_37 : decode cX10_isLast 37 = .ok (.iload_n 3, 1) := by decide +kernel
theorem dX10_isLast_38 : decode cX10_isLast 38 = .ok (.iaload, 1) := by decide +kernel
theorem dX10_isLast_39 : decode cX10_isLast 39 = .ok (.aload_n 0, 1) := by decide +kernel
theorem dX10_isLast_40 : decode cX10_isLast 40 = .ok (.getfield 25, 3) := by decide +kernel
theorem dX10_isLast_43 : decode cX10_isLast 43 = .ok (.iload_n 3, 1) := by decide +kernel
theorem dX10_isLast_44 : decode cX10_isLast 44 = .ok (.iaload, 1) := by decide +kernel
theorem dX10_isLast_45 : decode cX10_isLast 45 = .ok (.aload_n 0, 1) := by decide +kernel
theorem dX10_isLast_46 : decode cX10_isLast 46 = .ok (.getfield 28, 3) := by decide +kernel
theorem dX10_isLast_49 : decode cX10_isLast 49 = .ok (.iload_n 2, 1) := by decide +kernel
theorem dX10_isLast_50 : decode cX10_isLast 50 = .ok (.iaload, 1) := by decide +kernel
theorem dX10_isLast_51 : decode cX10_isLast 51 = .ok (.invokestatic 133, 3) := by decide +kernel
theorem dX10_isLast_54 : decode cX10_isLast 54 = .ok (.aload_n 0, 1) := by decide +kernel
theorem dX10_isLast_55 : decode cX10_isLast 55 = .ok (.getfield 16, 3) := by decide +kernel
theorem dX10_isLast_58 : decode cX10_isLast 58 = .ok (.iload_n 3, 1) := by decide +kernel
theorem dX10_isLast_59 : decode cX10_isLast 59 = .ok (.iaload, 1) := by decide +kernel
theorem dX10_isLast_60 : decode cX10_isLast 60 = .ok (.if_icmp .ne 7, 3) := by decide +kernel
theorem dX10_isLast_63 : decode cX10_isLast 63 = .ok (.iconst 1, 1) := by decide +kernel
theorem dX10_isLast_64 : decode cX10_isLast 64 = .ok (.goto 4, 3) := by decide +kernel
theorem dX10_isLast_67 : decode cX10_isLast 67 = .ok (.iconst 0, 1) := by decide +kernel
theorem dX10_isLast_68 : decode cX10_isLast 68 = .ok (.istore_n 1, 1) := by decide +kernel
theorem dX10_isLast_69 : decode cX10_isLast 69 = .ok (.iinc 2 1, 3) := by decide +kernel
theorem dX10_isLast_72 : decode cX10_isLast 72 = .ok (.goto (-68), 3) := by decide +kernel
theorem dX10_isLast_75 : decode cX10_isLast 75 = .ok (.iload_n 1, 1) := by decide +kernel
theorem dX10_isLast_76 : decode cX10_isLast 76 = .ok (.ireturn, 1) := by decide +kernel
theorem dX10_last_0 : decode cX10_last 0 = .ok (.aload_n 0, 1) := by decide +kernel
theorem dX10_last_1 : decode cX10_last 1 = .ok (.invokevirtual 137, 3) := by decide +kernel
theorem dX10_last_4 : decode cX10_last 4 = .ok (.ifCond .eq 6, 3) := by decide +kernel
theorem dX10_last_7 : decode cX10_last 7 = .ok (.bipush (-103), 2) := by decide +kernel
theorem dX10_last_9 : decode cX10_last 9 = .ok (.ireturn, 1) := by decide +kernel
theorem dX10_last_10 : decode cX10_last 10 = .ok (.iload_n 1, 1) := by decide +kernel
theorem dX10_last_11 : decode cX10_last 11 = .ok (.i2l, 1) := by decide +kernel
theorem dX10_last_12 : decode cX10_last 12 = .ok (.lconst 0, 1) := by decide +kernel
theorem dX10_last_13 : decode cX10_last 13 = .ok (.lconst 1, 1) := by decide +kernel
theorem dX10_last_14 : decode cX10_last 14 = .ok (.invokestatic 68, 3) := by decide +kernel
theorem dX10_last_17 : decode cX10_last 17 = .ok (.ifCond .ne 6, 3) := by decide +kernel
theorem dX10_last_20 : decode cX10_last 20 = .ok (.bipush (-102), 2) := by decide +kernel
theorem dX10_last_22 : decode cX10_last 22 = .ok (.ireturn, 1) := by decide +kernel
theorem dX10_last_23 : decode cX10_last 23 = .ok (.aload_n 0, 1) := by decide +kernel
theorem dX10_last_24 : decode cX10_last 24 = .ok (.getfield 212, 3) := by decide +kernel
theorem dX10_last_27 : decode cX10_last 27 = .ok (.bipush 40, 2) := by decide +kernel
theorem dX10_last_29 : decode cX10_last 29 = .ok (.if_icmp .ne 6, 3) := by decide +kernel
theorem dX10_last_32 : decode cX10_last 32 = .ok (.bipush (-103), 2) := by decide +kernel
theorem dX10_last_34 : decode cX10_last 34 = .ok (.ireturn, 1) := by decide +kernel
theorem dX10_last_35 : decode cX10_last 35 = .ok (.aload_n 0, 1) := by decide +kernel
theorem dX10_last_36 : decode cX10_last 36 = .ok (.dup, 1) := by decide +kernel
theorem dX10_last_37 : decode cX10_last 37 = .ok (.getfield 212, 3) := by decide +kernel
theorem dX10_last_40 : decode cX10_last 40 = .ok (.iconst 1, 1) := by decide +kernel
theorem dX10_last_41 : decode cX10_last 41 = .ok (.iadd, 1) := by decide +kernel
theorem dX10_last_42 : decode cX10_last 42 = .ok (.putfield 212, 3) := by decide +kernel
theorem dX10_last_45 : decode cX10_last 45 = .ok (.iconst 0, 1) := by decide +kernel
theorem dX10_last_46 : decode cX10_last 46 = .ok (.istore_n 2, 1) := by decide +kernel
theorem dX10_last_47 : decode cX10_last 47 = .ok (.iconst (-1), 1) := by decide +kernel
theorem dX10_last_48 : decode cX10_last 48 = .ok (.istore_n 3, 1) := by decide +kernel
theorem dX10_last_49 : decode cX10_last 49 = .ok (.iconst 1, 1) := by decide +kernel
theorem dX10_last_50 : decode cX10_last 50 = .ok (.istore 4, 2) := by decide +kernel
theorem dX10_last_52 : decode cX10_last 52 = .ok (.aload_n 0, 1) := by decide +kernel
theorem dX10_last_53 : decode cX10_last 53 = .ok (.invokevirtual 169, 3) := by decide +kernel
theorem dX10_last_56 : decode cX10_last 56 = .ok (.iload 4, 2) := by decide +kernel
theorem dX10_last_58 : decode cX10_last 58 = .ok (.ifCond .eq 35, 3) := by decide +kernel
theorem dX10_last_61 : decode cX10_last 61 = .ok (.aload_n 0, 1) := by decide +kernel
theorem dX10_last_62 : decode cX10_last 62 = .ok (.invokevirtual 215, 3) := by decide +kernel
theorem dX10_last_65 : decode cX10_last 65 = .ok (.ifCond .eq 19, 3) := by decide +kernel
theorem dX10_last_68 : decode cX10_last 68 = .ok (.iload_n 2, 1) := by decide +kernel
theorem dX10_last_69 : decode cX10_last 69 = .ok (.ifCond .ne 10, 3) := by decide +kernel
theorem dX10_last_72 : decode cX10_last 72 = .ok (.aload_n 0, 1) := by decide +kernel
theorem dX10_last_73 : decode cX10_last 73 = .ok (.invokevirtual 176, 3) := by decide +kernel
theorem dX10_last_76 : decode cX10_last 76 = .ok (.goto 4, 3) := by decide +kernel
theorem dX10_last_79 : decode cX10_last 79 = .ok (.iload_n 3, 1) := by decide +kernel
theorem dX10_last_80 : decode cX10_last 80 = .ok (.istore_n 3, 1) := by decide +kernel
theorem dX10_last_81 : decode cX10_last 81 = .ok (.iinc 2 1, 3) := by decide +kernel
theorem dX10_last_84 : decode cX10_last 84 = .ok (.aload_n 0, 1) := by decide +kernel
theorem dX10_last_85 : decode cX10_last 85 = .ok (.invokevirtual 179, 3) := by decide +kernel
theorem dX10_last_88 : decode cX10_last 88 = .ok (.istore 4, 2) := by decide +kernel
theorem dX10_last_90 : decode cX10_last 90 = .ok (.goto (-34), 3) := by decide +kernel
theorem dX10_last_93 : decode cX10_last 93 = .ok (.iload_n 1, 1) := by decide +kernel
theorem dX10_last_94 : decode cX10_last 94 = .ok (.ifCond .ne 7, 3) := by decide +kernel
theorem dX10_last_97 : decode cX10_last 97 = .ok (.iload_n 2, 1) := by decide +kernel
theorem dX10_last_98 : decode cX10_last 98 = .ok (.goto 4, 3) := by decide +kernel
theorem dX10_last_101 : decode cX10_last 101 = .ok (.iload_n 3, 1) := by decide +kernel
theorem dX10_last_102 : decode cX10_last 102 = .ok (.ireturn, 1) := by decide +kernel
theorem dX10_sure_0 : decode cX10_sure 0 = .ok (.aload_n 0, 1) := by decide +kernel
theorem dX10_sure_1 : decode cX10_sure 1 = .ok (.iload_n 1, 1) := by decide +kernel
theorem dX10_sure_2 : decode cX10_sure 2 = .ok (.invokevirtual 112, 3) := by decide +kernel
theorem dX10_sure_5 : decode cX10_sure 5 = .ok (.ifCond .ne 6, 3) := by decide +kernel
theorem dX10_sure_8 : decode cX10_sure 8 = .ok (.bipush (-101), 2) := by decide +kernel
theorem dX10_sure_10 : decode cX10_sure 10 = .ok (.ireturn, 1) := by decide +kernel
theorem dX10_sure_11 : decode cX10_sure 11 = .ok (.aload_n 0, 1) := by decide +kernel
theorem dX10_sure_12 : decode cX10_sure 12 = .ok (.invokevirtual 137, 3) := by decide +kernel
theorem dX10_sure_15 : decode cX10_sure 15 = .ok (.ifCond .ne 12, 3) := by decide +kernel
theorem dX10_sure_18 : decode cX10_sure 18 = .ok (.aload_n 0, 1) := by decide +kernel
theorem dX10_sure_19 : decode cX10_sure 19 = .ok (.getfield 212, 3) := by decide +kernel
theorem dX10_sure_22 : decode cX10_sure 22 = .ok (.bipush 40, 2) := by decide +kernel
theorem dX10_sure_24 : decode cX10_sure 24 = .ok (.if_icmp .ne 6, 3) := by decide +kernel
theorem dX10_sure_27 : decode cX10_sure 27 = .ok (.bipush (-103), 2) := by decide +kernel
theorem dX10_sure_29 : decode cX10_sure 29 = .ok (.ireturn, 1) := by decide +kernel
theorem dX10_sure_30 : decode cX10_sure 30 = .ok (.aload_n 0, 1) := by decide +kernel
theorem dX10_sure_31 : decode cX10_sure 31 = .ok (.dup, 1) := by decide +kernel
theorem dX10_sure_32 : decode cX10_sure 32 = .ok (.getfield 212, 3) := by decide +kernel
theorem dX10_sure_35 : decode cX10_sure 35 = .ok (.iconst 1, 1) := by decide +kernel
theorem dX10_sure_36 : decode cX10_sure 36 = .ok (.iadd, 1) := by decide +kernel
theorem dX10_sure_37 : decode cX10_sure 37 = .ok (.putfield 212, 3) := by decide +kernel
theorem dX10_sure_40 : decode cX10_sure 40 = .ok (.iconst 0, 1) := by decide +kernel
theorem dX10_sure_41 : decode cX10_sure 41 = .ok (.istore_n 2, 1) := by decide +kernel
theorem dX10_sure_42 : decode cX10_sure 42 = .ok (.iconst 1, 1) := by decide +kernel
theorem dX10_sure_43 : decode cX10_sure 43 = .ok (.istore_n 3, 1) := by decide +kernel
theorem dX10_sure_44 : decode cX10_sure 44 = .ok (.aload_n 0, 1) := by decide +kernel
theorem dX10_sure_45 : decode cX10_sure 45 = .ok (.invokevirtual 169, 3) := by decide +kernel
theorem dX10_sure_48 : decode cX10_sure 48 = .ok (.iload_n 3, 1) := by decide +kernel
theorem dX10_sure_49 : decode cX10_sure 49 = .ok (.ifCond .eq 58, 3) := by decide +kernel
theorem dX10_sure_52 : decode cX10_sure 52 = .ok (.aload_n 0, 1) := by decide +kernel
theorem dX10_sure_53 : decode cX10_sure 53 = .ok (.invokevirtual 215, 3) := by decide +kernel
theorem dX10_sure_56 : decode cX10_sure 56 = .ok (.ifCond .eq 43, 3) := by decide +kernel
theorem dX10_sure_59 : decode cX10_sure 59 = .ok (.iconst 0, 1) := by decide +kernel
theorem dX10_sure_60 : decode cX10_sure 60 = .ok (.istore 4, 2) := by decide +kernel
theorem dX10_sure_62 : decode cX10_sure 62 = .ok (.iload 4, 2) := by decide +kernel
theorem dX10_sure_64 : decode cX10_sure 64 = .ok (.aload_n 0, 1) := by decide +kernel
theorem dX10_sure_65 : decode cX10_sure 65 = .ok (.getfield 105, 3) := by decide +kernel
theorem dX10_sure_68 : decode cX10_sure 68 = .ok (.if_icmp .ge 31, 3) := by decide +kernel
theorem dX10_sure_71 : decode cX10_sure 71 = .ok (.iload_n 2, 1) := by decide +kernel
theorem dX10_sure_72 : decode cX10_sure 72 = .ok (.aload_n 0, 1) := by decide +kernel
theorem dX10_sure_73 : decode cX10_sure 73 = .ok (.getfield 31, 3) := by decide +kernel
theorem dX10_sure_76 : decode cX10_sure 76 = .ok (.iload 4, 2) := by decide +kernel
theorem dX10_sure_78 : decode cX10_sure 78 = .ok (.iaload, 1) := by decide +kernel
theorem dX10_sure_79 : decode cX10_sure 79 = .ok (.iload_n 1, 1) := by decide +kernel
theorem dX10_sure_80 : decode cX10_sure 80 = .ok (.if_icmp .ne 10, 3) := by decide +kernel
theorem dX10_sure_83 : decode cX10_sure 83 = .ok (.iconst 1, 1) := by decide +kernel
theorem dX10_sure_84 : decode cX10_sure 84 = .ok (.iload 4, 2) := by decide +kernel
theorem dX10_sure_86 : decode cX10_sure 86 = .ok (.ishl, 1) := by decide +kernel
theorem dX10_sure_87 : decode cX10_sure 87 = .ok (.goto 4, 3) := by decide +kernel
theorem dX10_sure_90 : decode cX10_sure 90 = .ok (.iconst 0, 1) := by decide +kernel
theorem dX10_sure_91 : decode cX10_sure 91 = .ok (.ior, 1) := by decide +kernel
theorem dX10_sure_92 : decode cX10_sure 92 = .ok (.istore_n 2, 1) := by decide +kernel
theorem dX10_sure_93 : decode cX10_sure 93 = .ok (.iinc 4 1, 3) := by decide +kernel
theorem dX10_sure_96 : decode cX10_sure 96 = .ok (.goto (-34), 3) := by decide +kernel
theorem dX10_sure_99 : decode cX10_sure 99 = .ok (.aload_n 0, 1) := by decide +kernel
theorem dX10_sure_100 : decode cX10_sure 100 = .ok (.invokevirtual 179, 3) := by decide +kernel
theorem dX10_sure_103 : decode cX10_sure 103 = .ok (.istore_n 3, 1) := by decide +kernel
theorem dX10_sure_104 : decode cX10_sure 104 = .ok (.goto (-56), 3) := by decide +kernel
theorem dX10_sure_107 : decode cX10_sure 107 = .ok (.iconst 0, 1) := by decide +kernel
theorem dX10_sure_108 : decode cX10_sure 108 = .ok (.istore 4, 2) := by decide +kernel
theorem dX10_sure_110 : decode cX10_sure 110 = .ok (.iload 4, 2) := by decide +kernel
theorem dX10_sure_112 : decode cX10_sure 112 = .ok (.aload_n 0, 1) := by decide +kernel
theorem dX10_sure_113 : decode cX10_sure 113 = .ok (.getfield 105, 3) := by decide +kernel
theorem dX10_sure_116 : decode cX10_sure 116 = .ok (.if_icmp .ge 20, 3) := by decide +kernel
theorem dX10_sure_119 : decode cX10_sure 119 = .ok (.iload_n 2, 1) := by decide +kernel
theorem dX10_sure_120 : decode cX10_sure 120 = .ok (.iconst 1, 1) := by decide +kernel
theorem dX10_sure_121 : decode cX10_sure 121 = .ok (.iload 4, 2) := by decide +kernel
theorem dX10_sure_123 : decode cX10_sure 123 = .ok (.ishl, 1) := by decide +kernel
theorem dX10_sure_124 : decode cX10_sure 124 = .ok (.if_icmp .ne 6, 3) := by decide +kernel
theorem dX10_sure_127 : decode cX10_sure 127 = .ok (.iload 4, 2) := by decide +kernel
theorem dX10_sure_129 : decode cX10_sure 129 = .ok (.ireturn, 1) := by decide +kernel
theorem dX10_sure_130 : decode cX10_sure 130 = .ok (.iinc 4 1, 3) := by decide +kernel
theorem dX10_sure_133 : decode cX10_sure 133 = .ok (.goto (-23), 3) := by decide +kernel
theorem dX10_sure_136 : decode cX10_sure 136 = .ok (.iconst (-1), 1) := by decide +kernel
theorem dX10_sure_137 : decode cX10_sure 137 = .ok (.ireturn, 1) := by decide +kernel
theorem dX10_oneSpring_0 : decode cX10_oneSpring 0 = .ok (.aload_n 0, 1) := by decide +kernel
theorem dX10_oneSpring_1 : decode cX10_oneSpring 1 = .ok (.aload_n 0, 1) := by decide +kernel
theorem dX10_oneSpring_2 : decode cX10_oneSpring 2 = .ok (.getfield 34, 3) := by decide +kernel
theorem dX10_oneSpring_5 : decode cX10_oneSpring 5 = .ok (.aload_n 0, 1) := by decide +kernel
theorem dX10_oneSpring_6 : decode cX10_oneSpring 6 = .ok (.getfield 37, 3) := by decide +kernel
theorem dX10_oneSpring_9 : decode cX10_oneSpring 9 = .ok (.aload_n 0, 1) := by decide +kernel
theorem dX10_oneSpring_10 : decode cX10_oneSpring 10 = .ok (.getfield 40, 3) := by decide +kernel
theorem dX10_oneSpring_13 : decode cX10_oneSpring 13 = .ok (.invokevirtual 185, 3) := by decide +kernel
theorem dX10_oneSpring_16 : decode cX10_oneSpring 16 = .ok (.istore_n 1, 1) := by decide +kernel
theorem dX10_oneSpring_17 : decode cX10_oneSpring 17 = .ok (.iload_n 1, 1) := by decide +kernel
theorem dX10_oneSpring_18 : decode cX10_oneSpring 18 = .ok (.ifCond .le 30, 3) := by decide +kernel
theorem dX10_oneSpring_21 : decode cX10_oneSpring 21 = .ok (.aload_n 0, 1) := by decide +kernel
theorem dX10_oneSpring_22 : decode cX10_oneSpring 22 = .ok (.aload_n 0, 1) := by decide +kernel
theorem dX10_oneSpring_23 : decode cX10_oneSpring 23 = .ok (.getfield 162, 3) := by decide +kernel
theorem dX10_oneSpring_26 : decode cX10_oneSpring 26 = .ok (.invokevirtual 141, 3) := by decide +kernel
theorem dX10_oneSpring_29 : decode cX10_oneSpring 29 = .ok (.ifCond .eq 19, 3) := by decide +kernel
theorem dX10_oneSpring_32 : decode cX10_oneSpring 32 = .ok (.aload_n 0, 1) := by decide +kernel
theorem dX10_oneSpring_33 : decode cX10_oneSpring 33 = .ok (.aload_n 0, 1) := by decide +kernel
theorem dX10_oneSpring_34 : decode cX10_oneSpring 34 = .ok (.getfield 34, 3) := by decide +kernel
theorem dX10_oneSpring_37 : decode cX10_oneSpring 37 = .ok (.aload_n 0, 1) := by decide +kernel
theorem dX10_oneSpring_38 : decode cX10_oneSpring 38 = .ok (.getfield 37, 3) := by decide +kernel
theorem dX10_oneSpring_41 : decode cX10_oneSpring 41 = .ok (.aload_n 0, 1) := by decide +kernel
theorem dX10_oneSpring_42 : decode cX10_oneSpring 42 = .ok (.getfield 40, 3) := by decide +kernel
theorem dX10_oneSpring_45 : decode cX10_oneSpring 45 = .ok (.invokevirtual 148, 3) := by decide +kernel
theorem dX10_oneSpring_48 : decode cX10_oneSpring 48 = .ok (.aload_n 0, 1) := by decide +kernel
theorem dX10_oneSpring_49 : decode cX10_oneSpring 49 = .ok (.aload_n 0, 1) := by decide +kernel
theorem dX10_oneSpring_50 : decode cX10_oneSpring 50 = .ok (.getfield 34, 3) := by decide +kernel
theorem dX10_oneSpring_53 : decode cX10_oneSpring 53 = .ok (.aload_n 0, 1) := by decide +kernel
theorem dX10_oneSpring_54 : decode cX10_oneSpring 54 = .ok (.getfield 40, 3) := by decide +kernel
theorem dX10_oneSpring_57 : decode cX10_oneSpring 57 = .ok (.invokevirtual 158, 3) := by decide +kernel
theorem dX10_oneSpring_60 : decode cX10_oneSpring 60 = .ok (.return_, 1) := by decide +kernel
theorem dX10_burn_0 : decode cX10_burn 0 = .ok (.iconst 0, 1) := by decide +kernel
theorem dX10_burn_1 : decode cX10_burn 1 = .ok (.istore_n 1, 1) := by decide +kernel
theorem dX10_burn_2 : decode cX10_burn 2 = .ok (.iconst 0, 1) := by decide +kernel
theorem dX10_burn_3 : decode cX10_burn 3 = .ok (.istore_n 2, 1) := by decide +kernel
theorem dX10_burn_4 : decode cX10_burn 4 = .ok (.iload_n 2, 1) := by decide +kernel
theorem dX10_burn_5 : decode cX10_burn 5 = .ok (.aload_n 0, 1) := by decide +kernel
theorem dX10_burn_6 : decode cX10_burn 6 = .ok (.getfield 105, 3) := by decide +kernel
theorem dX10_burn_9 : decode cX10_burn 9 = .ok (.if_icmp .ge 58, 3) := by decide +kernel
theorem dX10_burn_12 : decode cX10_burn 12 = .ok (.aload_n 0, 1) := by decide +kernel
theorem dX10_burn_13 : decode cX10_burn 13 = .ok (.getfield 34, 3) := by decide +kernel
theorem dX10_burn_16 : decode cX10_burn 16 = .ok (.iload_n 2, 1) := by decide +kernel
theorem dX10_burn_17 : decode cX10_burn 17 = .ok (.iaload, 1) := by decide +kernel
theorem dX10_burn_18 : decode cX10_burn 18 = .ok (.bipush 100, 2) := by decide +kernel
theorem dX10_burn_20 : decode cX10_burn 20 = .ok (.aload_n 0, 1) := by decide +kernel
theorem dX10_burn_21 : decode cX10_burn 21 = .ok (.getfield 50, 3) := by decide +kernel
theorem dX10_burn_24 : decode cX10_burn 24 = .ok (.imul, 1) := by decide +kernel
theorem dX10_burn_25 : decode cX10_burn 25 = .ok (.if_icmp .lt 36, 3) := by decide +kernel
theorem dX10_burn_28 : decode cX10_burn 28 = .ok (.aload_n 0, 1) := by decide +kernel
theorem dX10_burn_29 : decode cX10_burn 29 = .ok (.getfield 37, 3) := by decide +kernel
theorem dX10_burn_32 : decode cX10_burn 32 = .ok (.iload_n 2, 1) := by decide +kernel
theorem dX10_burn_33 : decode cX10_burn 33 = .ok (.iaload, 1) := by decide +kernel
theorem dX10_burn_34 : decode cX10_burn 34 = .ok (.bipush 100, 2) := by decide +kernel
theorem dX10_burn_36 : decode cX10_burn 36 = .ok (.aload_n 0, 1) := by decide +kernel
theorem dX10_burn_37 : decode cX10_burn 37 = .ok (.getfield 50, 3) := by decide +kernel
theorem dX10_burn_40 : decode cX10_burn 40 = .ok (.imul, 1) := by decide +kernel
theorem dX10_burn_41 : decode cX10_burn 41 = .ok (.if_icmp .lt 20, 3) := by decide +kernel
theorem dX10_burn_44 : decode cX10_burn 44 = .ok (.aload_n 0, 1) := by decide +kernel
theorem dX10_burn_45 : decode cX10_burn 45 = .ok (.getfield 34, 3) := by decide +kernel
theorem dX10_burn_48 : decode cX10_burn 48 = .ok (.iload_n 2, 1) := by decide +kernel
theorem dX10_burn_49 : decode cX10_burn 49 = .ok (.iconst 0, 1) := by decide +kernel
theorem dX10_burn_50 : decode cX10_burn 50 = .ok (.iastore, 1) := by decide +kernel
theorem dX10_burn_51 : decode cX10_burn 51 = .ok (.aload_n 0, 1) := by decide +kernel
theorem dX10_burn_52 : decode cX10_burn 52 = .ok (.getfield 37, 3) := by decide +kernel
theorem dX10_burn_55 : decode cX10_burn 55 = .ok (.iload_n 2, 1) := by decide +kernel
theorem dX10_burn_56 : decode cX10_burn 56 = .ok (.iconst 0, 1) := by decide +kernel
theorem dX10_burn_57 : decode cX10_burn 57 = .ok (.iastore, 1) := by decide +kernel
theorem dX10_burn_58 : decode cX10_burn 58 = .ok (.iinc 1 1, 3) := by decide +kernel
theorem dX10_burn_61 : decode cX10_burn 61 = .ok (.iinc 2 1, 3) := by decide +kernel
theorem dX10_burn_64 : decode cX10_burn 64 = .ok (.goto (-60), 3) := by decide +kernel
theorem dX10_burn_67 : decode cX10_burn 67 = .ok (.iload_n 1, 1) := by decide +kernel
theorem dX10_burn_68 : decode cX10_burn 68 = .ok (.ireturn, 1) := by decide +kernel
theorem dX10_springs_0 : decode cX10_springs 0 = .ok (.aload_n 0, 1) := by decide +kernel
theorem dX10_springs_1 : decode cX10_springs 1 = .ok (.invokevirtual 137, 3) := by decide +kernel
theorem dX10_springs_4 : decode cX10_springs 4 = .ok (.ifCond .eq 6, 3) := by decide +kernel
theorem dX10_springs_7 : decode cX10_springs 7 = .ok (.bipush (-103), 2) := by decide +kernel
theorem dX10_springs_9 : decode cX10_springs 9 = .ok (.ireturn, 1) := by decide +kernel
theorem dX10_springs_10 : decode cX10_springs 10 = .ok (.iload_n 1, 1) := by decide +kernel
theorem dX10_springs_11 : decode cX10_springs 11 = .ok (.i2l, 1) := by decide +kernel
theorem dX10_springs_12 : decode cX10_springs 12 = .ok (.lconst 1, 1) := by decide +kernel
theorem dX10_springs_13 : decode cX10_springs 13 = .ok (.ldc2_w 218, 3) := by decide +kernel
theorem dX10_springs_16 : decode cX10_springs 16 = .ok (.invokestatic 68, 3) := by decide +kernel
theorem dX10_springs_19 : decode cX10_springs 19 = .ok (.ifCond .eq 15, 3) := by decide +kernel
theorem dX10_springs_22 : decode cX10_springs 22 = .ok (.iload_n 2, 1) := by decide +kernel
theorem dX10_springs_23 : decode cX10_springs 23 = .ok (.i2l, 1) := by decide +kernel
theorem dX10_springs_24 : decode cX10_springs 24 = .ok (.lconst 0, 1) := by decide +kernel
theorem dX10_springs_25 : decode cX10_springs 25 = .ok (.ldc2_w 189, 3) := by decide +kernel
theorem dX10_springs_28 : decode cX10_springs 28 = .ok (.invokestatic 68, 3) := by decide +kernel
theorem dX10_springs_31 : decode cX10_springs 31 = .ok (.ifCond .ne 6, 3) := by decide +kernel
theorem dX10_springs_34 : decode cX10_springs 34 = .ok (.bipush (-102), 2) := by decide +kernel
theorem dX10_springs_36 : decode cX10_springs 36 = .ok (.ireturn, 1) := by decide +kernel
theorem dX10_springs_37 : decode cX10_springs 37 = .ok (.aload_n 0, 1) := by decide +kernel
theorem dX10_springs_38 : decode cX10_springs 38 = .ok (.getfield 220, 3) := by decide +kernel
theorem dX10_springs_41 : decode cX10_springs 41 = .ok (.bipush 10, 2) := by decide +kernel
theorem dX10_springs_43 : decode cX10_springs 43 = .ok (.if_icmp .ne 6, 3) := by decide +kernel
theorem dX10_springs_46 : decode cX10_springs 46 = .ok (.bipush (-103), 2) := by decide +kernel
theorem dX10_springs_48 : decode cX10_springs 48 = .ok (.ireturn, 1) := by decide +kernel
theorem dX10_springs_49 : decode cX10_springs 49 = .ok (.aload_n 0, 1) := by decide +kernel
theorem dX10_springs_50 : decode cX10_springs 50 = .ok (.dup, 1) := by decide +kernel
theorem dX10_springs_51 : decode cX10_springs 51 = .ok (.getfield 220, 3) := by decide +kernel
theorem dX10_springs_54 : decode cX10_springs 54 = .ok (.iconst 1, 1) := by decide +kernel
theorem dX10_springs_55 : decode cX10_springs 55 = .ok (.iadd, 1) := by decide +kernel
theorem dX10_springs_56 : decode cX10_springs 56 = .ok (.putfield 220, 3) := by decide +kernel
theorem dX10_springs_59 : decode cX10_springs 59 = .ok (.iconst 0, 1) := by decide +kernel
theorem dX10_springs_60 : decode cX10_springs 60 = .ok (.istore_n 3, 1) := by decide +kernel
theorem dX10_springs_61 : decode cX10_springs 61 = .ok (.iload_n 3, 1) := by decide +kernel
theorem dX10_springs_62 : decode cX10_springs 62 = .ok (.bipush 7, 2) := by decide +kernel
theorem dX10_springs_64 : decode cX10_springs 64 = .ok (.if_icmp .ge 45, 3) := by decide +kernel
theorem dX10_springs_67 : decode cX10_springs 67 = .ok (.aload_n 0, 1) := by decide +kernel
theorem dX10_springs_68 : decode cX10_springs 68 = .ok (.getfield 34, 3) := by decide +kernel
theorem dX10_springs_71 : decode cX10_springs 71 = .ok (.iload_n 3, 1) := by decide +kernel
theorem dX10_springs_72 : decode cX10_springs 72 = .ok (.aload_n 0, 1) := by decide +kernel
theorem dX10_springs_73 : decode cX10_springs 73 = .ok (.getfield 16, 3) := by decide +kernel
theorem dX10_springs_76 : decode cX10_springs 76 = .ok (.iload_n 3, 1) := by decide +kernel
theorem dX10_springs_77 : decode cX10_springs 77 = .ok (.iaload, 1) := by decide +kernel
theorem dX10_springs_78 : decode cX10_springs 78 = .ok (.iastore, 1) := by decide +kernel
theorem dX10_springs_79 : decode cX10_springs 79 = .ok (.aload_n 0, 1) := by decide +kernel
theorem dX10_springs_80 : decode cX10_springs 80 = .ok (.getfield 37, 3) := by decide +kernel
theorem dX10_springs_83 : decode cX10_springs 83 = .ok (.iload_n 3, 1) := by decide +kernel
theorem dX10_springs_84 : decode cX10_springs 84 = .ok (.aload_n 0, 1) := by decide +kernel
theorem dX10_springs_85 : decode cX10_springs 85 = .ok (.getfield 19, 3) := by decide +kernel
theorem dX10_springs_88 : decode cX10_springs 88 = .ok (.iload_n 3, 1) := by decide +kernel
theorem dX10_springs_89 : decode cX10_springs 89 = .ok (.iaload, 1) := by decide +kernel
theorem dX10_springs_90 : decode cX10_springs 90 = .ok (.iastore, 1) := by decide +kernel
theorem dX10_springs_91 : decode cX10_springs 91 = .ok (.aload_n 0, 1) := by decide +kernel
theorem dX10_springs_92 : decode cX10_springs 92 = .ok (.getfield 40, 3) := by decide +kernel
theorem dX10_springs_95 : decode cX10_springs 95 = .ok (.iload_n 3, 1) := by decide +kernel
theorem dX10_springs_96 : decode cX10_springs 96 = .ok (.aload_n 0, 1) := by decide +kernel
theorem dX10_springs_97 : decode cX10_springs 97 = .ok (.getfield 22, 3) := by decide +kernel
theorem dX10_springs_100 : decode cX10_springs 100 = .ok (.iload_n 3, 1) := by decide +kernel
theorem dX10_springs_101 : decode cX10_springs 101 = .ok (.iaload, 1) := by decide +kernel
theorem dX10_springs_102 : decode cX10_springs 102 = .ok (.iastore, 1) := by decide +kernel
theorem dX10_springs_103 : decode cX10_springs 103 = .ok (.iinc 3 1, 3) := by decide +kernel
theorem dX10_springs_106 : decode cX10_springs 106 = .ok (.goto (-45), 3) := by decide +kernel
theorem dX10_springs_109 : decode cX10_springs 109 = .ok (.iconst 0, 1) := by decide +kernel
theorem dX10_springs_110 : decode cX10_springs 110 = .ok (.istore_n 3, 1) := by decide +kernel
theorem dX10_springs_111 : decode cX10_springs 111 = .ok (.iconst (-1), 1) := by decide +kernel
theorem dX10_springs_112 : decode cX10_springs 112 = .ok (.istore 4, 2) := by decide +kernel
theorem dX10_springs_114 : decode cX10_springs 114 = .ok (.iconst 1, 1) := by decide +kernel
theorem dX10_springs_115 : decode cX10_springs 115 = .ok (.istore 5, 2) := by decide +kernel
theorem dX10_springs_117 : decode cX10_springs 117 = .ok (.iload 5, 2) := by decide +kernel
theorem dX10_springs_119 : decode cX10_springs 119 = .ok (.iload_n 1, 1) := by decide +kernel
theorem dX10_springs_120 : decode cX10_springs 120 = .ok (.if_icmp .gt 39, 3) := by decide +kernel
theorem dX10_springs_123 : decode cX10_springs 123 = .ok (.aload_n 0, 1) := by decide +kernel
theorem dX10_springs_124 : decode cX10_springs 124 = .ok (.invokevirtual 223, 3) := by decide +kernel
theorem dX10_springs_127 : decode cX10_springs 127 = .ok (.iload_n 3, 1) := by decide +kernel
theorem dX10_springs_128 : decode cX10_springs 128 = .ok (.aload_n 0, 1) := by decide +kernel
theorem dX10_springs_129 : decode cX10_springs 129 = .ok (.invokevirtual 226, 3) := by decide +kernel
theorem dX10_springs_132 : decode cX10_springs 132 = .ok (.iadd, 1) := by decide +kernel
theorem dX10_springs_133 : decode cX10_springs 133 = .ok (.istore_n 3, 1) := by decide +kernel
theorem dX10_springs_134 : decode cX10_springs 134 = .ok (.iload 4, 2) := by decide +kernel
theorem dX10_springs_136 : decode cX10_springs 136 = .ok (.iconst (-1), 1) := by decide +kernel
theorem dX10_springs_137 : decode cX10_springs 137 = .ok (.if_icmp .ne 12, 3) := by decide +kernel
theorem dX10_springs_140 : decode cX10_springs 140 = .ok (.iload_n 3, 1) := by decide +kernel
theorem dX10_springs_141 : decode cX10_springs 141 = .ok (.ifCond .le 8, 3) := by decide +kernel
theorem dX10_springs_144 : decode cX10_springs 144 = .ok (.iload 5, 2) := by decide +kernel
theorem dX10_springs_146 : decode cX10_springs 146 = .ok (.goto 5, 3) := by decide +kernel
theorem dX10_springs_149 : decode cX10_springs 149 = .ok (.iload 4, 2) := by decide +kernel
theorem dX10_springs_151 : decode cX10_springs 151 = .ok (.istore 4, 2) := by decide +kernel
theorem dX10_springs_153 : decode cX10_springs 153 = .ok (.iinc 5 1, 3) := by decide +kernel
theorem dX10_springs_156 : decode cX10_springs 156 = .ok (.goto (-39), 3) := by decide +kernel
theorem dX10_springs_159 : decode cX10_springs 159 = .ok (.iload_n 2, 1) := by decide +kernel
theorem dX10_springs_160 : decode cX10_springs 160 = .ok (.ifCond .ne 7, 3) := by decide +kernel
theorem dX10_springs_163 : decode cX10_springs 163 = .ok (.iload_n 3, 1) := by decide +kernel
theorem dX10_springs_164 : decode cX10_springs 164 = .ok (.goto 21, 3) := by decide +kernel
theorem dX10_springs_167 : decode cX10_springs 167 = .ok (.iload_n 2, 1) := by decide +kernel
theorem dX10_springs_168 : decode cX10_springs 168 = .ok (.iconst 1, 1) := by decide +kernel
theorem dX10_springs_169 : decode cX10_springs 169 = .ok (.if_icmp .ne 8, 3) := by decide +kernel
theorem dX10_springs_172 : decode cX10_springs 172 = .ok (.iload 4, 2) := by decide +kernel
theorem dX10_springs_174 : decode cX10_springs 174 = .ok (.goto 11, 3) := by decide +kernel
theorem dX10_springs_177 : decode cX10_springs 177 = .ok (.aload_n 0, 1) := by decide +kernel
theorem dX10_springs_178 : decode cX10_springs 178 = .ok (.aload_n 0, 1) := by decide +kernel
theorem dX10_springs_179 : decode cX10_springs 179 = .ok (.getfield 34, 3) := by decide +kernel
theorem dX10_springs_182 : decode cX10_springs 182 = .ok (.invokevirtual 152, 3) := by decide +kernel
theorem dX10_springs_185 : decode cX10_springs 185 = .ok (.ireturn, 1) := by decide +kernel
theorem dX10_image_0 : decode cX10_image 0 = .ok (.iconst 0, 1) := by decide +kernel
theorem dX10_image_1 : decode cX10_image 1 = .ok (.istore_n 1, 1) := by decide +kernel
theorem dX10_image_2 : decode cX10_image 2 = .ok (.iload_n 1, 1) := by decide +kernel
theorem dX10_image_3 : decode cX10_image 3 = .ok (.bipush 7, 2) := by decide +kernel
theorem dX10_image_5 : decode cX10_image 5 = .ok (.if_icmp .ge 109, 3) := by decide +kernel
theorem dX10_image_8 : decode cX10_image 8 = .ok (.aload_n 0, 1) := by decide +kernel
theorem dX10_image_9 : decode cX10_image 9 = .ok (.getfield 43, 3) := by decide +kernel
theorem dX10_image_12 : decode cX10_image 12 = .ok (.bipush 6, 2) := by decide +kernel
theorem dX10_image_14 : decode cX10_image 14 = .ok (.iload_n 1, 1) := by decide +kernel
theorem dX10_image_15 : decode cX10_image 15 = .ok (.imul, 1) := by decide +kernel
theorem dX10_image_16 : decode cX10_image 16 = .ok (.aload_n 0, 1) := by decide +kernel
theorem dX10_image_17 : decode cX10_image 17 = .ok (.getfield 13, 3) := by decide +kernel
theorem dX10_image_20 : decode cX10_image 20 = .ok (.iload_n 1, 1) := by decide +kernel
theorem dX10_image_21 : decode cX10_image 21 = .ok (.iaload, 1) := by decide +kernel
theorem dX10_image_22 : decode cX10_image 22 = .ok (.iastore, 1) := by decide +kernel
theorem dX10_image_23 : decode cX10_image 23 = .ok (.aload_n 0, 1) := by decide +kernel
theorem dX10_image_24 : decode cX10_image 24 = .ok (.getfield 43, 3) := by decide +kernel
theorem dX10_image_27 : decode cX10_image 27 = .ok (.bipush 6, 2) := by decide +kernel
theorem dX10_image_29 : decode cX10_image 29 = .ok (.iload_n 1, 1) := by decide +kernel
theorem dX10_image_30 : decode cX10_image 30 = .ok (.imul, 1) := by decide +kernel
theorem dX10_image_31 : decode cX10_image 31 = .ok (.iconst 1, 1) := by decide +kernel
theorem dX10_image_32 : decode cX10_image 32 = .ok (.iadd, 1) := by decide +kernel
theorem dX10_image_33 : decode cX10_image 33 = .ok (.aload_n 0, 1) := by decide +kernel
theorem dX10_image_34 : decode cX10_image 34 = .ok (.getfield 16, 3) := by decide +kernel
theorem dX10_image_37 : decode cX10_image 37 = .ok (.iload_n 1, 1) := by decide +kernel
end
section
theorem dX10_image_38 : decode cX10_image 38 = .ok (.iaload, 1) := by decide +kernel
theorem dX10_image_39 : decode cX10_image 39 = .ok (.iastore, 1) := by decide +kernel
theorem dX10_image_40 : decode cX10_image 40 = .ok (.aload_n 0, 1) := by decide +kernel
theorem dX10_image_41 : decode cX10_image 41 = .ok (.getfield 43, 3) := by decide +kernel
theorem dX10_image_44 : decode cX10_image 44 = .ok (.bipush 6, 2) := by decide +kernel
theorem dX10_image_46 : decode cX10_image 46 = .ok (.iload_n 1, 1) := by decide +kernel
theorem dX10_image_47 : decode cX10_image 47 = .ok (.imul, 1) := by decide +kernel
theorem dX10_image_48 : decode cX10_image 48 = .ok (.iconst 2, 1) := by decide +kernel
theorem dX10_image_49 : decode cX10_image 49 = .ok (.iadd, 1) := by decide +kernel
theorem dX10_image_50 : decode cX10_image 50 = .ok (.aload_n 0, 1) := by decide +kernel
theorem dX10_image_51 : decode cX10_image 51 = .ok (.getfield 19, 3) := by decide +kernel
theorem dX10_image_54 : decode cX10_image 54 = .ok (.iload_n 1, 1) := by decide +kernel
theorem dX10_image_55 : decode cX10_image 55 = .ok (.iaload, 1) := by decide +kernel
theorem dX10_image_56 : decode cX10_image 56 = .ok (.iastore, 1) := by decide +kernel
theorem dX10_image_57 : decode cX10_image 57 = .ok (.aload_n 0, 1) := by decide +kernel
theorem dX10_image_58 : decode cX10_image 58 = .ok (.getfield 43, 3) := by decide +kernel
theorem dX10_image_61 : decode cX10_image 61 = .ok (.bipush 6, 2) := by decide +kernel
theorem dX10_image_63 : decode cX10_image 63 = .ok (.iload_n 1, 1) := by decide +kernel
theorem dX10_image_64 : decode cX10_image 64 = .ok (.imul, 1) := by decide +kernel
theorem dX10_image_65 : decode cX10_image 65 = .ok (.iconst 3, 1) := by decide +kernel
theorem dX10_image_66 : decode cX10_image 66 = .ok (.iadd, 1) := by decide +kernel
theorem dX10_image_67 : decode cX10_image 67 = .ok (.aload_n 0, 1) := by decide +kernel
theorem dX10_image_68 : decode cX10_image 68 = .ok (.getfield 22, 3) := by decide +kernel
theorem dX10_image_71 : decode cX10_image 71 = .ok (.iload_n 1, 1) := by decide +kernel
theorem dX10_image_72 : decode cX10_image 72 = .ok (.iaload, 1) := by decide +kernel
theorem dX10_image_73 : decode cX10_image 73 = .ok (.iastore, 1) := by decide +kernel
theorem dX10_image_74 : decode cX10_image 74 = .ok (.aload_n 0, 1) := by decide +kernel
theorem dX10_image_75 : decode cX10_image 75 = .ok (.getfield 43, 3) := by decide +kernel
theorem dX10_image_78 : decode cX10_image 78 = .ok (.bipush 6, 2) := by decide +kernel
theorem dX10_image_80 : decode cX10_image 80 = .ok (.iload_n 1, 1) := by decide +kernel
theorem dX10_image_81 : decode cX10_image 81 = .ok (.imul, 1) := by decide +kernel
theorem dX10_image_82 : decode cX10_image 82 = .ok (.iconst 4, 1) := by decide +kernel
theorem dX10_image_83 : decode cX10_image 83 = .ok (.iadd, 1) := by decide +kernel
theorem dX10_image_84 : decode cX10_image 84 = .ok (.aload_n 0, 1) := by decide +kernel
theorem dX10_image_85 : decode cX10_image 85 = .ok (.getfield 25, 3) := by decide +kernel
theorem dX10_image_88 : decode cX10_image 88 = .ok (.iload_n 1, 1) := by decide +kernel
theorem dX10_image_89 : decode cX10_image 89 = .ok (.iaload, 1) := by decide +kernel
theorem dX10_image_90 : decode cX10_image 90 = .ok (.iastore, 1) := by decide +kernel
theorem dX10_image_91 : decode cX10_image 91 = .ok (.aload_n 0, 1) := by decide +kernel
theorem dX10_image_92 : decode cX10_image 92 = .ok (.getfield 43, 3) := by decide +kernel
theorem dX10_image_95 : decode cX10_image 95 = .ok (.bipush 6, 2) := by decide +kernel
theorem dX10_image_97 : decode cX10_image 97 = .ok (.iload_n 1, 1) := by decide +kernel
theorem dX10_image_98 : decode cX10_image 98 = .ok (.imul, 1) := by decide +kernel
theorem dX10_image_99 : decode cX10_image 99 = .ok (.iconst 5, 1) := by decide +kernel
theorem dX10_image_100 : decode cX10_image 100 = .ok (.iadd, 1) := by decide +kernel
theorem dX10_image_101 : decode cX10_image 101 = .ok (.aload_n 0, 1) := by decide +kernel
theorem dX10_image_102 : decode cX10_image 102 = .ok (.getfield 28, 3) := by decide +kernel
theorem dX10_image_105 : decode cX10_image 105 = .ok (.iload_n 1, 1) := by decide +kernel
theorem dX10_image_106 : decode cX10_image 106 = .ok (.iaload, 1) := by decide +kernel
theorem dX10_image_107 : decode cX10_image 107 = .ok (.iastore, 1) := by decide +kernel
theorem dX10_image_108 : decode cX10_image 108 = .ok (.iinc 1 1, 3) := by decide +kernel
theorem dX10_image_111 : decode cX10_image 111 = .ok (.goto (-109), 3) := by decide +kernel
theorem dX10_image_114 : decode cX10_image 114 = .ok (.aload_n 0, 1) := by decide +kernel
theorem dX10_image_115 : decode cX10_image 115 = .ok (.aload_n 0, 1) := by decide +kernel
theorem dX10_image_116 : decode cX10_image 116 = .ok (.getfield 105, 3) := by decide +kernel
theorem dX10_image_119 : decode cX10_image 119 = .ok (.putfield 46, 3) := by decide +kernel
theorem dX10_image_122 : decode cX10_image 122 = .ok (.aload_n 0, 1) := by decide +kernel
theorem dX10_image_123 : decode cX10_image 123 = .ok (.getfield 105, 3) := by decide +kernel
theorem dX10_image_126 : decode cX10_image 126 = .ok (.ireturn, 1) := by decide +kernel
theorem dX10_restore_0 : decode cX10_restore 0 = .ok (.aload_n 0, 1) := by decide +kernel
theorem dX10_restore_1 : decode cX10_restore 1 = .ok (.getfield 46, 3) := by decide +kernel
theorem dX10_restore_4 : decode cX10_restore 4 = .ok (.iconst (-1), 1) := by decide +kernel
theorem dX10_restore_5 : decode cX10_restore 5 = .ok (.if_icmp .ne 6, 3) := by decide +kernel
theorem dX10_restore_8 : decode cX10_restore 8 = .ok (.bipush (-103), 2) := by decide +kernel
theorem dX10_restore_10 : decode cX10_restore 10 = .ok (.ireturn, 1) := by decide +kernel
theorem dX10_restore_11 : decode cX10_restore 11 = .ok (.iconst 0, 1) := by decide +kernel
theorem dX10_restore_12 : decode cX10_restore 12 = .ok (.istore_n 1, 1) := by decide +kernel
theorem dX10_restore_13 : decode cX10_restore 13 = .ok (.iload_n 1, 1) := by decide +kernel
theorem dX10_restore_14 : decode cX10_restore 14 = .ok (.bipush 7, 2) := by decide +kernel
theorem dX10_restore_16 : decode cX10_restore 16 = .ok (.if_icmp .ge 109, 3) := by decide +kernel
theorem dX10_restore_19 : decode cX10_restore 19 = .ok (.aload_n 0, 1) := by decide +kernel
theorem dX10_restore_20 : decode cX10_restore 20 = .ok (.getfield 13, 3) := by decide +kernel
theorem dX10_restore_23 : decode cX10_restore 23 = .ok (.iload_n 1, 1) := by decide +kernel
theorem dX10_restore_24 : decode cX10_restore 24 = .ok (.aload_n 0, 1) := by decide +kernel
theorem dX10_restore_25 : decode cX10_restore 25 = .ok (.getfield 43, 3) := by decide +kernel
theorem dX10_restore_28 : decode cX10_restore 28 = .ok (.bipush 6, 2) := by decide +kernel
theorem dX10_restore_30 : decode cX10_restore 30 = .ok (.iload_n 1, 1) := by decide +kernel
theorem dX10_restore_31 : decode cX10_restore 31 = .ok (.imul, 1) := by decide +kernel
theorem dX10_restore_32 : decode cX10_restore 32 = .ok (.iaload, 1) := by decide +kernel
theorem dX10_restore_33 : decode cX10_restore 33 = .ok (.iastore, 1) := by decide +kernel
theorem dX10_restore_34 : decode cX10_restore 34 = .ok (.aload_n 0, 1) := by decide +kernel
theorem dX10_restore_35 : decode cX10_restore 35 = .ok (.getfield 16, 3) := by decide +kernel
theorem dX10_restore_38 : decode cX10_restore 38 = .ok (.iload_n 1, 1) := by decide +kernel
theorem dX10_restore_39 : decode cX10_restore 39 = .ok (.aload_n 0, 1) := by decide +kernel
theorem dX10_restore_40 : decode cX10_restore 40 = .ok (.getfield 43, 3) := by decide +kernel
theorem dX10_restore_43 : decode cX10_restore 43 = .ok (.bipush 6, 2) := by decide +kernel
theorem dX10_restore_45 : decode cX10_restore 45 = .ok (.iload_n 1, 1) := by decide +kernel
theorem dX10_restore_46 : decode cX10_restore 46 = .ok (.imul, 1) := by decide +kernel
theorem dX10_restore_47 : decode cX10_restore 47 = .ok (.iconst 1, 1) := by decide +kernel
theorem dX10_restore_48 : decode cX10_restore 48 = .ok (.iadd, 1) := by decide +kernel
theorem dX10_restore_49 : decode cX10_restore 49 = .ok (.iaload, 1) := by decide +kernel
theorem dX10_restore_50 : decode cX10_restore 50 = .ok (.iastore, 1) := by decide +kernel
theorem dX10_restore_51 : decode cX10_restore 51 = .ok (.aload_n 0, 1) := by decide +kernel
theorem dX10_restore_52 : decode cX10_restore 52 = .ok (.getfield 19, 3) := by decide +kernel
theorem dX10_restore_55 : decode cX10_restore 55 = .ok (.iload_n 1, 1) := by decide +kernel
theorem dX10_restore_56 : decode cX10_restore 56 = .ok (.aload_n 0, 1) := by decide +kernel
theorem dX10_restore_57 : decode cX10_restore 57 = .ok (.getfield 43, 3) := by decide +kernel
theorem dX10_restore_60 : decode cX10_restore 60 = .ok (.bipush 6, 2) := by decide +kernel
theorem dX10_restore_62 : decode cX10_restore 62 = .ok (.iload_n 1, 1) := by decide +kernel
theorem dX10_restore_63 : decode cX10_restore 63 = .ok (.imul, 1) := by decide +kernel
theorem dX10_restore_64 : decode cX10_restore 64 = .ok (.iconst 2, 1) := by decide +kernel
theorem dX10_restore_65 : decode cX10_restore 65 = .ok (.iadd, 1) := by decide +kernel
theorem dX10_restore_66 : decode cX10_restore 66 = .ok (.iaload, 1) := by decide +kernel
theorem dX10_restore_67 : decode cX10_restore 67 = .ok (.iastore, 1) := by decide +kernel
theorem dX10_restore_68 : decode cX10_restore 68 = .ok (.aload_n 0, 1) := by decide +kernel
theorem dX10_restore_69 : decode cX10_restore 69 = .ok (.getfield 22, 3) := by decide +kernel
theorem dX10_restore_72 : decode cX10_restore 72 = .ok (.iload_n 1, 1) := by decide +kernel
theorem dX10_restore_73 : decode cX10_restore 73 = .ok (.aload_n 0, 1) := by decide +kernel
theorem dX10_restore_74 : decode cX10_restore 74 = .ok (.getfield 43, 3) := by decide +kernel
theorem dX10_restore_77 : decode cX10_restore 77 = .ok (.bipush 6, 2) := by decide +kernel
theorem dX10_restore_79 : decode cX10_restore 79 = .ok (.iload_n 1, 1) := by decide +kernel
theorem dX10_restore_80 : decode cX10_restore 80 = .ok (.imul, 1) := by decide +kernel
theorem dX10_restore_81 : decode cX10_restore 81 = .ok (.iconst 3, 1) := by decide +kernel
theorem dX10_restore_82 : decode cX10_restore 82 = .ok (.iadd, 1) := by decide +kernel
theorem dX10_restore_83 : decode cX10_restore 83 = .ok (.iaload, 1) := by decide +kernel
theorem dX10_restore_84 : decode cX10_restore 84 = .ok (.iastore, 1) := by decide +kernel
theorem dX10_restore_85 : decode cX10_restore 85 = .ok (.aload_n 0, 1) := by decide +kernel
theorem dX10_restore_86 : decode cX10_restore 86 = .ok (.getfield 25, 3) := by decide +kernel
theorem dX10_restore_89 : decode cX10_restore 89 = .ok (.iload_n 1, 1) := by decide +kernel
theorem dX10_restore_90 : decode cX10_restore 90 = .ok (.aload_n 0, 1) := by decide +kernel
theorem dX10_restore_91 : decode cX10_restore 91 = .ok (.getfield 43, 3) := by decide +kernel
theorem dX10_restore_94 : decode cX10_restore 94 = .ok (.bipush 6, 2) := by decide +kernel
theorem dX10_restore_96 : decode cX10_restore 96 = .ok (.iload_n 1, 1) := by decide +kernel
theorem dX10_restore_97 : decode cX10_restore 97 = .ok (.imul, 1) := by decide +kernel
theorem dX10_restore_98 : decode cX10_restore 98 = .ok (.iconst 4, 1) := by decide +kernel
theorem dX10_restore_99 : decode cX10_restore 99 = .ok (.iadd, 1) := by decide +kernel
theorem dX10_restore_100 : decode cX10_restore 100 = .ok (.iaload, 1) := by decide +kernel
theorem dX10_restore_101 : decode cX10_restore 101 = .ok (.iastore, 1) := by decide +kernel
theorem dX10_restore_102 : decode cX10_restore 102 = .ok (.aload_n 0, 1) := by decide +kernel
theorem dX10_restore_103 : decode cX10_restore 103 = .ok (.getfield 28, 3) := by decide +kernel
theorem dX10_restore_106 : decode cX10_restore 106 = .ok (.iload_n 1, 1) := by decide +kernel
theorem dX10_restore_107 : decode cX10_restore 107 = .ok (.aload_n 0, 1) := by decide +kernel
theorem dX10_restore_108 : decode cX10_restore 108 = .ok (.getfield 43, 3) := by decide +kernel
theorem dX10_restore_111 : decode cX10_restore 111 = .ok (.bipush 6, 2) := by decide +kernel
theorem dX10_restore_113 : decode cX10_restore 113 = .ok (.iload_n 1, 1) := by decide +kernel
theorem dX10_restore_114 : decode cX10_restore 114 = .ok (.imul, 1) := by decide +kernel
theorem dX10_restore_115 : decode cX10_restore 115 = .ok (.iconst 5, 1) := by decide +kernel
theorem dX10_restore_116 : decode cX10_restore 116 = .ok (.iadd, 1) := by decide +kernel
theorem dX10_restore_117 : decode cX10_restore 117 = .ok (.iaload, 1) := by decide +kernel
theorem dX10_restore_118 : decode cX10_restore 118 = .ok (.iastore, 1) := by decide +kernel
theorem dX10_restore_119 : decode cX10_restore 119 = .ok (.iinc 1 1, 3) := by decide +kernel
theorem dX10_restore_122 : decode cX10_restore 122 = .ok (.goto (-109), 3) := by decide +kernel
theorem dX10_restore_125 : decode cX10_restore 125 = .ok (.aload_n 0, 1) := by decide +kernel
theorem dX10_restore_126 : decode cX10_restore 126 = .ok (.aload_n 0, 1) := by decide +kernel
theorem dX10_restore_127 : decode cX10_restore 127 = .ok (.getfield 46, 3) := by decide +kernel
theorem dX10_restore_130 : decode cX10_restore 130 = .ok (.putfield 105, 3) := by decide +kernel
theorem dX10_restore_133 : decode cX10_restore 133 = .ok (.aload_n 0, 1) := by decide +kernel
theorem dX10_restore_134 : decode cX10_restore 134 = .ok (.getfield 105, 3) := by decide +kernel
theorem dX10_restore_137 : decode cX10_restore 137 = .ok (.ireturn, 1) := by decide +kernel
theorem dX10_wheelsOf_0 : decode cX10_wheelsOf 0 = .ok (.iconst 0, 1) := by decide +kernel
theorem dX10_wheelsOf_1 : decode cX10_wheelsOf 1 = .ok (.istore_n 1, 1) := by decide +kernel
theorem dX10_wheelsOf_2 : decode cX10_wheelsOf 2 = .ok (.iconst 0, 1) := by decide +kernel
theorem dX10_wheelsOf_3 : decode cX10_wheelsOf 3 = .ok (.istore_n 2, 1) := by decide +kernel
theorem dX10_wheelsOf_4 : decode cX10_wheelsOf 4 = .ok (.iload_n 2, 1) := by decide +kernel
theorem dX10_wheelsOf_5 : decode cX10_wheelsOf 5 = .ok (.aload_n 0, 1) := by decide +kernel
theorem dX10_wheelsOf_6 : decode cX10_wheelsOf 6 = .ok (.getfield 105, 3) := by decide +kernel
theorem dX10_wheelsOf_9 : decode cX10_wheelsOf 9 = .ok (.if_icmp .ge 18, 3) := by decide +kernel
theorem dX10_wheelsOf_12 : decode cX10_wheelsOf 12 = .ok (.iload_n 1, 1) := by decide +kernel
theorem dX10_wheelsOf_13 : decode cX10_wheelsOf 13 = .ok (.aload_n 0, 1) := by decide +kernel
theorem dX10_wheelsOf_14 : decode cX10_wheelsOf 14 = .ok (.getfield 28, 3) := by decide +kernel
theorem dX10_wheelsOf_17 : decode cX10_wheelsOf 17 = .ok (.iload_n 2, 1) := by decide +kernel
theorem dX10_wheelsOf_18 : decode cX10_wheelsOf 18 = .ok (.iaload, 1) := by decide +kernel
theorem dX10_wheelsOf_19 : decode cX10_wheelsOf 19 = .ok (.iadd, 1) := by decide +kernel
theorem dX10_wheelsOf_20 : decode cX10_wheelsOf 20 = .ok (.istore_n 1, 1) := by decide +kernel
theorem dX10_wheelsOf_21 : decode cX10_wheelsOf 21 = .ok (.iinc 2 1, 3) := by decide +kernel
theorem dX10_wheelsOf_24 : decode cX10_wheelsOf 24 = .ok (.goto (-20), 3) := by decide +kernel
theorem dX10_wheelsOf_27 : decode cX10_wheelsOf 27 = .ok (.iload_n 1, 1) := by decide +kernel
theorem dX10_wheelsOf_28 : decode cX10_wheelsOf 28 = .ok (.ireturn, 1) := by decide +kernel
theorem dX10_countOf_0 : decode cX10_countOf 0 = .ok (.iload_n 1, 1) := by decide +kernel
theorem dX10_countOf_1 : decode cX10_countOf 1 = .ok (.tableswitch 78 0 6 #[43, 48, 53, 58, 63, 68, 73], 43) := by decide +kernel
theorem dX10_countOf_44 : decode cX10_countOf 44 = .ok (.aload_n 0, 1) := by decide +kernel
theorem dX10_countOf_45 : decode cX10_countOf 45 = .ok (.getfield 105, 3) := by decide +kernel
theorem dX10_countOf_48 : decode cX10_countOf 48 = .ok (.ireturn, 1) := by decide +kernel
theorem dX10_countOf_49 : decode cX10_countOf 49 = .ok (.aload_n 0, 1) := by decide +kernel
theorem dX10_countOf_50 : decode cX10_countOf 50 = .ok (.getfield 55, 3) := by decide +kernel
theorem dX10_countOf_53 : decode cX10_countOf 53 = .ok (.ireturn, 1) := by decide +kernel
theorem dX10_countOf_54 : decode cX10_countOf 54 = .ok (.aload_n 0, 1) := by decide +kernel
theorem dX10_countOf_55 : decode cX10_countOf 55 = .ok (.getfield 98, 3) := by decide +kernel
theorem dX10_countOf_58 : decode cX10_countOf 58 = .ok (.ireturn, 1) := by decide +kernel
theorem dX10_countOf_59 : decode cX10_countOf 59 = .ok (.aload_n 0, 1) := by decide +kernel
theorem dX10_countOf_60 : decode cX10_countOf 60 = .ok (.getfield 182, 3) := by decide +kernel
theorem dX10_countOf_63 : decode cX10_countOf 63 = .ok (.ireturn, 1) := by decide +kernel
theorem dX10_countOf_64 : decode cX10_countOf 64 = .ok (.aload_n 0, 1) := by decide +kernel
theorem dX10_countOf_65 : decode cX10_countOf 65 = .ok (.getfield 212, 3) := by decide +kernel
theorem dX10_countOf_68 : decode cX10_countOf 68 = .ok (.ireturn, 1) := by decide +kernel
theorem dX10_countOf_69 : decode cX10_countOf 69 = .ok (.aload_n 0, 1) := by decide +kernel
theorem dX10_countOf_70 : decode cX10_countOf 70 = .ok (.getfield 220, 3) := by decide +kernel
theorem dX10_countOf_73 : decode cX10_countOf 73 = .ok (.ireturn, 1) := by decide +kernel
theorem dX10_countOf_74 : decode cX10_countOf 74 = .ok (.aload_n 0, 1) := by decide +kernel
theorem dX10_countOf_75 : decode cX10_countOf 75 = .ok (.invokevirtual 229, 3) := by decide +kernel
theorem dX10_countOf_78 : decode cX10_countOf 78 = .ok (.ireturn, 1) := by decide +kernel
theorem dX10_countOf_79 : decode cX10_countOf 79 = .ok (.bipush (-102), 2) := by decide +kernel
theorem dX10_countOf_81 : decode cX10_countOf 81 = .ok (.ireturn, 1) := by decide +kernel
theorem dX10_count_0 : decode cX10_count 0 = .ok (.aload_n 0, 1) := by decide +kernel
theorem dX10_count_1 : decode cX10_count 1 = .ok (.iload_n 1, 1) := by decide +kernel
theorem dX10_count_2 : decode cX10_count 2 = .ok (.invokevirtual 232, 3) := by decide +kernel
theorem dX10_count_5 : decode cX10_count 5 = .ok (.ireturn, 1) := by decide +kernel
theorem dX10_say_0 : decode cX10_say 0 = .ok (.aload_n 0, 1) := by decide +kernel
theorem dX10_say_1 : decode cX10_say 1 = .ok (.ldc2_w 235, 3) := by decide +kernel
theorem dX10_say_4 : decode cX10_say 4 = .ok (.aload_n 0, 1) := by decide +kernel
theorem dX10_say_5 : decode cX10_say 5 = .ok (.getfield 237, 3) := by decide +kernel
theorem dX10_say_8 : decode cX10_say 8 = .ok (.lmul, 1) := by decide +kernel
theorem dX10_say_9 : decode cX10_say 9 = .ok (.lload_n 1, 1) := by decide +kernel
theorem dX10_say_10 : decode cX10_say 10 = .ok (.ladd, 1) := by decide +kernel
theorem dX10_say_11 : decode cX10_say 11 = .ok (.putfield 237, 3) := by decide +kernel
theorem dX10_say_14 : decode cX10_say 14 = .ok (.return_, 1) := by decide +kernel
theorem dX10_sayStreet_0 : decode cX10_sayStreet 0 = .ok (.aload_n 0, 1) := by decide +kernel
theorem dX10_sayStreet_1 : decode cX10_sayStreet 1 = .ok (.aload_n 0, 1) := by decide +kernel
theorem dX10_sayStreet_2 : decode cX10_sayStreet 2 = .ok (.aload_n 0, 1) := by decide +kernel
theorem dX10_sayStreet_3 : decode cX10_sayStreet 3 = .ok (.getfield 16, 3) := by decide +kernel
theorem dX10_sayStreet_6 : decode cX10_sayStreet 6 = .ok (.invokevirtual 152, 3) := by decide +kernel
theorem dX10_sayStreet_9 : decode cX10_sayStreet 9 = .ok (.i2l, 1) := by decide +kernel
theorem dX10_sayStreet_10 : decode cX10_sayStreet 10 = .ok (.invokevirtual 241, 3) := by decide +kernel
theorem dX10_sayStreet_13 : decode cX10_sayStreet 13 = .ok (.aload_n 0, 1) := by decide +kernel
theorem dX10_sayStreet_14 : decode cX10_sayStreet 14 = .ok (.aload_n 0, 1) := by decide +kernel
theorem dX10_sayStreet_15 : decode cX10_sayStreet 15 = .ok (.invokevirtual 207, 3) := by decide +kernel
theorem dX10_sayStreet_18 : decode cX10_sayStreet 18 = .ok (.i2l, 1) := by decide +kernel
theorem dX10_sayStreet_19 : decode cX10_sayStreet 19 = .ok (.invokevirtual 241, 3) := by decide +kernel
theorem dX10_sayStreet_22 : decode cX10_sayStreet 22 = .ok (.iconst 0, 1) := by decide +kernel
theorem dX10_sayStreet_23 : decode cX10_sayStreet 23 = .ok (.istore_n 1, 1) := by decide +kernel
theorem dX10_sayStreet_24 : decode cX10_sayStreet 24 = .ok (.iload_n 1, 1) := by decide +kernel
theorem dX10_sayStreet_25 : decode cX10_sayStreet 25 = .ok (.aload_n 0, 1) := by decide +kernel
theorem dX10_sayStreet_26 : decode cX10_sayStreet 26 = .ok (.getfield 105, 3) := by decide +kernel
theorem dX10_sayStreet_29 : decode cX10_sayStreet 29 = .ok (.if_icmp .ge 27, 3) := by decide +kernel
theorem dX10_sayStreet_32 : decode cX10_sayStreet 32 = .ok (.aload_n 0, 1) := by decide +kernel
theorem dX10_sayStreet_33 : decode cX10_sayStreet 33 = .ok (.getfield 31, 3) := by decide +kernel
theorem dX10_sayStreet_36 : decode cX10_sayStreet 36 = .ok (.iload_n 1, 1) := by decide +kernel
theorem dX10_sayStreet_37 : decode cX10_sayStreet 37 = .ok (.aload_n 0, 1) := by decide +kernel
theorem dX10_sayStreet_38 : decode cX10_sayStreet 38 = .ok (.aload_n 0, 1) := by decide +kernel
theorem dX10_sayStreet_39 : decode cX10_sayStreet 39 = .ok (.getfield 105, 3) := by decide +kernel
theorem dX10_sayStreet_42 : decode cX10_sayStreet 42 = .ok (.iconst 1, 1) := by decide +kernel
theorem dX10_sayStreet_43 : decode cX10_sayStreet 43 = .ok (.isub, 1) := by decide +kernel
theorem dX10_sayStreet_44 : decode cX10_sayStreet 44 = .ok (.iload_n 1, 1) := by decide +kernel
theorem dX10_sayStreet_45 : decode cX10_sayStreet 45 = .ok (.isub, 1) := by decide +kernel
theorem dX10_sayStreet_46 : decode cX10_sayStreet 46 = .ok (.invokevirtual 123, 3) := by decide +kernel
theorem dX10_sayStreet_49 : decode cX10_sayStreet 49 = .ok (.iastore, 1) := by decide +kernel
theorem dX10_sayStreet_50 : decode cX10_sayStreet 50 = .ok (.iinc 1 1, 3) := by decide +kernel
theorem dX10_sayStreet_53 : decode cX10_sayStreet 53 = .ok (.goto (-29), 3) := by decide +kernel
theorem dX10_sayStreet_56 : decode cX10_sayStreet 56 = .ok (.aload_n 0, 1) := by decide +kernel
theorem dX10_sayStreet_57 : decode cX10_sayStreet 57 = .ok (.aload_n 0, 1) := by decide +kernel
theorem dX10_sayStreet_58 : decode cX10_sayStreet 58 = .ok (.aload_n 0, 1) := by decide +kernel
theorem dX10_sayStreet_59 : decode cX10_sayStreet 59 = .ok (.getfield 22, 3) := by decide +kernel
theorem dX10_sayStreet_62 : decode cX10_sayStreet 62 = .ok (.invokevirtual 144, 3) := by decide +kernel
theorem dX10_sayStreet_65 : decode cX10_sayStreet 65 = .ok (.ifCond .eq 7, 3) := by decide +kernel
theorem dX10_sayStreet_68 : decode cX10_sayStreet 68 = .ok (.lconst 1, 1) := by decide +kernel
theorem dX10_sayStreet_69 : decode cX10_sayStreet 69 = .ok (.goto 4, 3) := by decide +kernel
theorem dX10_sayStreet_72 : decode cX10_sayStreet 72 = .ok (.lconst 0, 1) := by decide +kernel
theorem dX10_sayStreet_73 : decode cX10_sayStreet 73 = .ok (.invokevirtual 241, 3) := by decide +kernel
theorem dX10_sayStreet_76 : decode cX10_sayStreet 76 = .ok (.iconst 0, 1) := by decide +kernel
theorem dX10_sayStreet_77 : decode cX10_sayStreet 77 = .ok (.istore_n 1, 1) := by decide +kernel
theorem dX10_sayStreet_78 : decode cX10_sayStreet 78 = .ok (.iload_n 1, 1) := by decide +kernel
theorem dX10_sayStreet_79 : decode cX10_sayStreet 79 = .ok (.iconst 3, 1) := by decide +kernel
theorem dX10_sayStreet_80 : decode cX10_sayStreet 80 = .ok (.if_icmp .ge 19, 3) := by decide +kernel
theorem dX10_sayStreet_83 : decode cX10_sayStreet 83 = .ok (.aload_n 0, 1) := by decide +kernel
theorem dX10_sayStreet_84 : decode cX10_sayStreet 84 = .ok (.aload_n 0, 1) := by decide +kernel
theorem dX10_sayStreet_85 : decode cX10_sayStreet 85 = .ok (.iload_n 1, 1) := by decide +kernel
theorem dX10_sayStreet_86 : decode cX10_sayStreet 86 = .ok (.invokevirtual 191, 3) := by decide +kernel
theorem dX10_sayStreet_89 : decode cX10_sayStreet 89 = .ok (.i2l, 1) := by decide +kernel
theorem dX10_sayStreet_90 : decode cX10_sayStreet 90 = .ok (.invokevirtual 241, 3) := by decide +kernel
theorem dX10_sayStreet_93 : decode cX10_sayStreet 93 = .ok (.iinc 1 1, 3) := by decide +kernel
theorem dX10_sayStreet_96 : decode cX10_sayStreet 96 = .ok (.goto (-18), 3) := by decide +kernel
theorem dX10_sayStreet_99 : decode cX10_sayStreet 99 = .ok (.return_, 1) := by decide +kernel
theorem dX10_digest_0 : decode cX10_digest 0 = .ok (.aload_n 0, 1) := by decide +kernel
theorem dX10_digest_1 : decode cX10_digest 1 = .ok (.ldc2_w 245, 3) := by decide +kernel
theorem dX10_digest_4 : decode cX10_digest 4 = .ok (.putfield 237, 3) := by decide +kernel
theorem dX10_digest_7 : decode cX10_digest 7 = .ok (.iconst 0, 1) := by decide +kernel
theorem dX10_digest_8 : decode cX10_digest 8 = .ok (.istore_n 1, 1) := by decide +kernel
theorem dX10_digest_9 : decode cX10_digest 9 = .ok (.iload_n 1, 1) := by decide +kernel
theorem dX10_digest_10 : decode cX10_digest 10 = .ok (.iconst 4, 1) := by decide +kernel
theorem dX10_digest_11 : decode cX10_digest 11 = .ok (.if_icmp .ge 19, 3) := by decide +kernel
theorem dX10_digest_14 : decode cX10_digest 14 = .ok (.aload_n 0, 1) := by decide +kernel
theorem dX10_digest_15 : decode cX10_digest 15 = .ok (.aload_n 0, 1) := by decide +kernel
theorem dX10_digest_16 : decode cX10_digest 16 = .ok (.iload_n 1, 1) := by decide +kernel
theorem dX10_digest_17 : decode cX10_digest 17 = .ok (.invokevirtual 101, 3) := by decide +kernel
theorem dX10_digest_20 : decode cX10_digest 20 = .ok (.i2l, 1) := by decide +kernel
theorem dX10_digest_21 : decode cX10_digest 21 = .ok (.invokevirtual 241, 3) := by decide +kernel
theorem dX10_digest_24 : decode cX10_digest 24 = .ok (.iinc 1 1, 3) := by decide +kernel
theorem dX10_digest_27 : decode cX10_digest 27 = .ok (.goto (-18), 3) := by decide +kernel
theorem dX10_digest_30 : decode cX10_digest 30 = .ok (.iconst 0, 1) := by decide +kernel
theorem dX10_digest_31 : decode cX10_digest 31 = .ok (.istore_n 1, 1) := by decide +kernel
theorem dX10_digest_32 : decode cX10_digest 32 = .ok (.iload_n 1, 1) := by decide +kernel
theorem dX10_digest_33 : decode cX10_digest 33 = .ok (.aload_n 0, 1) := by decide +kernel
theorem dX10_digest_34 : decode cX10_digest 34 = .ok (.getfield 105, 3) := by decide +kernel
theorem dX10_digest_37 : decode cX10_digest 37 = .ok (.if_icmp .ge 33, 3) := by decide +kernel
theorem dX10_digest_40 : decode cX10_digest 40 = .ok (.iconst 0, 1) := by decide +kernel
theorem dX10_digest_41 : decode cX10_digest 41 = .ok (.istore_n 2, 1) := by decide +kernel
theorem dX10_digest_42 : decode cX10_digest 42 = .ok (.iload_n 2, 1) := by decide +kernel
theorem dX10_digest_43 : decode cX10_digest 43 = .ok (.iconst 5, 1) := by decide +kernel
theorem dX10_digest_44 : decode cX10_digest 44 = .ok (.if_icmp .ge 20, 3) := by decide +kernel
theorem dX10_digest_47 : decode cX10_digest 47 = .ok (.aload_n 0, 1) := by decide +kernel
theorem dX10_digest_48 : decode cX10_digest 48 = .ok (.aload_n 0, 1) := by decide +kernel
theorem dX10_digest_49 : decode cX10_digest 49 = .ok (.iload_n 1, 1) := by decide +kernel
theorem dX10_digest_50 : decode cX10_digest 50 = .ok (.iload_n 2, 1) := by decide +kernel
theorem dX10_digest_51 : decode cX10_digest 51 = .ok (.invokevirtual 115, 3) := by decide +kernel
theorem dX10_digest_54 : decode cX10_digest 54 = .ok (.i2l, 1) := by decide +kernel
theorem dX10_digest_55 : decode cX10_digest 55 = .ok (.invokevirtual 241, 3) := by decide +kernel
theorem dX10_digest_58 : decode cX10_digest 58 = .ok (.iinc 2 1, 3) := by decide +kernel
theorem dX10_digest_61 : decode cX10_digest 61 = .ok (.goto (-19), 3) := by decide +kernel
theorem dX10_digest_64 : decode cX10_digest 64 = .ok (.iinc 1 1, 3) := by decide +kernel
theorem dX10_digest_67 : decode cX10_digest 67 = .ok (.goto (-35), 3) := by decide +kernel
theorem dX10_digest_70 : decode cX10_digest 70 = .ok (.iconst 0, 1) := by decide +kernel
theorem dX10_digest_71 : decode cX10_digest 71 = .ok (.istore_n 1, 1) := by decide +kernel
theorem dX10_digest_72 : decode cX10_digest 72 = .ok (.iload_n 1, 1) := by decide +kernel
theorem dX10_digest_73 : decode cX10_digest 73 = .ok (.bipush 7, 2) := by decide +kernel
theorem dX10_digest_75 : decode cX10_digest 75 = .ok (.if_icmp .ge 20, 3) := by decide +kernel
theorem dX10_digest_78 : decode cX10_digest 78 = .ok (.aload_n 0, 1) := by decide +kernel
theorem dX10_digest_79 : decode cX10_digest 79 = .ok (.aload_n 0, 1) := by decide +kernel
theorem dX10_digest_80 : decode cX10_digest 80 = .ok (.getfield 28, 3) := by decide +kernel
theorem dX10_digest_83 : decode cX10_digest 83 = .ok (.iload_n 1, 1) := by decide +kernel
theorem dX10_digest_84 : decode cX10_digest 84 = .ok (.iaload, 1) := by decide +kernel
theorem dX10_digest_85 : decode cX10_digest 85 = .ok (.i2l, 1) := by decide +kernel
theorem dX10_digest_86 : decode cX10_digest 86 = .ok (.invokevirtual 241, 3) := by decide +kernel
theorem dX10_digest_89 : decode cX10_digest 89 = .ok (.iinc 1 1, 3) := by decide +kernel
theorem dX10_digest_92 : decode cX10_digest 92 = .ok (.goto (-20), 3) := by decide +kernel
theorem dX10_digest_95 : decode cX10_digest 95 = .ok (.aload_n 0, 1) := by decide +kernel
theorem dX10_digest_96 : decode cX10_digest 96 = .ok (.invokevirtual 137, 3) := by decide +kernel
theorem dX10_digest_99 : decode cX10_digest 99 = .ok (.ifCond .ne 7, 3) := by decide +kernel
theorem dX10_digest_102 : decode cX10_digest 102 = .ok (.aload_n 0, 1) := by decide +kernel
theorem dX10_digest_103 : decode cX10_digest 103 = .ok (.invokevirtual 247, 3) := by decide +kernel
theorem dX10_digest_106 : decode cX10_digest 106 = .ok (.iconst 0, 1) := by decide +kernel
theorem dX10_digest_107 : decode cX10_digest 107 = .ok (.istore_n 1, 1) := by decide +kernel
theorem dX10_digest_108 : decode cX10_digest 108 = .ok (.iload_n 1, 1) := by decide +kernel
theorem dX10_digest_109 : decode cX10_digest 109 = .ok (.aload_n 0, 1) := by decide +kernel
theorem dX10_digest_110 : decode cX10_digest 110 = .ok (.getfield 55, 3) := by decide +kernel
theorem dX10_digest_113 : decode cX10_digest 113 = .ok (.if_icmp .ge 20, 3) := by decide +kernel
theorem dX10_digest_116 : decode cX10_digest 116 = .ok (.aload_n 0, 1) := by decide +kernel
theorem dX10_digest_117 : decode cX10_digest 117 = .ok (.aload_n 0, 1) := by decide +kernel
theorem dX10_digest_118 : decode cX10_digest 118 = .ok (.getfield 7, 3) := by decide +kernel
theorem dX10_digest_121 : decode cX10_digest 121 = .ok (.iload_n 1, 1) := by decide +kernel
theorem dX10_digest_122 : decode cX10_digest 122 = .ok (.iaload, 1) := by decide +kernel
theorem dX10_digest_123 : decode cX10_digest 123 = .ok (.i2l, 1) := by decide +kernel
theorem dX10_digest_124 : decode cX10_digest 124 = .ok (.invokevirtual 241, 3) := by decide +kernel
theorem dX10_digest_127 : decode cX10_digest 127 = .ok (.iinc 1 1, 3) := by decide +kernel
theorem dX10_digest_130 : decode cX10_digest 130 = .ok (.goto (-22), 3) := by decide +kernel
theorem dX10_digest_133 : decode cX10_digest 133 = .ok (.iconst 0, 1) := by decide +kernel
theorem dX10_digest_134 : decode cX10_digest 134 = .ok (.istore_n 1, 1) := by decide +kernel
theorem dX10_digest_135 : decode cX10_digest 135 = .ok (.iload_n 1, 1) := by decide +kernel
theorem dX10_digest_136 : decode cX10_digest 136 = .ok (.bipush 7, 2) := by decide +kernel
theorem dX10_digest_138 : decode cX10_digest 138 = .ok (.if_icmp .ge 19, 3) := by decide +kernel
theorem dX10_digest_141 : decode cX10_digest 141 = .ok (.aload_n 0, 1) := by decide +kernel
theorem dX10_digest_142 : decode cX10_digest 142 = .ok (.aload_n 0, 1) := by decide +kernel
theorem dX10_digest_143 : decode cX10_digest 143 = .ok (.iload_n 1, 1) := by decide +kernel
theorem dX10_digest_144 : decode cX10_digest 144 = .ok (.invokevirtual 232, 3) := by decide +kernel
theorem dX10_digest_147 : decode cX10_digest 147 = .ok (.i2l, 1) := by decide +kernel
theorem dX10_digest_148 : decode cX10_digest 148 = .ok (.invokevirtual 241, 3) := by decide +kernel
theorem dX10_digest_151 : decode cX10_digest 151 = .ok (.iinc 1 1, 3) := by decide +kernel
theorem dX10_digest_154 : decode cX10_digest 154 = .ok (.goto (-19), 3) := by decide +kernel
theorem dX10_digest_157 : decode cX10_digest 157 = .ok (.aload_n 0, 1) := by decide +kernel
theorem dX10_digest_158 : decode cX10_digest 158 = .ok (.getfield 237, 3) := by decide +kernel
theorem dX10_digest_161 : decode cX10_digest 161 = .ok (.lreturn, 1) := by decide +kernel
theorem dJ6_bitCount_0f7a4_0 : decode cJ6_bitCount_0f7a4 0 = .ok (.iload_n 0, 1) := by decide +kernel
theorem dJ6_bitCount_0f7a4_1 : decode cJ6_bitCount_0f7a4 1 = .ok (.iload_n 0, 1) := by decide +kernel
theorem dJ6_bitCount_0f7a4_2 : decode cJ6_bitCount_0f7a4 2 = .ok (.iconst 1, 1) := by decide +kernel
theorem dJ6_bitCount_0f7a4_3 : decode cJ6_bitCount_0f7a4 3 = .ok (.iushr, 1) := by decide +kernel
theorem dJ6_bitCount_0f7a4_4 : decode cJ6_bitCount_0f7a4 4 = .ok (.ldc_w 265, 3) := by decide +kernel
theorem dJ6_bitCount_0f7a4_7 : decode cJ6_bitCount_0f7a4 7 = .ok (.iand, 1) := by decide +kernel
theorem dJ6_bitCount_0f7a4_8 : decode cJ6_bitCount_0f7a4 8 = .ok (.isub, 1) := by decide +kernel
theorem dJ6_bitCount_0f7a4_9 : decode cJ6_bitCount_0f7a4 9 = .ok (.istore_n 0, 1) := by decide +kernel
theorem dJ6_bitCount_0f7a4_10 : decode cJ6_bitCount_0f7a4 10 = .ok (.iload_n 0, 1) := by decide +kernel
theorem dJ6_bitCount_0f7a4_11 : decode cJ6_bitCount_0f7a4 11 = .ok (.ldc_w 266, 3) := by decide +kernel
theorem dJ6_bitCount_0f7a4_14 : decode cJ6_bitCount_0f7a4 14 = .ok (.iand, 1) := by decide +kernel
theorem dJ6_bitCount_0f7a4_15 : decode cJ6_bitCount_0f7a4 15 = .ok (.iload_n 0, 1) := by decide +kernel
theorem dJ6_bitCount_0f7a4_16 : decode cJ6_bitCount_0f7a4 16 = .ok (.iconst 2, 1) := by decide +kernel
theorem dJ6_bitCount_0f7a4_17 : decode cJ6_bitCount_0f7a4 17 = .ok (.iushr, 1) := by decide +kernel
theorem dJ6_bitCount_0f7a4_18 : decode cJ6_bitCount_0f7a4 18 = .ok (.ldc_w 266, 3) := by decide +kernel
theorem dJ6_bitCount_0f7a4_21 : decode cJ6_bitCount_0f7a4 21 = .ok (.iand, 1) := by decide +kernel
theorem dJ6_bitCount_0f7a4_22 : decode cJ6_bitCount_0f7a4 22 = .ok (.iadd, 1) := by decide +kernel
theorem dJ6_bitCount_0f7a4_23 : decode cJ6_bitCount_0f7a4 23 = .ok (.istore_n 0, 1) := by decide +kernel
theorem dJ6_bitCount_0f7a4_24 : decode cJ6_bitCount_0f7a4 24 = .ok (.iload_n 0, 1) := by decide +kernel
theorem dJ6_bitCount_0f7a4_25 : decode cJ6_bitCount_0f7a4 25 = .ok (.iload_n 0, 1) := by decide +kernel
theorem dJ6_bitCount_0f7a4_26 : decode cJ6_bitCount_0f7a4 26 = .ok (.iconst 4, 1) := by decide +kernel
theorem dJ6_bitCount_0f7a4_27 : decode cJ6_bitCount_0f7a4 27 = .ok (.iushr, 1) := by decide +kernel
theorem dJ6_bitCount_0f7a4_28 : decode cJ6_bitCount_0f7a4 28 = .ok (.iadd, 1) := by decide +kernel
theorem dJ6_bitCount_0f7a4_29 : decode cJ6_bitCount_0f7a4 29 = .ok (.ldc_w 267, 3) := by decide +kernel
theorem dJ6_bitCount_0f7a4_32 : decode cJ6_bitCount_0f7a4 32 = .ok (.iand, 1) := by decide +kernel
theorem dJ6_bitCount_0f7a4_33 : decode cJ6_bitCount_0f7a4 33 = .ok (.istore_n 0, 1) := by decide +kernel
theorem dJ6_bitCount_0f7a4_34 : decode cJ6_bitCount_0f7a4 34 = .ok (.iload_n 0, 1) := by decide +kernel
theorem dJ6_bitCount_0f7a4_35 : decode cJ6_bitCount_0f7a4 35 = .ok (.iload_n 0, 1) := by decide +kernel
theorem dJ6_bitCount_0f7a4_36 : decode cJ6_bitCount_0f7a4 36 = .ok (.bipush 8, 2) := by decide +kernel
theorem dJ6_bitCount_0f7a4_38 : decode cJ6_bitCount_0f7a4 38 = .ok (.iushr, 1) := by decide +kernel
theorem dJ6_bitCount_0f7a4_39 : decode cJ6_bitCount_0f7a4 39 = .ok (.iadd, 1) := by decide +kernel
theorem dJ6_bitCount_0f7a4_40 : decode cJ6_bitCount_0f7a4 40 = .ok (.istore_n 0, 1) := by decide +kernel
theorem dJ6_bitCount_0f7a4_41 : decode cJ6_bitCount_0f7a4 41 = .ok (.iload_n 0, 1) := by decide +kernel
theorem dJ6_bitCount_0f7a4_42 : decode cJ6_bitCount_0f7a4 42 = .ok (.iload_n 0, 1) := by decide +kernel
theorem dJ6_bitCount_0f7a4_43 : decode cJ6_bitCount_0f7a4 43 = .ok (.bipush 16, 2) := by decide +kernel
theorem dJ6_bitCount_0f7a4_45 : decode cJ6_bitCount_0f7a4 45 = .ok (.iushr, 1) := by decide +kernel
theorem dJ6_bitCount_0f7a4_46 : decode cJ6_bitCount_0f7a4 46 = .ok (.iadd, 1) := by decide +kernel
theorem dJ6_bitCount_0f7a4_47 : decode cJ6_bitCount_0f7a4 47 = .ok (.istore_n 0, 1) := by decide +kernel
theorem dJ6_bitCount_0f7a4_48 : decode cJ6_bitCount_0f7a4 48 = .ok (.iload_n 0, 1) := by decide +kernel
theorem dJ6_bitCount_0f7a4_49 : decode cJ6_bitCount_0f7a4 49 = .ok (.bipush 63, 2) := by decide +kernel
theorem dJ6_bitCount_0f7a4_51 : decode cJ6_bitCount_0f7a4 51 = .ok (.iand, 1) := by decide +kernel
theorem dJ6_bitCount_0f7a4_52 : decode cJ6_bitCount_0f7a4 52 = .ok (.ireturn, 1) := by decide +kernel
theorem dJ9_abs_0f7a4_0 : decode cJ9_abs_0f7a4 0 = .ok (.iload_n 0, 1) := by decide +kernel
theorem dJ9_abs_0f7a4_1 : decode cJ9_abs_0f7a4 1 = .ok (.ifCond .ge 8, 3) := by decide +kernel
theorem dJ9_abs_0f7a4_4 : decode cJ9_abs_0f7a4 4 = .ok (.iload_n 0, 1) := by decide +kernel
theorem dJ9_abs_0f7a4_5 : decode cJ9_abs_0f7a4 5 = .ok (.ineg, 1) := by decide +kernel
theorem dJ9_abs_0f7a4_6 : decode cJ9_abs_0f7a4 6 = .ok (.goto 4, 3) := by decide +kernel
theorem dJ9_abs_0f7a4_9 : decode cJ9_abs_0f7a4 9 = .ok (.iload_n 0, 1) := by decide +kernel
theorem dJ9_abs_0f7a4_10 : decode cJ9_abs_0f7a4 10 = .ok (.ireturn, 1) := by decide +kernel
theorem dJ9_max_7cf53_0 : decode cJ9_max_7cf53 0 = .ok (.iload_n 0, 1) := by decide +kernel
theorem dJ9_max_7cf53_1 : decode cJ9_max_7cf53 1 = .ok (.iload_n 1, 1) := by decide +kernel
theorem dJ9_max_7cf53_2 : decode cJ9_max_7cf53 2 = .ok (.if_icmp .lt 7, 3) := by decide +kernel
theorem dJ9_max_7cf53_5 : decode cJ9_max_7cf53 5 = .ok (.iload_n 0, 1) := by decide +kernel
theorem dJ9_max_7cf53_6 : decode cJ9_max_7cf53 6 = .ok (.goto 4, 3) := by decide +kernel
theorem dJ9_max_7cf53_9 : decode cJ9_max_7cf53 9 = .ok (.iload_n 1, 1) := by decide +kernel
theorem dJ9_max_7cf53_10 : decode cJ9_max_7cf53 10 = .ok (.ireturn, 1) := by decide +kernel
theorem dJ9_min_7cf53_0 : decode cJ9_min_7cf53 0 = .ok (.iload_n 0, 1) := by decide +kernel
theorem dJ9_min_7cf53_1 : decode cJ9_min_7cf53 1 = .ok (.iload_n 1, 1) := by decide +kernel
theorem dJ9_min_7cf53_2 : decode cJ9_min_7cf53 2 = .ok (.if_icmp .gt 7, 3) := by decide +kernel
theorem dJ9_min_7cf53_5 : decode cJ9_min_7cf53 5 = .ok (.iload_n 0, 1) := by decide +kernel
theorem dJ9_min_7cf53_6 : decode cJ9_min_7cf53 6 = .ok (.goto 4, 3) := by decide +kernel
theorem dJ9_min_7cf53_9 : decode cJ9_min_7cf53 9 = .ok (.iload_n 1, 1) := by decide +kernel
theorem dJ9_min_7cf53_10 : decode cJ9_min_7cf53 10 = .ok (.ireturn, 1) := by decide +kernel
theorem dL_law_0 : decode cL_law 0 = .ok (.new 7, 3) := by decide +kernel
theorem dL_law_3 : decode cL_law 3 = .ok (.dup, 1) := by decide +kernel
theorem dL_law_4 : decode cL_law 4 = .ok (.invokespecial 9, 3) := by decide +kernel
theorem dL_law_7 : decode cL_law 7 = .ok (.astore_n 1, 1) := by decide +kernel
theorem dL_law_8 : decode cL_law 8 = .ok (.new 10, 3) := by decide +kernel
theorem dL_law_11 : decode cL_law 11 = .ok (.dup, 1) := by decide +kernel
theorem dL_law_12 : decode cL_law 12 = .ok (.invokespecial 12, 3) := by decide +kernel
theorem dL_law_15 : decode cL_law 15 = .ok (.astore_n 2, 1) := by decide +kernel
theorem dL_law_16 : decode cL_law 16 = .ok (.iconst 0, 1) := by decide +kernel
theorem dL_law_17 : decode cL_law 17 = .ok (.istore_n 3, 1) := by decide +kernel
theorem dL_law_18 : decode cL_law 18 = .ok (.iload_n 3, 1) := by decide +kernel
theorem dL_law_19 : decode cL_law 19 = .ok (.aload_n 0, 1) := by decide +kernel
theorem dL_law_20 : decode cL_law 20 = .ok (.arraylength, 1) := by decide +kernel
theorem dL_law_21 : decode cL_law 21 = .ok (.iconst 4, 1) := by decide +kernel
theorem dL_law_22 : decode cL_law 22 = .ok (.isub, 1) := by decide +kernel
theorem dL_law_23 : decode cL_law 23 = .ok (.if_icmp .gt 835, 3) := by decide +kernel
theorem dL_law_26 : decode cL_law 26 = .ok (.aload_n 0, 1) := by decide +kernel
theorem dL_law_27 : decode cL_law 27 = .ok (.iload_n 3, 1) := by decide +kernel
theorem dL_law_28 : decode cL_law 28 = .ok (.iaload, 1) := by decide +kernel
theorem dL_law_29 : decode cL_law 29 = .ok (.bipush 31, 2) := by decide +kernel
theorem dL_law_31 : decode cL_law 31 = .ok (.iand, 1) := by decide +kernel
theorem dL_law_32 : decode cL_law 32 = .ok (.tableswitch 820 0 28 #[132, 185, 198, 211, 224, 247, 290, 323, 356, 389, 412, 435, 458, 481, 504, 527, 540, 563, 576, 609, 632, 645, 678, 701, 724, 757, 770, 783, 806], 132) := by decide +kernel
theorem dL_law_164 : decode cL_law 164 = .ok (.aload_n 1, 1) := by decide +kernel
theorem dL_law_165 : decode cL_law 165 = .ok (.aload_n 0, 1) := by decide +kernel
theorem dL_law_166 : decode cL_law 166 = .ok (.iload_n 3, 1) := by decide +kernel
theorem dL_law_167 : decode cL_law 167 = .ok (.iconst 1, 1) := by decide +kernel
theorem dL_law_168 : decode cL_law 168 = .ok (.iadd, 1) := by decide +kernel
theorem dL_law_169 : decode cL_law 169 = .ok (.iaload, 1) := by decide +kernel
theorem dL_law_170 : decode cL_law 170 = .ok (.i2l, 1) := by decide +kernel
theorem dL_law_171 : decode cL_law 171 = .ok (.bipush 32, 2) := by decide +kernel
theorem dL_law_173 : decode cL_law 173 = .ok (.lshl, 1) := by decide +kernel
theorem dL_law_174 : decode cL_law 174 = .ok (.aload_n 0, 1) := by decide +kernel
theorem dL_law_175 : decode cL_law 175 = .ok (.iload_n 3, 1) := by decide +kernel
theorem dL_law_176 : decode cL_law 176 = .ok (.iconst 2, 1) := by decide +kernel
theorem dL_law_177 : decode cL_law 177 = .ok (.iadd, 1) := by decide +kernel
theorem dL_law_178 : decode cL_law 178 = .ok (.iaload, 1) := by decide +kernel
theorem dL_law_179 : decode cL_law 179 = .ok (.i2l, 1) := by decide +kernel
theorem dL_law_180 : decode cL_law 180 = .ok (.ldc2_w 13, 3) := by decide +kernel
theorem dL_law_183 : decode cL_law 183 = .ok (.land, 1) := by decide +kernel
theorem dL_law_184 : decode cL_law 184 = .ok (.lor, 1) := by decide +kernel
theorem dL_law_185 : decode cL_law 185 = .ok (.invokevirtual 15, 3) := by decide +kernel
theorem dL_law_188 : decode cL_law 188 = .ok (.aload_n 2, 1) := by decide +kernel
theorem dL_law_189 : decode cL_law 189 = .ok (.aload_n 0, 1) := by decide +kernel
theorem dL_law_190 : decode cL_law 190 = .ok (.iload_n 3, 1) := by decide +kernel
theorem dL_law_191 : decode cL_law 191 = .ok (.iconst 1, 1) := by decide +kernel
theorem dL_law_192 : decode cL_law 192 = .ok (.iadd, 1) := by decide +kernel
theorem dL_law_193 : decode cL_law 193 = .ok (.iaload, 1) := by decide +kernel
theorem dL_law_194 : decode cL_law 194 = .ok (.i2l, 1) := by decide +kernel
theorem dL_law_195 : decode cL_law 195 = .ok (.bipush 32, 2) := by decide +kernel
theorem dL_law_197 : decode cL_law 197 = .ok (.lshl, 1) := by decide +kernel
theorem dL_law_198 : decode cL_law 198 = .ok (.aload_n 0, 1) := by decide +kernel
theorem dL_law_199 : decode cL_law 199 = .ok (.iload_n 3, 1) := by decide +kernel
theorem dL_law_200 : decode cL_law 200 = .ok (.iconst 2, 1) := by decide +kernel
theorem dL_law_201 : decode cL_law 201 = .ok (.iadd, 1) := by decide +kernel
theorem dL_law_202 : decode cL_law 202 = .ok (.iaload, 1) := by decide +kernel
theorem dL_law_203 : decode cL_law 203 = .ok (.i2l, 1) := by decide +kernel
theorem dL_law_204 : decode cL_law 204 = .ok (.ldc2_w 13, 3) := by decide +kernel
theorem dL_law_207 : decode cL_law 207 = .ok (.land, 1) := by decide +kernel
theorem dL_law_208 : decode cL_law 208 = .ok (.lor, 1) := by decide +kernel
theorem dL_law_209 : decode cL_law 209 = .ok (.invokevirtual 19, 3) := by decide +kernel
theorem dL_law_212 : decode cL_law 212 = .ok (.if_icmp .eq 640, 3) := by decide +kernel
theorem dL_law_215 : decode cL_law 215 = .ok (.iconst 0, 1) := by decide +kernel
theorem dL_law_216 : decode cL_law 216 = .ok (.ireturn, 1) := by decide +kernel
theorem dL_law_217 : decode cL_law 217 = .ok (.aload_n 1, 1) := by decide +kernel
theorem dL_law_218 : decode cL_law 218 = .ok (.invokevirtual 20, 3) := by decide +kernel
theorem dL_law_221 : decode cL_law 221 = .ok (.aload_n 2, 1) := by decide +kernel
theorem dL_law_222 : decode cL_law 222 = .ok (.invokevirtual 24, 3) := by decide +kernel
theorem dL_law_225 : decode cL_law 225 = .ok (.if_icmp .eq 627, 3) := by decide +kernel
theorem dL_law_228 : decode cL_law 228 = .ok (.iconst 0, 1) := by decide +kernel
theorem dL_law_229 : decode cL_law 229 = .ok (.ireturn, 1) := by decide +kernel
theorem dL_law_230 : decode cL_law 230 = .ok (.aload_n 1, 1) := by decide +kernel
theorem dL_law_231 : decode cL_law 231 = .ok (.invokevirtual 25, 3) := by decide +kernel
theorem dL_law_234 : decode cL_law 234 = .ok (.aload_n 2, 1) := by decide +kernel
theorem dL_law_235 : decode cL_law 235 = .ok (.invokevirtual 28, 3) := by decide +kernel
theorem dL_law_238 : decode cL_law 238 = .ok (.if_icmp .eq 614, 3) := by decide +kernel
theorem dL_law_241 : decode cL_law 241 = .ok (.iconst 0, 1) := by decide +kernel
theorem dL_law_242 : decode cL_law 242 = .ok (.ireturn, 1) := by decide +kernel
theorem dL_law_243 : decode cL_law 243 = .ok (.aload_n 1, 1) := by decide +kernel
theorem dL_law_244 : decode cL_law 244 = .ok (.invokevirtual 29, 3) := by decide +kernel
theorem dL_law_247 : decode cL_law 247 = .ok (.aload_n 2, 1) := by decide +kernel
theorem dL_law_248 : decode cL_law 248 = .ok (.invokevirtual 32, 3) := by decide +kernel
theorem dL_law_251 : decode cL_law 251 = .ok (.if_icmp .eq 601, 3) := by decide +kernel
theorem dL_law_254 : decode cL_law 254 = .ok (.iconst 0, 1) := by decide +kernel
theorem dL_law_255 : decode cL_law 255 = .ok (.ireturn, 1) := by decide +kernel
theorem dL_law_256 : decode cL_law 256 = .ok (.aload_n 1, 1) := by decide +kernel
theorem dL_law_257 : decode cL_law 257 = .ok (.aload_n 0, 1) := by decide +kernel
theorem dL_law_258 : decode cL_law 258 = .ok (.iload_n 3, 1) := by decide +kernel
theorem dL_law_259 : decode cL_law 259 = .ok (.iconst 1, 1) := by decide +kernel
theorem dL_law_260 : decode cL_law 260 = .ok (.iadd, 1) := by decide +kernel
theorem dL_law_261 : decode cL_law 261 = .ok (.iaload, 1) := by decide +kernel
theorem dL_law_262 : decode cL_law 262 = .ok (.invokevirtual 33, 3) := by decide +kernel
theorem dL_law_265 : decode cL_law 265 = .ok (.aload_n 2, 1) := by decide +kernel
theorem dL_law_266 : decode cL_law 266 = .ok (.aload_n 0, 1) := by decide +kernel
theorem dL_law_267 : decode cL_law 267 = .ok (.iload_n 3, 1) := by decide +kernel
theorem dL_law_268 : decode cL_law 268 = .ok (.iconst 1, 1) := by decide +kernel
theorem dL_law_269 : decode cL_law 269 = .ok (.iadd, 1) := by decide +kernel
theorem dL_law_270 : decode cL_law 270 = .ok (.iaload, 1) := by decide +kernel
theorem dL_law_271 : decode cL_law 271 = .ok (.invokevirtual 37, 3) := by decide +kernel
theorem dL_law_274 : decode cL_law 274 = .ok (.if_icmp .eq 578, 3) := by decide +kernel
theorem dL_law_277 : decode cL_law 277 = .ok (.iconst 0, 1) := by decide +kernel
theorem dL_law_278 : decode cL_law 278 = .ok (.ireturn, 1) := by decide +kernel
theorem dL_law_279 : decode cL_law 279 = .ok (.aload_n 1, 1) := by decide +kernel
theorem dL_law_280 : decode cL_law 280 = .ok (.aload_n 0, 1) := by decide +kernel
theorem dL_law_281 : decode cL_law 281 = .ok (.iload_n 3, 1) := by decide +kernel
theorem dL_law_282 : decode cL_law 282 = .ok (.iconst 1, 1) := by decide +kernel
theorem dL_law_283 : decode cL_law 283 = .ok (.iadd, 1) := by decide +kernel
theorem dL_law_284 : decode cL_law 284 = .ok (.iaload, 1) := by decide +kernel
theorem dL_law_285 : decode cL_law 285 = .ok (.aload_n 0, 1) := by decide +kernel
theorem dL_law_286 : decode cL_law 286 = .ok (.iload_n 3, 1) := by decide +kernel
theorem dL_law_287 : decode cL_law 287 = .ok (.iconst 2, 1) := by decide +kernel
theorem dL_law_288 : decode cL_law 288 = .ok (.iadd, 1) := by decide +kernel
theorem dL_law_289 : decode cL_law 289 = .ok (.iaload, 1) := by decide +kernel
theorem dL_law_290 : decode cL_law 290 = .ok (.aload_n 0, 1) := by decide +kernel
theorem dL_law_291 : decode cL_law 291 = .ok (.iload_n 3, 1) := by decide +kernel
theorem dL_law_292 : decode cL_law 292 = .ok (.iconst 3, 1) := by decide +kernel
theorem dL_law_293 : decode cL_law 293 = .ok (.iadd, 1) := by decide +kernel
theorem dL_law_294 : decode cL_law 294 = .ok (.iaload, 1) := by decide +kernel
theorem dL_law_295 : decode cL_law 295 = .ok (.invokevirtual 38, 3) := by decide +kernel
theorem dL_law_298 : decode cL_law 298 = .ok (.aload_n 2, 1) := by decide +kernel
theorem dL_law_299 : decode cL_law 299 = .ok (.aload_n 0, 1) := by decide +kernel
theorem dL_law_300 : decode cL_law 300 = .ok (.iload_n 3, 1) := by decide +kernel
theorem dL_law_301 : decode cL_law 301 = .ok (.iconst 1, 1) := by decide +kernel
theorem dL_law_302 : decode cL_law 302 = .ok (.iadd, 1) := by decide +kernel
theorem dL_law_303 : decode cL_law 303 = .ok (.iaload, 1) := by decide +kernel
theorem dL_law_304 : decode cL_law 304 = .ok (.aload_n 0, 1) := by decide +kernel
theorem dL_law_305 : decode cL_law 305 = .ok (.iload_n 3, 1) := by decide +kernel
theorem dL_law_306 : decode cL_law 306 = .ok (.iconst 2, 1) := by decide +kernel
theorem dL_law_307 : decode cL_law 307 = .ok (.iadd, 1) := by decide +kernel
theorem dL_law_308 : decode cL_law 308 = .ok (.iaload, 1) := by decide +kernel
theorem dL_law_309 : decode cL_law 309 = .ok (.aload_n 0, 1) := by decide +kernel
theorem dL_law_310 : decode cL_law 310 = .ok (.iload_n 3, 1) := by decide +kernel
theorem dL_law_311 : decode cL_law 311 = .ok (.iconst 3, 1) := by decide +kernel
theorem dL_law_312 : decode cL_law 312 = .ok (.iadd, 1) := by decide +kernel
theorem dL_law_313 : decode cL_law 313 = .ok (.iaload, 1) := by decide +kernel
theorem dL_law_314 : decode cL_law 314 = .ok (.invokevirtual 42, 3) := by decide +kernel
theorem dL_law_317 : decode cL_law 317 = .ok (.if_icmp .eq 535, 3) := by decide +kernel
theorem dL_law_320 : decode cL_law 320 = .ok (.iconst 0, 1) := by decide +kernel
theorem dL_law_321 : decode cL_law 321 = .ok (.ireturn, 1) := by decide +kernel
theorem dL_law_322 : decode cL_law 322 = .ok (.aload_n 1, 1) := by decide +kernel
theorem dL_law_323 : decode cL_law 323 = .ok (.aload_n 0, 1) := by decide +kernel
theorem dL_law_324 : decode cL_law 324 = .ok (.iload_n 3, 1) := by decide +kernel
theorem dL_law_325 : decode cL_law 325 = .ok (.iconst 1, 1) := by decide +kernel
theorem dL_law_326 : decode cL_law 326 = .ok (.iadd, 1) := by decide +kernel
theorem dL_law_327 : decode cL_law 327 = .ok (.iaload, 1) := by decide +kernel
theorem dL_law_328 : decode cL_law 328 = .ok (.aload_n 0, 1) := by decide +kernel
theorem dL_law_329 : decode cL_law 329 = .ok (.iload_n 3, 1) := by decide +kernel
theorem dL_law_330 : decode cL_law 330 = .ok (.iconst 2, 1) := by decide +kernel
theorem dL_law_331 : decode cL_law 331 = .ok (.iadd, 1) := by decide +kernel
theorem dL_law_332 : decode cL_law 332 = .ok (.iaload, 1) := by decide +kernel
theorem dL_law_333 : decode cL_law 333 = .ok (.invokevirtual 43, 3) := by decide +kernel
theorem dL_law_336 : decode cL_law 336 = .ok (.aload_n 2, 1) := by decide +kernel
theorem dL_law_337 : decode cL_law 337 = .ok (.aload_n 0, 1) := by decide +kernel
theorem dL_law_338 : decode cL_law 338 = .ok (.iload_n 3, 1) := by decide +kernel
theorem dL_law_339 : decode cL_law 339 = .ok (.iconst 1, 1) := by decide +kernel
theorem dL_law_340 : decode cL_law 340 = .ok (.iadd, 1) := by decide +kernel
theorem dL_law_341 : decode cL_law 341 = .ok (.iaload, 1) := by decide +kernel
theorem dL_law_342 : decode cL_law 342 = .ok (.aload_n 0, 1) := by decide +kernel
theorem dL_law_343 : decode cL_law 343 = .ok (.iload_n 3, 1) := by decide +kernel
theorem dL_law_344 : decode cL_law 344 = .ok (.iconst 2, 1) := by decide +kernel
theorem dL_law_345 : decode cL_law 345 = .ok (.iadd, 1) := by decide +kernel
theorem dL_law_346 : decode cL_law 346 = .ok (.iaload, 1) := by decide +kernel
theorem dL_law_347 : decode cL_law 347 = .ok (.invokevirtual 47, 3) := by decide +kernel
theorem dL_law_350 : decode cL_law 350 = .ok (.if_icmp .eq 502, 3) := by decide +kernel
theorem dL_law_353 : decode cL_law 353 = .ok (.iconst 0, 1) := by decide +kernel
theorem dL_law_354 : decode cL_law 354 = .ok (.ireturn, 1) := by decide +kernel
theorem dL_law_355 : decode cL_law 355 = .ok (.aload_n 1, 1) := by decide +kernel
theorem dL_law_356 : decode cL_law 356 = .ok (.aload_n 0, 1) := by decide +kernel
theorem dL_law_357 : decode cL_law 357 = .ok (.iload_n 3, 1) := by decide +kernel
theorem dL_law_358 : decode cL_law 358 = .ok (.iconst 1, 1) := by decide +kernel
theorem dL_law_359 : decode cL_law 359 = .ok (.iadd, 1) := by decide +kernel
theorem dL_law_360 : decode cL_law 360 = .ok (.iaload, 1) := by decide +kernel
theorem dL_law_361 : decode cL_law 361 = .ok (.aload_n 0, 1) := by decide +kernel
theorem dL_law_362 : decode cL_law 362 = .ok (.iload_n 3, 1) := by decide +kernel
theorem dL_law_363 : decode cL_law 363 = .ok (.iconst 2, 1) := by decide +kernel
theorem dL_law_364 : decode cL_law 364 = .ok (.iadd, 1) := by decide +kernel
theorem dL_law_365 : decode cL_law 365 = .ok (.iaload, 1) := by decide +kernel
theorem dL_law_366 : decode cL_law 366 = .ok (.invokevirtual 48, 3) := by decide +kernel
theorem dL_law_369 : decode cL_law 369 = .ok (.aload_n 2, 1) := by decide +kernel
theorem dL_law_370 : decode cL_law 370 = .ok (.aload_n 0, 1) := by decide +kernel
theorem dL_law_371 : decode cL_law 371 = .ok (.iload_n 3, 1) := by decide +kernel
theorem dL_law_372 : decode cL_law 372 = .ok (.iconst 1, 1) := by decide +kernel
theorem dL_law_373 : decode cL_law 373 = .ok (.iadd, 1) := by decide +kernel
theorem dL_law_374 : decode cL_law 374 = .ok (.iaload, 1) := by decide +kernel
theorem dL_law_375 : decode cL_law 375 = .ok (.aload_n 0, 1) := by decide +kernel
theorem dL_law_376 : decode cL_law 376 = .ok (.iload_n 3, 1) := by decide +kernel
theorem dL_law_377 : decode cL_law 377 = .ok (.iconst 2, 1) := by decide +kernel
theorem dL_law_378 : decode cL_law 378 = .ok (.iadd, 1) := by decide +kernel
theorem dL_law_379 : decode cL_law 379 = .ok (.iaload, 1) := by decide +kernel
theorem dL_law_380 : decode cL_law 380 = .ok (.invokevirtual 51, 3) := by decide +kernel
theorem dL_law_383 : decode cL_law 383 = .ok (.if_icmp .eq 469, 3) := by decide +kernel
theorem dL_law_386 : decode cL_law 386 = .ok (.iconst 0, 1) := by decide +kernel
theorem dL_law_387 : decode cL_law 387 = .ok (.ireturn, 1) := by decide +kernel
theorem dL_law_388 : decode cL_law 388 = .ok (.aload_n 1, 1) := by decide +kernel
theorem dL_law_389 : decode cL_law 389 = .ok (.aload_n 0, 1) := by decide +kernel
theorem dL_law_390 : decode cL_law 390 = .ok (.iload_n 3, 1) := by decide +kernel
theorem dL_law_391 : decode cL_law 391 = .ok (.iconst 1, 1) := by decide +kernel
theorem dL_law_392 : decode cL_law 392 = .ok (.iadd, 1) := by decide +kernel
theorem dL_law_393 : decode cL_law 393 = .ok (.iaload, 1) := by decide +kernel
theorem dL_law_394 : decode cL_law 394 = .ok (.aload_n 0, 1) := by decide +kernel
theorem dL_law_395 : decode cL_law 395 = .ok (.iload_n 3, 1) := by decide +kernel
theorem dL_law_396 : decode cL_law 396 = .ok (.iconst 2, 1) := by decide +kernel
theorem dL_law_397 : decode cL_law 397 = .ok (.iadd, 1) := by decide +kernel
theorem dL_law_398 : decode cL_law 398 = .ok (.iaload, 1) := by decide +kernel
theorem dL_law_399 : decode cL_law 399 = .ok (.invokevirtual 52, 3) := by decide +kernel
theorem dL_law_402 : decode cL_law 402 = .ok (.aload_n 2, 1) := by decide +kernel
theorem dL_law_403 : decode cL_law 403 = .ok (.aload_n 0, 1) := by decide +kernel
theorem dL_law_404 : decode cL_law 404 = .ok (.iload_n 3, 1) := by decide +kernel
theorem dL_law_405 : decode cL_law 405 = .ok (.iconst 1, 1) := by decide +kernel
theorem dL_law_406 : decode cL_law 406 = .ok (.iadd, 1) := by decide +kernel
theorem dL_law_407 : decode cL_law 407 = .ok (.iaload, 1) := by decide +kernel
theorem dL_law_408 : decode cL_law 408 = .ok (.aload_n 0, 1) := by decide +kernel
theorem dL_law_409 : decode cL_law 409 = .ok (.iload_n 3, 1) := by decide +kernel
theorem dL_law_410 : decode cL_law 410 = .ok (.iconst 2, 1) := by decide +kernel
theorem dL_law_411 : decode cL_law 411 = .ok (.iadd, 1) := by decide +kernel
theorem dL_law_412 : decode cL_law 412 = .ok (.iaload, 1) := by decide +kernel
theorem dL_law_413 : decode cL_law 413 = .ok (.invokevirtual 55, 3) := by decide +kernel
theorem dL_law_416 : decode cL_law 416 = .ok (.if_icmp .eq 436, 3) := by decide +kernel
theorem dL_law_419 : decode cL_law 419 = .ok (.iconst 0, 1) := by decide +kernel
theorem dL_law_420 : decode cL_law 420 = .ok (.ireturn, 1) := by decide +kernel
theorem dL_law_421 : decode cL_law 421 = .ok (.aload_n 1, 1) := by decide +kernel
theorem dL_law_422 : decode cL_law 422 = .ok (.aload_n 0, 1) := by decide +kernel
theorem dL_law_423 : decode cL_law 423 = .ok (.iload_n 3, 1) := by decide +kernel
theorem dL_law_424 : decode cL_law 424 = .ok (.iconst 1, 1) := by decide +kernel
theorem dL_law_425 : decode cL_law 425 = .ok (.iadd, 1) := by decide +kernel
theorem dL_law_426 : decode cL_law 426 = .ok (.iaload, 1) := by decide +kernel
theorem dL_law_427 : decode cL_law 427 = .ok (.invokevirtual 56, 3) := by decide +kernel
theorem dL_law_430 : decode cL_law 430 = .ok (.aload_n 2, 1) := by decide +kernel
theorem dL_law_431 : decode cL_law 431 = .ok (.aload_n 0, 1) := by decide +kernel
theorem dL_law_432 : decode cL_law 432 = .ok (.iload_n 3, 1) := by decide +kernel
theorem dL_law_433 : decode cL_law 433 = .ok (.iconst 1, 1) := by decide +kernel
theorem dL_law_434 : decode cL_law 434 = .ok (.iadd, 1) := by decide +kernel
theorem dL_law_435 : decode cL_law 435 = .ok (.iaload, 1) := by decide +kernel
theorem dL_law_436 : decode cL_law 436 = .ok (.invokevirtual 59, 3) := by decide +kernel
theorem dL_law_439 : decode cL_law 439 = .ok (.if_icmp .eq 413, 3) := by decide +kernel
theorem dL_law_442 : decode cL_law 442 = .ok (.iconst 0, 1) := by decide +kernel
theorem dL_law_443 : decode cL_law 443 = .ok (.ireturn, 1) := by decide +kernel
theorem dL_law_444 : decode cL_law 444 = .ok (.aload_n 1, 1) := by decide +kernel
theorem dL_law_445 : decode cL_law 445 = .ok (.aload_n 0, 1) := by decide +kernel
theorem dL_law_446 : decode cL_law 446 = .ok (.iload_n 3, 1) := by decide +kernel
theorem dL_law_447 : decode cL_law 447 = .ok (.iconst 1, 1) := by decide +kernel
theorem dL_law_448 : decode cL_law 448 = .ok (.iadd, 1) := by decide +kernel
theorem dL_law_449 : decode cL_law 449 = .ok (.iaload, 1) := by decide +kernel
theorem dL_law_450 : decode cL_law 450 = .ok (.invokevirtual 60, 3) := by decide +kernel
theorem dL_law_453 : decode cL_law 453 = .ok (.aload_n 2, 1) := by decide +kernel
theorem dL_law_454 : decode cL_law 454 = .ok (.aload_n 0, 1) := by decide +kernel
theorem dL_law_455 : decode cL_law 455 = .ok (.iload_n 3, 1) := by decide +kernel
theorem dL_law_456 : decode cL_law 456 = .ok (.iconst 1, 1) := by decide +kernel
theorem dL_law_457 : decode cL_law 457 = .ok (.iadd, 1) := by decide +kernel
theorem dL_law_458 : decode cL_law 458 = .ok (.iaload, 1) := by decide +kernel
theorem dL_law_459 : decode cL_law 459 = .ok (.invokevirtual 63, 3) := by decide +kernel
theorem dL_law_462 : decode cL_law 462 = .ok (.if_icmp .eq 390, 3) := by decide +kernel
theorem dL_law_465 : decode cL_law 465 = .ok (.iconst 0, 1) := by decide +kernel
theorem dL_law_466 : decode cL_law 466 = .ok (.ireturn, 1) := by decide +kernel
theorem dL_law_467 : decode cL_law 467 = .ok (.aload_n 1, 1) := by decide +kernel
theorem dL_law_468 : decode cL_law 468 = .ok (.aload_n 0, 1) := by decide +kernel
theorem dL_law_469 : decode cL_law 469 = .ok (.iload_n 3, 1) := by decide +kernel
theorem dL_law_470 : decode cL_law 470 = .ok (.iconst 1, 1) := by decide +kernel
theorem dL_law_471 : decode cL_law 471 = .ok (.iadd, 1) := by decide +kernel
theorem dL_law_472 : decode cL_law 472 = .ok (.iaload, 1) := by decide +kernel
theorem dL_law_473 : decode cL_law 473 = .ok (.invokevirtual 64, 3) := by decide +kernel
theorem dL_law_476 : decode cL_law 476 = .ok (.aload_n 2, 1) := by decide +kernel
theorem dL_law_477 : decode cL_law 477 = .ok (.aload_n 0, 1) := by decide +kernel
theorem dL_law_478 : decode cL_law 478 = .ok (.iload_n 3, 1) := by decide +kernel
theorem dL_law_479 : decode cL_law 479 = .ok (.iconst 1, 1) := by decide +kernel
theorem dL_law_480 : decode cL_law 480 = .ok (.iadd, 1) := by decide +kernel
theorem dL_law_481 : decode cL_law 481 = .ok (.iaload, 1) := by decide +kernel
theorem dL_law_482 : decode cL_law 482 = .ok (.invokevirtual 67, 3) := by decide +kernel
theorem dL_law_485 : decode cL_law 485 = .ok (.if_icmp .eq 367, 3) := by decide +kernel
theorem dL_law_488 : decode cL_law 488 = .ok (.iconst 0, 1) := by decide +kernel
theorem dL_law_489 : decode cL_law 489 = .ok (.ireturn, 1) := by decide +kernel
theorem dL_law_490 : decode cL_law 490 = .ok (.aload_n 1, 1) := by decide +kernel
theorem dL_law_491 : decode cL_law 491 = .ok (.aload_n 0, 1) := by decide +kernel
theorem dL_law_492 : decode cL_law 492 = .ok (.iload_n 3, 1) := by decide +kernel
theorem dL_law_493 : decode cL_law 493 = .ok (.iconst 1, 1) := by decide +kernel
theorem dL_law_494 : decode cL_law 494 = .ok (.iadd, 1) := by decide +kernel
theorem dL_law_495 : decode cL_law 495 = .ok (.iaload, 1) := by decide +kernel
theorem dL_law_496 : decode cL_law 496 = .ok (.invokevirtual 68, 3) := by decide +kernel
theorem dL_law_499 : decode cL_law 499 = .ok (.aload_n 2, 1) := by decide +kernel
theorem dL_law_500 : decode cL_law 500 = .ok (.aload_n 0, 1) := by decide +kernel
theorem dL_law_501 : decode cL_law 501 = .ok (.iload_n 3, 1) := by decide +kernel
theorem dL_law_502 : decode cL_law 502 = .ok (.iconst 1, 1) := by decide +kernel
theorem dL_law_503 : decode cL_law 503 = .ok (.iadd, 1) := by decide +kernel
theorem dL_law_504 : decode cL_law 504 = .ok (.iaload, 1) := by decide +kernel
theorem dL_law_505 : decode cL_law 505 = .ok (.invokevirtual 71, 3) := by decide +kernel
theorem dL_law_508 : decode cL_law 508 = .ok (.if_icmp .eq 344, 3) := by decide +kernel
theorem dL_law_511 : decode cL_law 511 = .ok (.iconst 0, 1) := by decide +kernel
theorem dL_law_512 : decode cL_law 512 = .ok (.ireturn, 1) := by decide +kernel
theorem dL_law_513 : decode cL_law 513 = .ok (.aload_n 1, 1) := by decide +kernel
theorem dL_law_514 : decode cL_law 514 = .ok (.aload_n 0, 1) := by decide +kernel
theorem dL_law_515 : decode cL_law 515 = .ok (.iload_n 3, 1) := by decide +kernel
theorem dL_law_516 : decode cL_law 516 = .ok (.iconst 1, 1) := by decide +kernel
theorem dL_law_517 : decode cL_law 517 = .ok (.iadd, 1) := by decide +kernel
theorem dL_law_518 : decode cL_law 518 = .ok (.iaload, 1) := by decide +kernel
theorem dL_law_519 : decode cL_law 519 = .ok (.invokevirtual 72, 3) := by decide +kernel
theorem dL_law_522 : decode cL_law 522 = .ok (.aload_n 2, 1) := by decide +kernel
theorem dL_law_523 : decode cL_law 523 = .ok (.aload_n 0, 1) := by decide +kernel
theorem dL_law_524 : decode cL_law 524 = .ok (.iload_n 3, 1) := by decide +kernel
theorem dL_law_525 : decode cL_law 525 = .ok (.iconst 1, 1) := by decide +kernel
theorem dL_law_526 : decode cL_law 526 = .ok (.iadd, 1) := by decide +kernel
theorem dL_law_527 : decode cL_law 527 = .ok (.iaload, 1) := by decide +kernel
theorem dL_law_528 : decode cL_law 528 = .ok (.invokevirtual 75, 3) := by decide +kernel
theorem dL_law_531 : decode cL_law 531 = .ok (.if_icmp .eq 321, 3) := by decide +kernel
theorem dL_law_534 : decode cL_law 534 = .ok (.iconst 0, 1) := by decide +kernel
theorem dL_law_535 : decode cL_law 535 = .ok (.ireturn, 1) := by decide +kernel
theorem dL_law_536 : decode cL_law 536 = .ok (.aload_n 1, 1) := by decide +kernel
theorem dL_law_537 : decode cL_law 537 = .ok (.aload_n 0, 1) := by decide +kernel
theorem dL_law_538 : decode cL_law 538 = .ok (.iload_n 3, 1) := by decide +kernel
theorem dL_law_539 : decode cL_law 539 = .ok (.iconst 1, 1) := by decide +kernel
theorem dL_law_540 : decode cL_law 540 = .ok (.iadd, 1) := by decide +kernel
theorem dL_law_541 : decode cL_law 541 = .ok (.iaload, 1) := by decide +kernel
theorem dL_law_542 : decode cL_law 542 = .ok (.invokevirtual 76, 3) := by decide +kernel
theorem dL_law_545 : decode cL_law 545 = .ok (.aload_n 2, 1) := by decide +kernel
theorem dL_law_546 : decode cL_law 546 = .ok (.aload_n 0, 1) := by decide +kernel
theorem dL_law_547 : decode cL_law 547 = .ok (.iload_n 3, 1) := by decide +kernel
theorem dL_law_548 : decode cL_law 548 = .ok (.iconst 1, 1) := by decide +kernel
theorem dL_law_549 : decode cL_law 549 = .ok (.iadd, 1) := by decide +kernel
theorem dL_law_550 : decode cL_law 550 = .ok (.iaload, 1) := by decide +kernel
theorem dL_law_551 : decode cL_law 551 = .ok (.invokevirtual 79, 3) := by decide +kernel
theorem dL_law_554 : decode cL_law 554 = .ok (.if_icmp .eq 298, 3) := by decide +kernel
theorem dL_law_557 : decode cL_law 557 = .ok (.iconst 0, 1) := by decide +kernel
theorem dL_law_558 : decode cL_law 558 = .ok (.ireturn, 1) := by decide +kernel
theorem dL_law_559 : decode cL_law 559 = .ok (.aload_n 1, 1) := by decide +kernel
theorem dL_law_560 : decode cL_law 560 = .ok (.invokevirtual 80, 3) := by decide +kernel
theorem dL_law_563 : decode cL_law 563 = .ok (.aload_n 2, 1) := by decide +kernel
theorem dL_law_564 : decode cL_law 564 = .ok (.invokevirtual 83, 3) := by decide +kernel
theorem dL_law_567 : decode cL_law 567 = .ok (.if_icmp .eq 285, 3) := by decide +kernel
theorem dL_law_570 : decode cL_law 570 = .ok (.iconst 0, 1) := by decide +kernel
theorem dL_law_571 : decode cL_law 571 = .ok (.ireturn, 1) := by decide +kernel
theorem dL_law_572 : decode cL_law 572 = .ok (.aload_n 1, 1) := by decide +kernel
theorem dL_law_573 : decode cL_law 573 = .ok (.aload_n 0, 1) := by decide +kernel
theorem dL_law_574 : decode cL_law 574 = .ok (.iload_n 3, 1) := by decide +kernel
theorem dL_law_575 : decode cL_law 575 = .ok (.iconst 1, 1) := by decide +kernel
theorem dL_law_576 : decode cL_law 576 = .ok (.iadd, 1) := by decide +kernel
theorem dL_law_577 : decode cL_law 577 = .ok (.iaload, 1) := by decide +kernel
theorem dL_law_578 : decode cL_law 578 = .ok (.invokevirtual 84, 3) := by decide +kernel
theorem dL_law_581 : decode cL_law 581 = .ok (.aload_n 2, 1) := by decide +kernel
theorem dL_law_582 : decode cL_law 582 = .ok (.aload_n 0, 1) := by decide +kernel
theorem dL_law_583 : decode cL_law 583 = .ok (.iload_n 3, 1) := by decide +kernel
theorem dL_law_584 : decode cL_law 584 = .ok (.iconst 1, 1) := by decide +kernel
theorem dL_law_585 : decode cL_law 585 = .ok (.iadd, 1) := by decide +kernel
theorem dL_law_586 : decode cL_law 586 = .ok (.iaload, 1) := by decide +kernel
theorem dL_law_587 : decode cL_law 587 = .ok (.invokevirtual 87, 3) := by decide +kernel
theorem dL_law_590 : decode cL_law 590 = .ok (.if_icmp .eq 262, 3) := by decide +kernel
theorem dL_law_593 : decode cL_law 593 = .ok (.iconst 0, 1) := by decide +kernel
theorem dL_law_594 : decode cL_law 594 = .ok (.ireturn, 1) := by decide +kernel
theorem dL_law_595 : decode cL_law 595 = .ok (.aload_n 1, 1) := by decide +kernel
theorem dL_law_596 : decode cL_law 596 = .ok (.invokevirtual 88, 3) := by decide +kernel
theorem dL_law_599 : decode cL_law 599 = .ok (.aload_n 2, 1) := by decide +kernel
theorem dL_law_600 : decode cL_law 600 = .ok (.invokevirtual 91, 3) := by decide +kernel
theorem dL_law_603 : decode cL_law 603 = .ok (.if_icmp .eq 249, 3) := by decide +kernel
theorem dL_law_606 : decode cL_law 606 = .ok (.iconst 0, 1) := by decide +kernel
theorem dL_law_607 : decode cL_law 607 = .ok (.ireturn, 1) := by decide +kernel
theorem dL_law_608 : decode cL_law 608 = .ok (.aload_n 1, 1) := by decide +kernel
theorem dL_law_609 : decode cL_law 609 = .ok (.aload_n 0, 1) := by decide +kernel
theorem dL_law_610 : decode cL_law 610 = .ok (.iload_n 3, 1) := by decide +kernel
theorem dL_law_611 : decode cL_law 611 = .ok (.iconst 1, 1) := by decide +kernel
theorem dL_law_612 : decode cL_law 612 = .ok (.iadd, 1) := by decide +kernel
theorem dL_law_613 : decode cL_law 613 = .ok (.iaload, 1) := by decide +kernel
theorem dL_law_614 : decode cL_law 614 = .ok (.aload_n 0, 1) := by decide +kernel
theorem dL_law_615 : decode cL_law 615 = .ok (.iload_n 3, 1) := by decide +kernel
theorem dL_law_616 : decode cL_law 616 = .ok (.iconst 2, 1) := by decide +kernel
theorem dL_law_617 : decode cL_law 617 = .ok (.iadd, 1) := by decide +kernel
theorem dL_law_618 : decode cL_law 618 = .ok (.iaload, 1) := by decide +kernel
theorem dL_law_619 : decode cL_law 619 = .ok (.invokevirtual 92, 3) := by decide +kernel
theorem dL_law_622 : decode cL_law 622 = .ok (.aload_n 2, 1) := by decide +kernel
theorem dL_law_623 : decode cL_law 623 = .ok (.aload_n 0, 1) := by decide +kernel
theorem dL_law_624 : decode cL_law 624 = .ok (.iload_n 3, 1) := by decide +kernel
theorem dL_law_625 : decode cL_law 625 = .ok (.iconst 1, 1) := by decide +kernel
theorem dL_law_626 : decode cL_law 626 = .ok (.iadd, 1) := by decide +kernel
theorem dL_law_627 : decode cL_law 627 = .ok (.iaload, 1) := by decide +kernel
theorem dL_law_628 : decode cL_law 628 = .ok (.aload_n 0, 1) := by decide +kernel
theorem dL_law_629 : decode cL_law 629 = .ok (.iload_n 3, 1) := by decide +kernel
theorem dL_law_630 : decode cL_law 630 = .ok (.iconst 2, 1) := by decide +kernel
theorem dL_law_631 : decode cL_law 631 = .ok (.iadd, 1) := by decide +kernel
theorem dL_law_632 : decode cL_law 632 = .ok (.iaload, 1) := by decide +kernel
theorem dL_law_633 : decode cL_law 633 = .ok (.invokevirtual 95, 3) := by decide +kernel
theorem dL_law_636 : decode cL_law 636 = .ok (.if_icmp .eq 216, 3) := by decide +kernel
theorem dL_law_639 : decode cL_law 639 = .ok (.iconst 0, 1) := by decide +kernel
theorem dL_law_640 : decode cL_law 640 = .ok (.ireturn, 1) := by decide +kernel
theorem dL_law_641 : decode cL_law 641 = .ok (.aload_n 1, 1) := by decide +kernel
theorem dL_law_642 : decode cL_law 642 = .ok (.aload_n 0, 1) := by decide +kernel
theorem dL_law_643 : decode cL_law 643 = .ok (.iload_n 3, 1) := by decide +kernel
theorem dL_law_644 : decode cL_law 644 = .ok (.iconst 1, 1) := by decide +kernel
theorem dL_law_645 : decode cL_law 645 = .ok (.iadd, 1) := by decide +kernel
theorem dL_law_646 : decode cL_law 646 = .ok (.iaload, 1) := by decide +kernel
theorem dL_law_647 : decode cL_law 647 = .ok (.invokevirtual 96, 3) := by decide +kernel
theorem dL_law_650 : decode cL_law 650 = .ok (.aload_n 2, 1) := by decide +kernel
theorem dL_law_651 : decode cL_law 651 = .ok (.aload_n 0, 1) := by decide +kernel
theorem dL_law_652 : decode cL_law 652 = .ok (.iload_n 3, 1) := by decide +kernel
theorem dL_law_653 : decode cL_law 653 = .ok (.iconst 1, 1) := by decide +kernel
theorem dL_law_654 : decode cL_law 654 = .ok (.iadd, 1) := by decide +kernel
theorem dL_law_655 : decode cL_law 655 = .ok (.iaload, 1) := by decide +kernel
theorem dL_law_656 : decode cL_law 656 = .ok (.invokevirtual 99, 3) := by decide +kernel
theorem dL_law_659 : decode cL_law 659 = .ok (.if_icmp .eq 193, 3) := by decide +kernel
theorem dL_law_662 : decode cL_law 662 = .ok (.iconst 0, 1) := by decide +kernel
theorem dL_law_663 : decode cL_law 663 = .ok (.ireturn, 1) := by decide +kernel
theorem dL_law_664 : decode cL_law 664 = .ok (.aload_n 1, 1) := by decide +kernel
theorem dL_law_665 : decode cL_law 665 = .ok (.invokevirtual 100, 3) := by decide +kernel
theorem dL_law_668 : decode cL_law 668 = .ok (.aload_n 2, 1) := by decide +kernel
theorem dL_law_669 : decode cL_law 669 = .ok (.invokevirtual 103, 3) := by decide +kernel
theorem dL_law_672 : decode cL_law 672 = .ok (.if_icmp .eq 180, 3) := by decide +kernel
theorem dL_law_675 : decode cL_law 675 = .ok (.iconst 0, 1) := by decide +kernel
theorem dL_law_676 : decode cL_law 676 = .ok (.ireturn, 1) := by decide +kernel
theorem dL_law_677 : decode cL_law 677 = .ok (.aload_n 1, 1) := by decide +kernel
theorem dL_law_678 : decode cL_law 678 = .ok (.aload_n 0, 1) := by decide +kernel
theorem dL_law_679 : decode cL_law 679 = .ok (.iload_n 3, 1) := by decide +kernel
theorem dL_law_680 : decode cL_law 680 = .ok (.iconst 1, 1) := by decide +kernel
theorem dL_law_681 : decode cL_law 681 = .ok (.iadd, 1) := by decide +kernel
theorem dL_law_682 : decode cL_law 682 = .ok (.iaload, 1) := by decide +kernel
theorem dL_law_683 : decode cL_law 683 = .ok (.aload_n 0, 1) := by decide +kernel
theorem dL_law_684 : decode cL_law 684 = .ok (.iload_n 3, 1) := by decide +kernel
theorem dL_law_685 : decode cL_law 685 = .ok (.iconst 2, 1) := by decide +kernel
theorem dL_law_686 : decode cL_law 686 = .ok (.iadd, 1) := by decide +kernel
theorem dL_law_687 : decode cL_law 687 = .ok (.iaload, 1) := by decide +kernel
theorem dL_law_688 : decode cL_law 688 = .ok (.invokevirtual 104, 3) := by decide +kernel
theorem dL_law_691 : decode cL_law 691 = .ok (.aload_n 2, 1) := by decide +kernel
theorem dL_law_692 : decode cL_law 692 = .ok (.aload_n 0, 1) := by decide +kernel
theorem dL_law_693 : decode cL_law 693 = .ok (.iload_n 3, 1) := by decide +kernel
theorem dL_law_694 : decode cL_law 694 = .ok (.iconst 1, 1) := by decide +kernel
theorem dL_law_695 : decode cL_law 695 = .ok (.iadd, 1) := by decide +kernel
theorem dL_law_696 : decode cL_law 696 = .ok (.iaload, 1) := by decide +kernel
theorem dL_law_697 : decode cL_law 697 = .ok (.aload_n 0, 1) := by decide +kernel
theorem dL_law_698 : decode cL_law 698 = .ok (.iload_n 3, 1) := by decide +kernel
theorem dL_law_699 : decode cL_law 699 = .ok (.iconst 2, 1) := by decide +kernel
theorem dL_law_700 : decode cL_law 700 = .ok (.iadd, 1) := by decide +kernel
theorem dL_law_701 : decode cL_law 701 = .ok (.iaload, 1) := by decide +kernel
theorem dL_law_702 : decode cL_law 702 = .ok (.invokevirtual 107, 3) := by decide +kernel
theorem dL_law_705 : decode cL_law 705 = .ok (.if_icmp .eq 147, 3) := by decide +kernel
theorem dL_law_708 : decode cL_law 708 = .ok (.iconst 0, 1) := by decide +kernel
theorem dL_law_709 : decode cL_law 709 = .ok (.ireturn, 1) := by decide +kernel
theorem dL_law_710 : decode cL_law 710 = .ok (.aload_n 1, 1) := by decide +kernel
theorem dL_law_711 : decode cL_law 711 = .ok (.aload_n 0, 1) := by decide +kernel
theorem dL_law_712 : decode cL_law 712 = .ok (.iload_n 3, 1) := by decide +kernel
theorem dL_law_713 : decode cL_law 713 = .ok (.iconst 1, 1) := by decide +kernel
theorem dL_law_714 : decode cL_law 714 = .ok (.iadd, 1) := by decide +kernel
theorem dL_law_715 : decode cL_law 715 = .ok (.iaload, 1) := by decide +kernel
theorem dL_law_716 : decode cL_law 716 = .ok (.invokevirtual 108, 3) := by decide +kernel
theorem dL_law_719 : decode cL_law 719 = .ok (.aload_n 2, 1) := by decide +kernel
theorem dL_law_720 : decode cL_law 720 = .ok (.aload_n 0, 1) := by decide +kernel
theorem dL_law_721 : decode cL_law 721 = .ok (.iload_n 3, 1) := by decide +kernel
theorem dL_law_722 : decode cL_law 722 = .ok (.iconst 1, 1) := by decide +kernel
theorem dL_law_723 : decode cL_law 723 = .ok (.iadd, 1) := by decide +kernel
theorem dL_law_724 : decode cL_law 724 = .ok (.iaload, 1) := by decide +kernel
theorem dL_law_725 : decode cL_law 725 = .ok (.invokevirtual 111, 3) := by decide +kernel
theorem dL_law_728 : decode cL_law 728 = .ok (.if_icmp .eq 124, 3) := by decide +kernel
theorem dL_law_731 : decode cL_law 731 = .ok (.iconst 0, 1) := by decide +kernel
theorem dL_law_732 : decode cL_law 732 = .ok (.ireturn, 1) := by decide +kernel
theorem dL_law_733 : decode cL_law 733 = .ok (.aload_n 1, 1) := by decide +kernel
theorem dL_law_734 : decode cL_law 734 = .ok (.aload_n 0, 1) := by decide +kernel
theorem dL_law_735 : decode cL_law 735 = .ok (.iload_n 3, 1) := by decide +kernel
theorem dL_law_736 : decode cL_law 736 = .ok (.iconst 1, 1) := by decide +kernel
theorem dL_law_737 : decode cL_law 737 = .ok (.iadd, 1) := by decide +kernel
theorem dL_law_738 : decode cL_law 738 = .ok (.iaload, 1) := by decide +kernel
theorem dL_law_739 : decode cL_law 739 = .ok (.invokevirtual 112, 3) := by decide +kernel
theorem dL_law_742 : decode cL_law 742 = .ok (.aload_n 2, 1) := by decide +kernel
theorem dL_law_743 : decode cL_law 743 = .ok (.aload_n 0, 1) := by decide +kernel
theorem dL_law_744 : decode cL_law 744 = .ok (.iload_n 3, 1) := by decide +kernel
theorem dL_law_745 : decode cL_law 745 = .ok (.iconst 1, 1) := by decide +kernel
theorem dL_law_746 : decode cL_law 746 = .ok (.iadd, 1) := by decide +kernel
theorem dL_law_747 : decode cL_law 747 = .ok (.iaload, 1) := by decide +kernel
theorem dL_law_748 : decode cL_law 748 = .ok (.invokevirtual 115, 3) := by decide +kernel
theorem dL_law_751 : decode cL_law 751 = .ok (.if_icmp .eq 101, 3) := by decide +kernel
theorem dL_law_754 : decode cL_law 754 = .ok (.iconst 0, 1) := by decide +kernel
theorem dL_law_755 : decode cL_law 755 = .ok (.ireturn, 1) := by decide +kernel
theorem dL_law_756 : decode cL_law 756 = .ok (.aload_n 1, 1) := by decide +kernel
theorem dL_law_757 : decode cL_law 757 = .ok (.aload_n 0, 1) := by decide +kernel
theorem dL_law_758 : decode cL_law 758 = .ok (.iload_n 3, 1) := by decide +kernel
theorem dL_law_759 : decode cL_law 759 = .ok (.iconst 1, 1) := by decide +kernel
theorem dL_law_760 : decode cL_law 760 = .ok (.iadd, 1) := by decide +kernel
theorem dL_law_761 : decode cL_law 761 = .ok (.iaload, 1) := by decide +kernel
theorem dL_law_762 : decode cL_law 762 = .ok (.aload_n 0, 1) := by decide +kernel
theorem dL_law_763 : decode cL_law 763 = .ok (.iload_n 3, 1) := by decide +kernel
theorem dL_law_764 : decode cL_law 764 = .ok (.iconst 2, 1) := by decide +kernel
theorem dL_law_765 : decode cL_law 765 = .ok (.iadd, 1) := by decide +kernel
theorem dL_law_766 : decode cL_law 766 = .ok (.iaload, 1) := by decide +kernel
theorem dL_law_767 : decode cL_law 767 = .ok (.invokevirtual 116, 3) := by decide +kernel
theorem dL_law_770 : decode cL_law 770 = .ok (.aload_n 2, 1) := by decide +kernel
theorem dL_law_771 : decode cL_law 771 = .ok (.aload_n 0, 1) := by decide +kernel
theorem dL_law_772 : decode cL_law 772 = .ok (.iload_n 3, 1) := by decide +kernel
theorem dL_law_773 : decode cL_law 773 = .ok (.iconst 1, 1) := by decide +kernel
theorem dL_law_774 : decode cL_law 774 = .ok (.iadd, 1) := by decide +kernel
theorem dL_law_775 : decode cL_law 775 = .ok (.iaload, 1) := by decide +kernel
theorem dL_law_776 : decode cL_law 776 = .ok (.aload_n 0, 1) := by decide +kernel
theorem dL_law_777 : decode cL_law 777 = .ok (.iload_n 3, 1) := by decide +kernel
theorem dL_law_778 : decode cL_law 778 = .ok (.iconst 2, 1) := by decide +kernel
theorem dL_law_779 : decode cL_law 779 = .ok (.iadd, 1) := by decide +kernel
theorem dL_law_780 : decode cL_law 780 = .ok (.iaload, 1) := by decide +kernel
theorem dL_law_781 : decode cL_law 781 = .ok (.invokevirtual 119, 3) := by decide +kernel
theorem dL_law_784 : decode cL_law 784 = .ok (.if_icmp .eq 68, 3) := by decide +kernel
theorem dL_law_787 : decode cL_law 787 = .ok (.iconst 0, 1) := by decide +kernel
theorem dL_law_788 : decode cL_law 788 = .ok (.ireturn, 1) := by decide +kernel
theorem dL_law_789 : decode cL_law 789 = .ok (.aload_n 1, 1) := by decide +kernel
theorem dL_law_790 : decode cL_law 790 = .ok (.invokevirtual 120, 3) := by decide +kernel
theorem dL_law_793 : decode cL_law 793 = .ok (.aload_n 2, 1) := by decide +kernel
theorem dL_law_794 : decode cL_law 794 = .ok (.invokevirtual 123, 3) := by decide +kernel
theorem dL_law_797 : decode cL_law 797 = .ok (.if_icmp .eq 55, 3) := by decide +kernel
theorem dL_law_800 : decode cL_law 800 = .ok (.iconst 0, 1) := by decide +kernel
theorem dL_law_801 : decode cL_law 801 = .ok (.ireturn, 1) := by decide +kernel
theorem dL_law_802 : decode cL_law 802 = .ok (.aload_n 1, 1) := by decide +kernel
theorem dL_law_803 : decode cL_law 803 = .ok (.invokevirtual 124, 3) := by decide +kernel
theorem dL_law_806 : decode cL_law 806 = .ok (.aload_n 2, 1) := by decide +kernel
theorem dL_law_807 : decode cL_law 807 = .ok (.invokevirtual 127, 3) := by decide +kernel
theorem dL_law_810 : decode cL_law 810 = .ok (.if_icmp .eq 42, 3) := by decide +kernel
theorem dL_law_813 : decode cL_law 813 = .ok (.iconst 0, 1) := by decide +kernel
theorem dL_law_814 : decode cL_law 814 = .ok (.ireturn, 1) := by decide +kernel
theorem dL_law_815 : decode cL_law 815 = .ok (.aload_n 1, 1) := by decide +kernel
theorem dL_law_816 : decode cL_law 816 = .ok (.aload_n 0, 1) := by decide +kernel
theorem dL_law_817 : decode cL_law 817 = .ok (.iload_n 3, 1) := by decide +kernel
theorem dL_law_818 : decode cL_law 818 = .ok (.iconst 1, 1) := by decide +kernel
theorem dL_law_819 : decode cL_law 819 = .ok (.iadd, 1) := by decide +kernel
theorem dL_law_820 : decode cL_law 820 = .ok (.iaload, 1) := by decide +kernel
theorem dL_law_821 : decode cL_law 821 = .ok (.invokevirtual 128, 3) := by decide +kernel
theorem dL_law_824 : decode cL_law 824 = .ok (.aload_n 2, 1) := by decide +kernel
theorem dL_law_825 : decode cL_law 825 = .ok (.aload_n 0, 1) := by decide +kernel
theorem dL_law_826 : decode cL_law 826 = .ok (.iload_n 3, 1) := by decide +kernel
theorem dL_law_827 : decode cL_law 827 = .ok (.iconst 1, 1) := by decide +kernel
theorem dL_law_828 : decode cL_law 828 = .ok (.iadd, 1) := by decide +kernel
theorem dL_law_829 : decode cL_law 829 = .ok (.iaload, 1) := by decide +kernel
theorem dL_law_830 : decode cL_law 830 = .ok (.invokevirtual 131, 3) := by decide +kernel
theorem dL_law_833 : decode cL_law 833 = .ok (.if_icmp .eq 19, 3) := by decide +kernel
theorem dL_law_836 : decode cL_law 836 = .ok (.iconst 0, 1) := by decide +kernel
theorem dL_law_837 : decode cL_law 837 = .ok (.ireturn, 1) := by decide +kernel
theorem dL_law_838 : decode cL_law 838 = .ok (.aload_n 1, 1) := by decide +kernel
theorem dL_law_839 : decode cL_law 839 = .ok (.invokevirtual 132, 3) := by decide +kernel
theorem dL_law_842 : decode cL_law 842 = .ok (.aload_n 2, 1) := by decide +kernel
theorem dL_law_843 : decode cL_law 843 = .ok (.invokevirtual 136, 3) := by decide +kernel
theorem dL_law_846 : decode cL_law 846 = .ok (.lcmp, 1) := by decide +kernel
theorem dL_law_847 : decode cL_law 847 = .ok (.ifCond .eq 5, 3) := by decide +kernel
theorem dL_law_850 : decode cL_law 850 = .ok (.iconst 0, 1) := by decide +kernel
theorem dL_law_851 : decode cL_law 851 = .ok (.ireturn, 1) := by decide +kernel
theorem dL_law_852 : decode cL_law 852 = .ok (.iinc 3 4, 3) := by decide +kernel
theorem dL_law_855 : decode cL_law 855 = .ok (.goto (-837), 3) := by decide +kernel
theorem dL_law_858 : decode cL_law 858 = .ok (.iconst 1, 1) := by decide +kernel
theorem dL_law_859 : decode cL_law 859 = .ok (.ireturn, 1) := by decide +kernel
end
section
/-! THE SHAPE OF THE SYSTEM'S HEAP: 56 cells in the order in which the constructors make them; references never change behind the constructors, so a state is the ints of all cells, and one long -/
abbrev St : Type := (Nat → Nat → Int32) × Int64
/-- what a cell is: the number of its class in vwCl, or 9 and the length of an int array -/
def xk (i : Nat) : Nat := [7, 5, 25, 2, 6, 16, 16, 16, 16, 16, 16, 16, 6, 16, 16, 16, 16, 16, 16, 16, 4, 16, 3, 2057, 2057, 58, 17, 4, 16, 1, 137, 16, 4, 16, 0, 6, 16, 16, 16, 16, 16, 16, 16, 8, 25, 16, 16, 16, 16, 16, 16, 16, 16, 16, 16, 51].getD i 9
/-- how many fields a class has -/
def nf (c : Nat) : Nat := [3, 4, 4, 7, 2, 2, 8, 13, 32].getD c 0
/-- what a field is: 0 an int, 1 a reference, 2 a long -/
def kd (c k : Nat) : Nat := ([[1, 0, 0], [1, 1, 1, 0], [0, 0, 0, 0], [1, 1, 1, 1, 1, 0, 0], [1, 0], [1, 0], [1, 1, 1, 1, 1, 1, 1, 0], [1, 1, 1, 1, 1, 1, 1, 1, 0, 0, 0, 0, 0], [1, 0, 0, 0, 0, 0, 0, 0, 0, 0, 0, 0, 0, 1, 1, 1, 1, 1, 1, 1, 1, 1, 1, 0, 0, 0, 0, 0, 0, 0, 1, 2]].getD c []).getD k 0
/-- where a reference leads -/
def rf (i k : Nat) : Nat := match i with
  | 0 => [1, 3, 4, 12, 20, 22, 29, 34].getD k 0
  | 1 => 2
  | 20 => 21
  | 22 => 23 + k
  | 27 => 28
  | 29 => 30 + k
  | 32 => 33
  | 34 => 35
  | 43 => [44, 0, 0, 0, 0, 0, 0, 0, 0, 0, 0, 0, 0, 45, 46, 47, 48, 49, 50, 51, 52, 53, 54, 0, 0, 0, 0, 0, 0, 0, 55, 0].getD k 0
  | i => i + 1 + k
def vl (bs : Nat) (σ : St) (i k : Nat) : Value := if kd (xk i) k = 1 then .ref (bs + rf i k) else if kd (xk i) k = 2 then .long σ.2 else .int (σ.1 i k)
def cel (bs : Nat) (cA : ClassId) (σ : St) (i : Nat) : va_E := if 9 < xk i then .inl (cA, xk i - 9, .inl (σ.1 i)) else .inr (xk i, (List.range (nf (xk i))).map (vl bs σ i))
def wld (bs : Nat) (cA : ClassId) (σ : St) : va_W := (List.range 56).map (fun i => (bs + i, cel bs cA σ i))
theorem xk_lt {i : Nat} (h : xk i ≠ 9) : i < 56 := by
  rcases Nat.lt_or_ge i 56 with q | q
  · exact q
  · exfalso
    apply h
    unfold xk
    rw [List.getD_eq_getElem?_getD, List.getElem?_eq_none (by simpa using q)]
    rfl
theorem wld_at {bs : Nat} {cA : ClassId} {σ : St} {i : Nat} (h : i < 56) : (wld bs cA σ)[i]? = some (bs + i, cel bs cA σ i) := by
  simp [wld, h]
theorem wld_D {bs : Nat} {cA : ClassId} {σ : St} : va_D (fun q => bs ≤ q) (wld bs cA σ) := by
  refine ⟨fun i j p q hp hq e => ?_, fun k q hq => ?_⟩
  · simp only [wld, List.getElem?_map, Option.map_eq_some_iff] at hp hq
    obtain ⟨a, h1, rfl⟩ := hp
    obtain ⟨b, h2, rfl⟩ := hq
    rw [List.getElem?_range (by have := (List.getElem?_eq_some_iff.mp h1).1; simpa using this)] at h1
    rw [List.getElem?_range (by have := (List.getElem?_eq_some_iff.mp h2).1; simpa using this)] at h2
    cases h1; cases h2
    dsimp only at e
    omega
  · simp only [wld, List.getElem?_map, Option.map_eq_some_iff] at hq
    obtain ⟨a, h1, rfl⟩ := hq
    exact Nat.le_add_right _ _
theorem wld_set {bs : Nat} {cA : ClassId} {σ σ' : St} {i : Nat} {e : va_E} (he : cel bs cA σ' i = e) (ho : ∀ j, j ≠ i → cel bs cA σ' j = cel bs cA σ j) : (wld bs cA σ).set i (bs + i, e) = wld bs cA σ' := by
  apply List.ext_getElem?
  intro k
  by_cases hk : k < 56
  · rw [wld_at hk]
    by_cases hki : k = i
    · subst hki
      rw [List.getElem?_set_self (by simpa [wld] using hk), he]
    · rw [List.getElem?_set_ne (fun q => hki q.symm), wld_at hk, ho k hki]
  · rw [List.getElem?_eq_none (by simpa [wld] using Nat.not_lt.mp hk), List.getElem?_eq_none (by simpa [wld] using Nat.not_lt.mp hk)]
/-! the state's changes -/
def si (σ : St) (a k : Nat) (v : Int32) : St := (fun i => if i = a then upd (σ.1 a) k v else σ.1 i, σ.2)
def sl (σ : St) (v : Int64) : St := (σ.1, v)
def sc (σ : St) (a : Nat) (f : Nat → Int32) : St := (fun i => if i = a then f else σ.1 i, σ.2)
def ald (σ : St) (a n : Nat) (i : Int32) : Option Int32 := if i < 0 ∨ n ≤ i.toNatClampNeg then none else some (σ.1 a i.toNatClampNeg)
def ast (σ : St) (a n : Nat) (i x : Int32) : Option St := if i < 0 ∨ n ≤ i.toNatClampNeg then none else some (si σ a i.toNatClampNeg x)
def nm {α β : Type} (e : α) (f : α → β) : β := f e
def lp {α : Type} (b : α → α) (z : α) : Nat → α
  | 0 => z
  | n + 1 => b (lp b z n)
theorem bdS {α β : Type} {o : Option α} {f : α → Option β} {x : β} (h : o.bind f = some x) : ∃ v, o = some v ∧ f v = some x := by
  cases o with
  | none => cases h
  | some v => exact ⟨v, rfl, h⟩
theorem nmS {α β : Type} {e : α} {f : α → Option β} {x : β} (h : nm e f = some x) : ∃ v, v = e ∧ f v = some x := ⟨e, rfl, h⟩
theorem cel_si_ne {bs : Nat} {cA : ClassId} {σ : St} {a k : Nat} {v : Int32} {j : Nat} (h : j ≠ a) : cel bs cA (si σ a k v) j = cel bs cA σ j := by
  unfold cel
  by_cases q : 9 < xk j
  · rw [if_pos q, if_pos q]
    simp [si, h]
  · rw [if_neg q, if_neg q]
    congr 2
    exact List.map_congr_left (fun x _ => by simp [vl, si, h])
theorem cel_sc_ne {bs : Nat} {cA : ClassId} {σ : St} {a : Nat} {f : Nat → Int32} {j : Nat} (h : j ≠ a) : cel bs cA (sc σ a f) j = cel bs cA σ j := by
  unfold cel
  by_cases q : 9 < xk j
  · rw [if_pos q, if_pos q]
    simp [sc, h]
  · rw [if_neg q, if_neg q]
    congr 2
    exact List.map_congr_left (fun x _ => by simp [vl, sc, h])
theorem cel_arr {bs : Nat} {cA : ClassId} {σ : St} {a n : Nat} (h : xk a = n + 9) (hn : 0 < n) : cel bs cA σ a = .inl (cA, n, .inl (σ.1 a)) := by
  unfold cel
  rw [if_pos (by omega), h, Nat.add_sub_cancel]
theorem cel_obj {bs : Nat} {cA : ClassId} {σ : St} {a ci : Nat} (h : xk a = ci) (hc : ci < 9) : cel bs cA σ a = .inr (ci, (List.range (nf ci)).map (vl bs σ a)) := by
  unfold cel
  rw [if_neg (by omega), h]
theorem rfx (ci k v : Nat) (h : (List.range 56).all (fun a => xk a != ci || xk (rf a k) == v) = true) (hc : ci ≠ 9) : ∀ a, xk a = ci → xk (rf a k) = v := by
  intro a ha
  have hl : a < 56 := xk_lt (by omega)
  have h1 := List.all_eq_true.mp h a (List.mem_range.mpr hl)
  simp only [Bool.or_eq_true, bne_iff_ne, beq_iff_eq] at h1
  rcases h1 with h1 | h1
  · exact absurd ha h1
  · exact h1
/-! THE WORDS: every method's contract takes all the tables' words -/
def gwt : List Cond := lw_tbl.filter goodWord
theorem gw_of {w : Cond} (i : Nat) (h : lw_tbl[i]? = some w) (hg : goodWord w = true) : w ∈ gwt := List.mem_filter.mpr ⟨List.mem_of_getElem? h, hg⟩
theorem good_in : GoodIn gwt gwt := fun w hw => ⟨hw, good_of_word (List.mem_filter.mp hw).2⟩
abbrev nwW : Cond := .methodLinkNest RX7 27 yX9_isWithin RX9
theorem good_cons {w : Cond} (h : w ∈ gwt) : GoodIn gwt (w :: gwt) := fun v hv => by
  rcases List.mem_cons.mp hv with rfl | hv
  · exact good_in _ h
  · exact good_in _ hv
/-- what a method's body knows: the machine, its code, the tables' words, the classes -/
def Cx (D : va_G) (cA : ClassId) (own : String) (cc : ByteArray) (nL : Nat) (ret : Option FieldType) (p : Program) (s : State) (m : MethodId) (args : Array Value) (meth : Method) (c : Code) : Prop :=
  p.tables.exec = Jvm.exec ∧ c.code = cc ∧ c.maxLocals = nL ∧ s.vm.findClass own = some m.cls ∧ (∀ w ∈ gwt, w.before args s = true) ∧ meth.locks = false ∧ va_K D vwCl [(cA, .int)] s ∧ meth.sig.returnType = ret ∧ va_Nw nwW s
/-- the machine at pc, with locals and stack, the system's state σ: it comes to Q -/
def Y (D : va_G) (cA : ClassId) (bs : Nat) (p : Program) (l : Launch) (e : Env) (R : Room) (s : State) (m : MethodId) (args : Array Value) (below : List Frame) (meth : Method) (c : Code) (nL ce sk : Nat) (Q : State → Prop) (σ : St) (pc : Nat) (lv : List (Nat × Value)) (st : List Value) : Prop :=
  ∀ (H : Heap) (locs : List Loc) (ls : Array Slot), va_P D vwCl (wld bs cA σ) H → va_S (fun q => bs ≤ q) s.heap H locs → lv_has ls nL lv → W p l e R s m args below meth c H locs ce sk Q (F0 m pc ls st)
def QC (D : va_G) (cA : ClassId) (bs : Nat) (r : Option Value) (σ : St) : Array Value → State → Outcome → State → Prop := fun _ st oc t => (oc = .returned r ∧ va_P D vwCl (wld bs cA σ) t.heap ∧ va_K D vwCl [(cA, .int)] t) ∧ va_F (fun q => bs ≤ q) st t
abbrev rmY (fr lo : Nat) : Room := { frames := fr, cells := 0, slots := 0, locals := lo }
/-- a method's contract: from σ, with these arguments, it answers r and leaves σ' -/
def Ct (l : Launch) (D : va_G) (cA : ClassId) (bs : Nat) (y : MethodName) (cc : ByteArray) (nL : Nat) (ret : Option FieldType) (fr lo : Nat) (As : List Value) (σ : St) (r : Option Value) (σ' : St) : Prop :=
  Met l y (.code y cc nL ret :: gwt) (rmY fr lo) (va_Pc As (fun U => va_P D vwCl (wld bs cA σ) U.heap ∧ va_K D vwCl [(cA, .int)] U ∧ va_Nw nwW U)) (QC D cA bs r σ') 0 0 (fun q => bs ≤ q)
abbrev QM (D : va_G) (cA : ClassId) (bs : Nat) (below : List Frame) (args : Array Value) (s : State) (r : Option Value) (σ : St) : State → Prop := MQ below (QC D cA bs r σ) args s 0 0 (fun q => bs ≤ q)
theorem Ct.of {l : Launch} {D : va_G} {cA : ClassId} {bs : Nat} {y : MethodName} {cc : ByteArray} {nL : Nat} {ret : Option FieldType} {fr lo : Nat} {As : List Value} {σ : St} {r : Option Value} {σ' : St} (hy : plainName y.cls = true) (hl : (lg_sl As).length ≤ nL)
    (body : ∀ p e s m args below meth c, Cx D cA y.cls cc nL ret p s m args meth c → Y D cA bs p l e (rmY fr lo) s m args below meth c nL 0 0 (QM D cA bs below args s r σ') σ 0 (lv_args 0 As) []) : Ct l D cA bs y cc nL ret fr lo As σ r σ' := by
  refine Met.ofW (cc := cc) (maxL := nL) (ret := ret) hy rfl ?_
  intro p e s m args below meth c s₁ B hml hv
  obtain ⟨rfl, hP, hK, hNw⟩ := hv
  have hts := atoms_spec (ws := .code y cc nL ret :: gwt) B.pre
  have hle := lv_entry As (n := nL) hl
  rw [lg_entry_eq]
  exact body p e s m As.toArray below meth c ⟨B.exec, B.bytes, hml, findClass_of_methodNamed B.named, fun w hw => hts w (List.mem_cons_of_mem _ hw), B.notSynchronized, hK, B.returns, hNw⟩ _ _ _ hP va_S.rf hle
section YR
variable {D : va_G} {cA : ClassId} {bs : Nat} {p : Program} {l : Launch} {e : Env} {R : Room} {s : State} {m : MethodId} {args : Array Value} {below : List Frame} {meth : Method} {c : Code} {nL ce sk : Nat} {Q : State → Prop} {σ : St} {pc : Nat} {lv : List (Nat × Value)} {st : List Value} {own : String} {cc : ByteArray} {ret : Option FieldType}
theorem y_iconst (C : Cx D cA own cc nL ret p s m args meth c) {n : Int} {v : Int32} (hd : decode cc pc = .ok (.iconst n, 1)) (hv : Int32.ofInt n = v) (kk : Y D cA bs p l e R s m args below meth c nL ce sk Q σ (pc + 1) lv (.int v :: st)) : Y D cA bs p l e R s m args below meth c nL ce sk Q σ pc lv (st) := fun H locs ls h1 h2 h3 => lv_iconst C.1 C.2.1 hd hv (kk H locs ls h1 h2 h3)
theorem y_bipush (C : Cx D cA own cc nL ret p s m args meth c) {n : Int} {v : Int32} (hd : decode cc pc = .ok (.bipush n, 2)) (hv : (Int8.ofInt n).toInt32 = v) (kk : Y D cA bs p l e R s m args below meth c nL ce sk Q σ (pc + 2) lv (.int v :: st)) : Y D cA bs p l e R s m args below meth c nL ce sk Q σ pc lv (st) := fun H locs ls h1 h2 h3 => lv_bipush C.1 C.2.1 hd hv (kk H locs ls h1 h2 h3)
theorem y_sipush (C : Cx D cA own cc nL ret p s m args meth c) {n : Int} {v : Int32} (hd : decode cc pc = .ok (.sipush n, 3)) (hv : (Int16.ofInt n).toInt32 = v) (kk : Y D cA bs p l e R s m args below meth c nL ce sk Q σ (pc + 3) lv (.int v :: st)) : Y D cA bs p l e R s m args below meth c nL ce sk Q σ pc lv (st) := fun H locs ls h1 h2 h3 => lv_sipush C.1 C.2.1 hd hv (kk H locs ls h1 h2 h3)
theorem y_lconst (C : Cx D cA own cc nL ret p s m args meth c) {n : Fin 2} {v : Int64} (hd : decode cc pc = .ok (.lconst n, 1)) (hv : Int64.ofNat (n : Nat) = v) (kk : Y D cA bs p l e R s m args below meth c nL ce sk Q σ (pc + 1) lv (.long v :: st)) : Y D cA bs p l e R s m args below meth c nL ce sk Q σ pc lv (st) := fun H locs ls h1 h2 h3 => lv_lconst C.1 C.2.1 hd hv (kk H locs ls h1 h2 h3)
theorem y_ldc (C : Cx D cA own cc nL ret p s m args meth c) {index : Nat} {v : Int32} (hd : decode cc pc = .ok (.ldc index, 2)) (hw : Cond.constant own index v ∈ gwt) (kk : Y D cA bs p l e R s m args below meth c nL ce sk Q σ (pc + 2) lv (.int v :: st)) : Y D cA bs p l e R s m args below meth c nL ce sk Q σ pc lv st := fun H locs ls h1 h2 h3 => lv_ldc C.1 C.2.1 C.2.2.2.1 (C.2.2.2.2.1 _ hw) hd (kk H locs ls h1 h2 h3)
theorem y_ldcw (C : Cx D cA own cc nL ret p s m args meth c) {index : Nat} {v : Int32} (hd : decode cc pc = .ok (.ldc_w index, 3)) (hw : Cond.constant own index v ∈ gwt) (kk : Y D cA bs p l e R s m args below meth c nL ce sk Q σ (pc + 3) lv (.int v :: st)) : Y D cA bs p l e R s m args below meth c nL ce sk Q σ pc lv st := fun H locs ls h1 h2 h3 => lv_ldcw C.1 C.2.1 C.2.2.2.1 (C.2.2.2.2.1 _ hw) hd (kk H locs ls h1 h2 h3)
theorem y_ldc2 (C : Cx D cA own cc nL ret p s m args meth c) {index : Nat} {v : Int64} (hd : decode cc pc = .ok (.ldc2_w index, 3)) (hw : Cond.constantLong own index v ∈ gwt) (kk : Y D cA bs p l e R s m args below meth c nL ce sk Q σ (pc + 3) lv (.long v :: st)) : Y D cA bs p l e R s m args below meth c nL ce sk Q σ pc lv st := fun H locs ls h1 h2 h3 => lv_ldc2 C.1 C.2.1 C.2.2.2.1 (C.2.2.2.2.1 _ hw) hd (kk H locs ls h1 h2 h3)
theorem y_iload_n (C : Cx D cA own cc nL ret p s m args meth c) {k : Fin 4} {i q : Nat} {x : Int32} (hd : decode cc pc = .ok (.iload_n k, 1)) (hi : (k : Nat) = i) (hq : lv[q]? = some (i, .int x)) (kk : Y D cA bs p l e R s m args below meth c nL ce sk Q σ (pc + 1) lv (.int x :: st)) : Y D cA bs p l e R s m args below meth c nL ce sk Q σ pc lv st := fun H locs ls h1 h2 h3 => lv_iload_n C.1 C.2.1 hd hi (lv_at h3 q hq) (kk H locs ls h1 h2 h3)
theorem y_iload (C : Cx D cA own cc nL ret p s m args meth c) {i q : Nat} {x : Int32} (hd : decode cc pc = .ok (.iload i, 2)) (hq : lv[q]? = some (i, .int x)) (kk : Y D cA bs p l e R s m args below meth c nL ce sk Q σ (pc + 2) lv (.int x :: st)) : Y D cA bs p l e R s m args below meth c nL ce sk Q σ pc lv st := fun H locs ls h1 h2 h3 => lv_iload C.1 C.2.1 hd (lv_at h3 q hq) (kk H locs ls h1 h2 h3)
theorem y_istore_n (C : Cx D cA own cc nL ret p s m args meth c) {k : Fin 4} {i : Nat} {x : Int32} {lv' : List (Nat × Value)} (hd : decode cc pc = .ok (.istore_n k, 1)) (hi : (k : Nat) = i) (hn : i < nL) (hl : (i, Value.int x) :: lv.filter (fun q => !(q.1 == i) && !(q.1 + 1 == i && q.2.category == 2)) = lv') (kk : Y D cA bs p l e R s m args below meth c nL ce sk Q σ (pc + 1) lv' st) : Y D cA bs p l e R s m args below meth c nL ce sk Q σ pc lv (.int x :: st) := fun H locs ls h1 h2 h3 => lv_istore_n C.1 C.2.1 hd hi h3 hn hl (fun ls' h4 => kk H locs ls' h1 h2 h4)
theorem y_istore (C : Cx D cA own cc nL ret p s m args meth c) {i : Nat} {x : Int32} {lv' : List (Nat × Value)} (hd : decode cc pc = .ok (.istore i, 2)) (hn : i < nL) (hl : (i, Value.int x) :: lv.filter (fun q => !(q.1 == i) && !(q.1 + 1 == i && q.2.category == 2)) = lv') (kk : Y D cA bs p l e R s m args below meth c nL ce sk Q σ (pc + 2) lv' st) : Y D cA bs p l e R s m args below meth c nL ce sk Q σ pc lv (.int x :: st) := fun H locs ls h1 h2 h3 => lv_istore C.1 C.2.1 hd h3 hn hl (fun ls' h4 => kk H locs ls' h1 h2 h4)
theorem y_lload_n (C : Cx D cA own cc nL ret p s m args meth c) {k : Fin 4} {i q : Nat} {x : Int64} (hd : decode cc pc = .ok (.lload_n k, 1)) (hi : (k : Nat) = i) (hq : lv[q]? = some (i, .long x)) (kk : Y D cA bs p l e R s m args below meth c nL ce sk Q σ (pc + 1) lv (.long x :: st)) : Y D cA bs p l e R s m args below meth c nL ce sk Q σ pc lv st := fun H locs ls h1 h2 h3 => lv_lload_n C.1 C.2.1 hd hi (lv_at h3 q hq) (kk H locs ls h1 h2 h3)
theorem y_lload (C : Cx D cA own cc nL ret p s m args meth c) {i q : Nat} {x : Int64} (hd : decode cc pc = .ok (.lload i, 2)) (hq : lv[q]? = some (i, .long x)) (kk : Y D cA bs p l e R s m args below meth c nL ce sk Q σ (pc + 2) lv (.long x :: st)) : Y D cA bs p l e R s m args below meth c nL ce sk Q σ pc lv st := fun H locs ls h1 h2 h3 => lv_lload C.1 C.2.1 hd (lv_at h3 q hq) (kk H locs ls h1 h2 h3)
theorem y_lstore_n (C : Cx D cA own cc nL ret p s m args meth c) {k : Fin 4} {i : Nat} {x : Int64} {lv' : List (Nat × Value)} (hd : decode cc pc = .ok (.lstore_n k, 1)) (hi : (k : Nat) = i) (hn : i + 1 < nL) (hl : (i, Value.long x) :: lv.filter (fun q => !(q.1 == i) && (!(q.1 == i + 1) && !(q.1 + 1 == i && q.2.category == 2))) = lv') (kk : Y D cA bs p l e R s m args below meth c nL ce sk Q σ (pc + 1) lv' st) : Y D cA bs p l e R s m args below meth c nL ce sk Q σ pc lv (.long x :: st) := fun H locs ls h1 h2 h3 => lv_lstore_n C.1 C.2.1 hd hi h3 hn hl (fun ls' h4 => kk H locs ls' h1 h2 h4)
theorem y_lstore (C : Cx D cA own cc nL ret p s m args meth c) {i : Nat} {x : Int64} {lv' : List (Nat × Value)} (hd : decode cc pc = .ok (.lstore i, 2)) (hn : i + 1 < nL) (hl : (i, Value.long x) :: lv.filter (fun q => !(q.1 == i) && (!(q.1 == i + 1) && !(q.1 + 1 == i && q.2.category == 2))) = lv') (kk : Y D cA bs p l e R s m args below meth c nL ce sk Q σ (pc + 2) lv' st) : Y D cA bs p l e R s m args below meth c nL ce sk Q σ pc lv (.long x :: st) := fun H locs ls h1 h2 h3 => lv_lstore C.1 C.2.1 hd h3 hn hl (fun ls' h4 => kk H locs ls' h1 h2 h4)
theorem y_aload_n (C : Cx D cA own cc nL ret p s m args meth c) {k : Fin 4} {i q : Nat} {x : Nat} (hd : decode cc pc = .ok (.aload_n k, 1)) (hi : (k : Nat) = i) (hq : lv[q]? = some (i, .ref x)) (kk : Y D cA bs p l e R s m args below meth c nL ce sk Q σ (pc + 1) lv (.ref x :: st)) : Y D cA bs p l e R s m args below meth c nL ce sk Q σ pc lv st := fun H locs ls h1 h2 h3 => lv_aload_n C.1 C.2.1 hd hi (lv_at h3 q hq) (kk H locs ls h1 h2 h3)
theorem y_aload (C : Cx D cA own cc nL ret p s m args meth c) {i q : Nat} {x : Nat} (hd : decode cc pc = .ok (.aload i, 2)) (hq : lv[q]? = some (i, .ref x)) (kk : Y D cA bs p l e R s m args below meth c nL ce sk Q σ (pc + 2) lv (.ref x :: st)) : Y D cA bs p l e R s m args below meth c nL ce sk Q σ pc lv st := fun H locs ls h1 h2 h3 => lv_aload C.1 C.2.1 hd (lv_at h3 q hq) (kk H locs ls h1 h2 h3)
theorem y_astore_n (C : Cx D cA own cc nL ret p s m args meth c) {k : Fin 4} {i : Nat} {x : Nat} {lv' : List (Nat × Value)} (hd : decode cc pc = .ok (.astore_n k, 1)) (hi : (k : Nat) = i) (hn : i < nL) (hl : (i, Value.ref x) :: lv.filter (fun q => !(q.1 == i) && !(q.1 + 1 == i && q.2.category == 2)) = lv') (kk : Y D cA bs p l e R s m args below meth c nL ce sk Q σ (pc + 1) lv' st) : Y D cA bs p l e R s m args below meth c nL ce sk Q σ pc lv (.ref x :: st) := fun H locs ls h1 h2 h3 => lv_astore_n C.1 C.2.1 hd hi h3 hn hl (fun ls' h4 => kk H locs ls' h1 h2 h4)
theorem y_astore (C : Cx D cA own cc nL ret p s m args meth c) {i : Nat} {x : Nat} {lv' : List (Nat × Value)} (hd : decode cc pc = .ok (.astore i, 2)) (hn : i < nL) (hl : (i, Value.ref x) :: lv.filter (fun q => !(q.1 == i) && !(q.1 + 1 == i && q.2.category == 2)) = lv') (kk : Y D cA bs p l e R s m args below meth c nL ce sk Q σ (pc + 2) lv' st) : Y D cA bs p l e R s m args below meth c nL ce sk Q σ pc lv (.ref x :: st) := fun H locs ls h1 h2 h3 => lv_astore C.1 C.2.1 hd h3 hn hl (fun ls' h4 => kk H locs ls' h1 h2 h4)
theorem y_iinc (C : Cx D cA own cc nL ret p s m args meth c) {i k : Nat} {n : Int} {x v : Int32} {lv' : List (Nat × Value)} (hd : decode cc pc = .ok (.iinc i n, 3)) (hk : lv[k]? = some (i, .int x)) (hv : x + Int32.ofInt n = v) (hn : i < nL) (hl : (i, Value.int v) :: lv.filter (fun q => !(q.1 == i) && !(q.1 + 1 == i && q.2.category == 2)) = lv') (kk : Y D cA bs p l e R s m args below meth c nL ce sk Q σ (pc + 3) lv' st) : Y D cA bs p l e R s m args below meth c nL ce sk Q σ pc lv st := fun H locs ls h1 h2 h3 => lv_iinc C.1 C.2.1 hd h3 hk hv hn hl (fun ls' h4 => kk H locs ls' h1 h2 h4)
theorem y_sub (ks : List Nat) {lv' : List (Nat × Value)} (hl : lv_pick lv ks = lv') (kk : Y D cA bs p l e R s m args below meth c nL ce sk Q σ pc lv' st) : Y D cA bs p l e R s m args below meth c nL ce sk Q σ pc lv st := fun H locs ls h1 h2 h3 => kk H locs ls h1 h2 (lv_sub h3 ks hl)
theorem y_iadd (C : Cx D cA own cc nL ret p s m args meth c) {x y : Int32} (hd : decode cc pc = .ok (.iadd, 1)) (kk : Y D cA bs p l e R s m args below meth c nL ce sk Q σ (pc + 1) lv (.int (x + y) :: st)) : Y D cA bs p l e R s m args below meth c nL ce sk Q σ pc lv (.int y :: .int x :: st) := fun H locs ls h1 h2 h3 => lv_iadd C.1 C.2.1 hd  (kk H locs ls h1 h2 h3)
theorem y_isub (C : Cx D cA own cc nL ret p s m args meth c) {x y : Int32} (hd : decode cc pc = .ok (.isub, 1)) (kk : Y D cA bs p l e R s m args below meth c nL ce sk Q σ (pc + 1) lv (.int (x - y) :: st)) : Y D cA bs p l e R s m args below meth c nL ce sk Q σ pc lv (.int y :: .int x :: st) := fun H locs ls h1 h2 h3 => lv_isub C.1 C.2.1 hd  (kk H locs ls h1 h2 h3)
theorem y_imul (C : Cx D cA own cc nL ret p s m args meth c) {x y : Int32} (hd : decode cc pc = .ok (.imul, 1)) (kk : Y D cA bs p l e R s m args below meth c nL ce sk Q σ (pc + 1) lv (.int (x * y) :: st)) : Y D cA bs p l e R s m args below meth c nL ce sk Q σ pc lv (.int y :: .int x :: st) := fun H locs ls h1 h2 h3 => lv_imul C.1 C.2.1 hd  (kk H locs ls h1 h2 h3)
theorem y_iand (C : Cx D cA own cc nL ret p s m args meth c) {x y : Int32} (hd : decode cc pc = .ok (.iand, 1)) (kk : Y D cA bs p l e R s m args below meth c nL ce sk Q σ (pc + 1) lv (.int (x &&& y) :: st)) : Y D cA bs p l e R s m args below meth c nL ce sk Q σ pc lv (.int y :: .int x :: st) := fun H locs ls h1 h2 h3 => lv_iand C.1 C.2.1 hd  (kk H locs ls h1 h2 h3)
theorem y_ior (C : Cx D cA own cc nL ret p s m args meth c) {x y : Int32} (hd : decode cc pc = .ok (.ior, 1)) (kk : Y D cA bs p l e R s m args below meth c nL ce sk Q σ (pc + 1) lv (.int (x ||| y) :: st)) : Y D cA bs p l e R s m args below meth c nL ce sk Q σ pc lv (.int y :: .int x :: st) := fun H locs ls h1 h2 h3 => lv_ior C.1 C.2.1 hd  (kk H locs ls h1 h2 h3)
theorem y_ixor (C : Cx D cA own cc nL ret p s m args meth c) {x y : Int32} (hd : decode cc pc = .ok (.ixor, 1)) (kk : Y D cA bs p l e R s m args below meth c nL ce sk Q σ (pc + 1) lv (.int (x ^^^ y) :: st)) : Y D cA bs p l e R s m args below meth c nL ce sk Q σ pc lv (.int y :: .int x :: st) := fun H locs ls h1 h2 h3 => lv_ixor C.1 C.2.1 hd  (kk H locs ls h1 h2 h3)
theorem y_ishl (C : Cx D cA own cc nL ret p s m args meth c) {x y : Int32} (hd : decode cc pc = .ok (.ishl, 1)) (kk : Y D cA bs p l e R s m args below meth c nL ce sk Q σ (pc + 1) lv (.int (x <<< (y &&& 31)) :: st)) : Y D cA bs p l e R s m args below meth c nL ce sk Q σ pc lv (.int y :: .int x :: st) := fun H locs ls h1 h2 h3 => lv_ishl C.1 C.2.1 hd  (kk H locs ls h1 h2 h3)
theorem y_ishr (C : Cx D cA own cc nL ret p s m args meth c) {x y : Int32} (hd : decode cc pc = .ok (.ishr, 1)) (kk : Y D cA bs p l e R s m args below meth c nL ce sk Q σ (pc + 1) lv (.int (x >>> (y &&& 31)) :: st)) : Y D cA bs p l e R s m args below meth c nL ce sk Q σ pc lv (.int y :: .int x :: st) := fun H locs ls h1 h2 h3 => lv_ishr C.1 C.2.1 hd  (kk H locs ls h1 h2 h3)
theorem y_idiv (C : Cx D cA own cc nL ret p s m args meth c) {x y : Int32} (hd : decode cc pc = .ok (.idiv, 1)) (hne : ¬ y = 0) (kk : Y D cA bs p l e R s m args below meth c nL ce sk Q σ (pc + 1) lv (.int (x / y) :: st)) : Y D cA bs p l e R s m args below meth c nL ce sk Q σ pc lv (.int y :: .int x :: st) := fun H locs ls h1 h2 h3 => lv_idiv C.1 C.2.1 hd hne (kk H locs ls h1 h2 h3)
theorem y_irem (C : Cx D cA own cc nL ret p s m args meth c) {x y : Int32} (hd : decode cc pc = .ok (.irem, 1)) (hne : ¬ y = 0) (kk : Y D cA bs p l e R s m args below meth c nL ce sk Q σ (pc + 1) lv (.int (x - x / y * y) :: st)) : Y D cA bs p l e R s m args below meth c nL ce sk Q σ pc lv (.int y :: .int x :: st) := fun H locs ls h1 h2 h3 => lv_irem C.1 C.2.1 hd hne (kk H locs ls h1 h2 h3)
theorem y_ineg (C : Cx D cA own cc nL ret p s m args meth c) {x : Int32} (hd : decode cc pc = .ok (.ineg, 1)) (kk : Y D cA bs p l e R s m args below meth c nL ce sk Q σ (pc + 1) lv (.int (-x) :: st)) : Y D cA bs p l e R s m args below meth c nL ce sk Q σ pc lv (.int x :: st) := fun H locs ls h1 h2 h3 => lv_ineg C.1 C.2.1 hd  (kk H locs ls h1 h2 h3)
theorem y_ladd (C : Cx D cA own cc nL ret p s m args meth c) {x y : Int64} (hd : decode cc pc = .ok (.ladd, 1)) (kk : Y D cA bs p l e R s m args below meth c nL ce sk Q σ (pc + 1) lv (.long (x + y) :: st)) : Y D cA bs p l e R s m args below meth c nL ce sk Q σ pc lv (.long y :: .long x :: st) := fun H locs ls h1 h2 h3 => lv_ladd C.1 C.2.1 hd  (kk H locs ls h1 h2 h3)
theorem y_lmul (C : Cx D cA own cc nL ret p s m args meth c) {x y : Int64} (hd : decode cc pc = .ok (.lmul, 1)) (kk : Y D cA bs p l e R s m args below meth c nL ce sk Q σ (pc + 1) lv (.long (x * y) :: st)) : Y D cA bs p l e R s m args below meth c nL ce sk Q σ pc lv (.long y :: .long x :: st) := fun H locs ls h1 h2 h3 => lv_lmul C.1 C.2.1 hd  (kk H locs ls h1 h2 h3)
theorem y_land (C : Cx D cA own cc nL ret p s m args meth c) {x y : Int64} (hd : decode cc pc = .ok (.land, 1)) (kk : Y D cA bs p l e R s m args below meth c nL ce sk Q σ (pc + 1) lv (.long (x &&& y) :: st)) : Y D cA bs p l e R s m args below meth c nL ce sk Q σ pc lv (.long y :: .long x :: st) := fun H locs ls h1 h2 h3 => lv_land C.1 C.2.1 hd  (kk H locs ls h1 h2 h3)
theorem y_lor (C : Cx D cA own cc nL ret p s m args meth c) {x y : Int64} (hd : decode cc pc = .ok (.lor, 1)) (kk : Y D cA bs p l e R s m args below meth c nL ce sk Q σ (pc + 1) lv (.long (x ||| y) :: st)) : Y D cA bs p l e R s m args below meth c nL ce sk Q σ pc lv (.long y :: .long x :: st) := fun H locs ls h1 h2 h3 => lv_lor C.1 C.2.1 hd  (kk H locs ls h1 h2 h3)
theorem y_i2l (C : Cx D cA own cc nL ret p s m args meth c) {x : Int32} (hd : decode cc pc = .ok (.i2l, 1)) (kk : Y D cA bs p l e R s m args below meth c nL ce sk Q σ (pc + 1) lv (.long x.toInt64 :: st)) : Y D cA bs p l e R s m args below meth c nL ce sk Q σ pc lv (.int x :: st) := fun H locs ls h1 h2 h3 => lv_i2l C.1 C.2.1 hd rfl (kk H locs ls h1 h2 h3)
theorem y_l2i (C : Cx D cA own cc nL ret p s m args meth c) {x : Int64} (hd : decode cc pc = .ok (.l2i, 1)) (kk : Y D cA bs p l e R s m args below meth c nL ce sk Q σ (pc + 1) lv (.int x.toInt32 :: st)) : Y D cA bs p l e R s m args below meth c nL ce sk Q σ pc lv (.long x :: st) := fun H locs ls h1 h2 h3 => lv_l2i C.1 C.2.1 hd rfl (kk H locs ls h1 h2 h3)
theorem y_iushr (C : Cx D cA own cc nL ret p s m args meth c) {x y : Int32} (hd : decode cc pc = .ok (.iushr, 1)) (kk : Y D cA bs p l e R s m args below meth c nL ce sk Q σ (pc + 1) lv (.int (x.toUInt32 >>> (y.toUInt32 &&& Int32.toUInt32 31)).toInt32 :: st)) : Y D cA bs p l e R s m args below meth c nL ce sk Q σ pc lv (.int y :: .int x :: st) := fun H locs ls h1 h2 h3 => lv_iushr C.1 C.2.1 hd rfl (kk H locs ls h1 h2 h3)
theorem y_lushr (C : Cx D cA own cc nL ret p s m args meth c) {x : Int64} {y : Int32} (hd : decode cc pc = .ok (.lushr, 1)) (kk : Y D cA bs p l e R s m args below meth c nL ce sk Q σ (pc + 1) lv (.long (x.toUInt64 >>> (y.toInt64.toUInt64 &&& Int64.toUInt64 63)).toInt64 :: st)) : Y D cA bs p l e R s m args below meth c nL ce sk Q σ pc lv (.int y :: .long x :: st) := fun H locs ls h1 h2 h3 => lv_lushr C.1 C.2.1 hd rfl (kk H locs ls h1 h2 h3)
theorem y_lshl (C : Cx D cA own cc nL ret p s m args meth c) {x : Int64} {y : Int32} (hd : decode cc pc = .ok (.lshl, 1)) (kk : Y D cA bs p l e R s m args below meth c nL ce sk Q σ (pc + 1) lv (.long (x <<< (y.toInt64 &&& 63)) :: st)) : Y D cA bs p l e R s m args below meth c nL ce sk Q σ pc lv (.int y :: .long x :: st) := fun H locs ls h1 h2 h3 => lv_lshl C.1 C.2.1 hd rfl (kk H locs ls h1 h2 h3)
theorem y_lcmp (C : Cx D cA own cc nL ret p s m args meth c) {x y : Int64} (hd : decode cc pc = .ok (.lcmp, 1)) (kk : Y D cA bs p l e R s m args below meth c nL ce sk Q σ (pc + 1) lv (.int (lg_cmp x y) :: st)) : Y D cA bs p l e R s m args below meth c nL ce sk Q σ pc lv (.long y :: .long x :: st) := fun H locs ls h1 h2 h3 => W.lcmp C.1 C.2.1 hd  (kk H locs ls h1 h2 h3)
theorem y_dup (C : Cx D cA own cc nL ret p s m args meth c) {va : Value} (hd : decode cc pc = .ok (.dup, 1)) (hva : va.category = 1) (kk : Y D cA bs p l e R s m args below meth c nL ce sk Q σ (pc + 1) lv (va :: va :: st)) : Y D cA bs p l e R s m args below meth c nL ce sk Q σ pc lv (va :: st) := fun H locs ls h1 h2 h3 => lv_dup C.1 C.2.1 hd hva (kk H locs ls h1 h2 h3)
theorem y_dup2 (C : Cx D cA own cc nL ret p s m args meth c) {va vb : Value} (hd : decode cc pc = .ok (.dup2, 1)) (hva : va.category = 1) (hvb : vb.category = 1) (kk : Y D cA bs p l e R s m args below meth c nL ce sk Q σ (pc + 1) lv (va :: vb :: va :: vb :: st)) : Y D cA bs p l e R s m args below meth c nL ce sk Q σ pc lv (va :: vb :: st) := fun H locs ls h1 h2 h3 => lv_dup2_11 C.1 C.2.1 hd hva hvb (kk H locs ls h1 h2 h3)
theorem y_if_eq (C : Cx D cA own cc nL ret p s m args meth c) {x : Int32} {off : Int} {tgt : Nat} (hd : decode cc pc = .ok (.ifCond .eq off, 3)) (ht : (pc : Int) + off = (tgt : Int)) (kt : x = 0 → Y D cA bs p l e R s m args below meth c nL ce sk Q σ tgt lv st) (kf : ¬ x = 0 → Y D cA bs p l e R s m args below meth c nL ce sk Q σ (pc + 3) lv st) : Y D cA bs p l e R s m args below meth c nL ce sk Q σ pc lv (.int x :: st) := fun H locs ls h1 h2 h3 => lv_if_eq C.1 C.2.1 hd ht (fun q => kt q H locs ls h1 h2 h3) (fun q => kf q H locs ls h1 h2 h3)
theorem y_if_ne (C : Cx D cA own cc nL ret p s m args meth c) {x : Int32} {off : Int} {tgt : Nat} (hd : decode cc pc = .ok (.ifCond .ne off, 3)) (ht : (pc : Int) + off = (tgt : Int)) (kt : ¬ x = 0 → Y D cA bs p l e R s m args below meth c nL ce sk Q σ tgt lv st) (kf : x = 0 → Y D cA bs p l e R s m args below meth c nL ce sk Q σ (pc + 3) lv st) : Y D cA bs p l e R s m args below meth c nL ce sk Q σ pc lv (.int x :: st) := fun H locs ls h1 h2 h3 => lv_if_ne C.1 C.2.1 hd ht (fun q => kt q H locs ls h1 h2 h3) (fun q => kf q H locs ls h1 h2 h3)
theorem y_if_lt (C : Cx D cA own cc nL ret p s m args meth c) {x : Int32} {off : Int} {tgt : Nat} (hd : decode cc pc = .ok (.ifCond .lt off, 3)) (ht : (pc : Int) + off = (tgt : Int)) (kt : x < 0 → Y D cA bs p l e R s m args below meth c nL ce sk Q σ tgt lv st) (kf : ¬ x < 0 → Y D cA bs p l e R s m args below meth c nL ce sk Q σ (pc + 3) lv st) : Y D cA bs p l e R s m args below meth c nL ce sk Q σ pc lv (.int x :: st) := fun H locs ls h1 h2 h3 => lv_if_lt C.1 C.2.1 hd ht (fun q => kt q H locs ls h1 h2 h3) (fun q => kf q H locs ls h1 h2 h3)
theorem y_if_ge (C : Cx D cA own cc nL ret p s m args meth c) {x : Int32} {off : Int} {tgt : Nat} (hd : decode cc pc = .ok (.ifCond .ge off, 3)) (ht : (pc : Int) + off = (tgt : Int)) (kt : 0 ≤ x → Y D cA bs p l e R s m args below meth c nL ce sk Q σ tgt lv st) (kf : ¬ 0 ≤ x → Y D cA bs p l e R s m args below meth c nL ce sk Q σ (pc + 3) lv st) : Y D cA bs p l e R s m args below meth c nL ce sk Q σ pc lv (.int x :: st) := fun H locs ls h1 h2 h3 => lv_if_ge C.1 C.2.1 hd ht (fun q => kt q H locs ls h1 h2 h3) (fun q => kf q H locs ls h1 h2 h3)
theorem y_if_gt (C : Cx D cA own cc nL ret p s m args meth c) {x : Int32} {off : Int} {tgt : Nat} (hd : decode cc pc = .ok (.ifCond .gt off, 3)) (ht : (pc : Int) + off = (tgt : Int)) (kt : 0 < x → Y D cA bs p l e R s m args below meth c nL ce sk Q σ tgt lv st) (kf : ¬ 0 < x → Y D cA bs p l e R s m args below meth c nL ce sk Q σ (pc + 3) lv st) : Y D cA bs p l e R s m args below meth c nL ce sk Q σ pc lv (.int x :: st) := fun H locs ls h1 h2 h3 => lv_if_gt C.1 C.2.1 hd ht (fun q => kt q H locs ls h1 h2 h3) (fun q => kf q H locs ls h1 h2 h3)
theorem y_if_le (C : Cx D cA own cc nL ret p s m args meth c) {x : Int32} {off : Int} {tgt : Nat} (hd : decode cc pc = .ok (.ifCond .le off, 3)) (ht : (pc : Int) + off = (tgt : Int)) (kt : x ≤ 0 → Y D cA bs p l e R s m args below meth c nL ce sk Q σ tgt lv st) (kf : ¬ x ≤ 0 → Y D cA bs p l e R s m args below meth c nL ce sk Q σ (pc + 3) lv st) : Y D cA bs p l e R s m args below meth c nL ce sk Q σ pc lv (.int x :: st) := fun H locs ls h1 h2 h3 => lv_if_le C.1 C.2.1 hd ht (fun q => kt q H locs ls h1 h2 h3) (fun q => kf q H locs ls h1 h2 h3)
theorem y_icmp_eq (C : Cx D cA own cc nL ret p s m args meth c) {x y : Int32} {off : Int} {tgt : Nat} (hd : decode cc pc = .ok (.if_icmp .eq off, 3)) (ht : (pc : Int) + off = (tgt : Int)) (kt : x = y → Y D cA bs p l e R s m args below meth c nL ce sk Q σ tgt lv st) (kf : ¬ x = y → Y D cA bs p l e R s m args below meth c nL ce sk Q σ (pc + 3) lv st) : Y D cA bs p l e R s m args below meth c nL ce sk Q σ pc lv (.int y :: .int x :: st) := fun H locs ls h1 h2 h3 => lv_icmp_eq C.1 C.2.1 hd ht (fun q => kt q H locs ls h1 h2 h3) (fun q => kf q H locs ls h1 h2 h3)
theorem y_icmp_ne (C : Cx D cA own cc nL ret p s m args meth c) {x y : Int32} {off : Int} {tgt : Nat} (hd : decode cc pc = .ok (.if_icmp .ne off, 3)) (ht : (pc : Int) + off = (tgt : Int)) (kt : ¬ x = y → Y D cA bs p l e R s m args below meth c nL ce sk Q σ tgt lv st) (kf : x = y → Y D cA bs p l e R s m args below meth c nL ce sk Q σ (pc + 3) lv st) : Y D cA bs p l e R s m args below meth c nL ce sk Q σ pc lv (.int y :: .int x :: st) := fun H locs ls h1 h2 h3 => lv_icmp_ne C.1 C.2.1 hd ht (fun q => kt q H locs ls h1 h2 h3) (fun q => kf q H locs ls h1 h2 h3)
theorem y_icmp_lt (C : Cx D cA own cc nL ret p s m args meth c) {x y : Int32} {off : Int} {tgt : Nat} (hd : decode cc pc = .ok (.if_icmp .lt off, 3)) (ht : (pc : Int) + off = (tgt : Int)) (kt : x < y → Y D cA bs p l e R s m args below meth c nL ce sk Q σ tgt lv st) (kf : ¬ x < y → Y D cA bs p l e R s m args below meth c nL ce sk Q σ (pc + 3) lv st) : Y D cA bs p l e R s m args below meth c nL ce sk Q σ pc lv (.int y :: .int x :: st) := fun H locs ls h1 h2 h3 => lv_icmp_lt C.1 C.2.1 hd ht (fun q => kt q H locs ls h1 h2 h3) (fun q => kf q H locs ls h1 h2 h3)
theorem y_icmp_ge (C : Cx D cA own cc nL ret p s m args meth c) {x y : Int32} {off : Int} {tgt : Nat} (hd : decode cc pc = .ok (.if_icmp .ge off, 3)) (ht : (pc : Int) + off = (tgt : Int)) (kt : y ≤ x → Y D cA bs p l e R s m args below meth c nL ce sk Q σ tgt lv st) (kf : ¬ y ≤ x → Y D cA bs p l e R s m args below meth c nL ce sk Q σ (pc + 3) lv st) : Y D cA bs p l e R s m args below meth c nL ce sk Q σ pc lv (.int y :: .int x :: st) := fun H locs ls h1 h2 h3 => lv_icmp_ge C.1 C.2.1 hd ht (fun q => kt q H locs ls h1 h2 h3) (fun q => kf q H locs ls h1 h2 h3)
theorem y_icmp_gt (C : Cx D cA own cc nL ret p s m args meth c) {x y : Int32} {off : Int} {tgt : Nat} (hd : decode cc pc = .ok (.if_icmp .gt off, 3)) (ht : (pc : Int) + off = (tgt : Int)) (kt : y < x → Y D cA bs p l e R s m args below meth c nL ce sk Q σ tgt lv st) (kf : ¬ y < x → Y D cA bs p l e R s m args below meth c nL ce sk Q σ (pc + 3) lv st) : Y D cA bs p l e R s m args below meth c nL ce sk Q σ pc lv (.int y :: .int x :: st) := fun H locs ls h1 h2 h3 => lv_icmp_gt C.1 C.2.1 hd ht (fun q => kt q H locs ls h1 h2 h3) (fun q => kf q H locs ls h1 h2 h3)
theorem y_icmp_le (C : Cx D cA own cc nL ret p s m args meth c) {x y : Int32} {off : Int} {tgt : Nat} (hd : decode cc pc = .ok (.if_icmp .le off, 3)) (ht : (pc : Int) + off = (tgt : Int)) (kt : x ≤ y → Y D cA bs p l e R s m args below meth c nL ce sk Q σ tgt lv st) (kf : ¬ x ≤ y → Y D cA bs p l e R s m args below meth c nL ce sk Q σ (pc + 3) lv st) : Y D cA bs p l e R s m args below meth c nL ce sk Q σ pc lv (.int y :: .int x :: st) := fun H locs ls h1 h2 h3 => lv_icmp_le C.1 C.2.1 hd ht (fun q => kt q H locs ls h1 h2 h3) (fun q => kf q H locs ls h1 h2 h3)
theorem y_goto (C : Cx D cA own cc nL ret p s m args meth c) {off : Int} {tgt : Nat} (hd : decode cc pc = .ok (.goto off, 3)) (ht : (pc : Int) + off = (tgt : Int)) (kk : Y D cA bs p l e R s m args below meth c nL ce sk Q σ tgt lv st) : Y D cA bs p l e R s m args below meth c nL ce sk Q σ pc lv st := fun H locs ls h1 h2 h3 => lv_goto C.1 C.2.1 hd ht (kk H locs ls h1 h2 h3)
theorem y_look (C : Cx D cA own cc nL ret p s m args meth c) {dflt : Int} {ps : Array (Int × Int)} {len : Nat} {x : Int32} {off : Int} {tgt : Nat} (hd : decode cc pc = .ok (.lookupswitch dflt ps, len)) (hp : (ps.toList.zip (ps.toList.drop 1)).all (fun (a, next) => a.1 < next.1) = true) (ho : Op.lookupswitch.offset ps.toList dflt x.toInt = off) (ht : (pc : Int) + off = (tgt : Int)) (kk : Y D cA bs p l e R s m args below meth c nL ce sk Q σ tgt lv st) : Y D cA bs p l e R s m args below meth c nL ce sk Q σ pc lv (.int x :: st) := fun H locs ls h1 h2 h3 => lv_lookup C.1 C.2.1 hd hp ho ht (kk H locs ls h1 h2 h3)
theorem y_tabO (C : Cx D cA own cc nL ret p s m args meth c) {dflt lo hi : Int} {offs : Array Int} {len : Nat} {x : Int32} {tgt : Nat} (hd : decode cc pc = .ok (.tableswitch dflt lo hi offs, len)) (h : x.toInt < lo ∨ hi < x.toInt) (ht : (pc : Int) + dflt = (tgt : Int)) (kk : Y D cA bs p l e R s m args below meth c nL ce sk Q σ tgt lv st) : Y D cA bs p l e R s m args below meth c nL ce sk Q σ pc lv (.int x :: st) := fun H locs ls h1 h2 h3 => lv_tableOut C.1 C.2.1 hd h ht (kk H locs ls h1 h2 h3)
theorem y_tabI (C : Cx D cA own cc nL ret p s m args meth c) {dflt lo hi : Int} {offs : Array Int} {len : Nat} {x : Int32} {off : Int} {tgt : Nat} (hd : decode cc pc = .ok (.tableswitch dflt lo hi offs, len)) (g1 : ¬ x.toInt < lo) (g2 : ¬ hi < x.toInt) (ho : offs[(x.toInt - lo).toNat]? = some off) (ht : (pc : Int) + off = (tgt : Int)) (kk : Y D cA bs p l e R s m args below meth c nL ce sk Q σ tgt lv st) : Y D cA bs p l e R s m args below meth c nL ce sk Q σ pc lv (.int x :: st) := fun H locs ls h1 h2 h3 => lv_tableIn C.1 C.2.1 hd g1 g2 ho ht (kk H locs ls h1 h2 h3)
/-- a field that the tables link -/
def FA (own : String) (index ci k : Nat) : Prop := ∃ (Cn : String) (T : u_T) (N : Nat) (ty0 : Nat → FieldType), vwCl[ci]? = some (Cn, T, N) ∧ (∀ w ∈ u_ws Cn T N, w ∈ gwt) ∧ k < N ∧ nf ci = N ∧ Cond.fieldLink own index (T k).1 (T k).2.1 (T k).2.2.1 ∈ gwt ∧ ci < 9 ∧ (∀ k, k < N → parseFieldDescriptor (T k).2.2.1 = some (ty0 k)) ∧ (∀ a, a < N → ∀ b, b < N → a ≠ b → (T a).2.1 ≠ (T b).2.1)
def FP (own : String) (index ci k : Nat) (ty : FieldType) : Prop := ∃ (Cn : String) (T : u_T) (N : Nat) (ty0 : Nat → FieldType), (vwCl[ci]? = some (Cn, T, N) ∧ (∀ w ∈ u_ws Cn T N, w ∈ gwt) ∧ k < N ∧ nf ci = N ∧ Cond.fieldLink own index (T k).1 (T k).2.1 (T k).2.2.1 ∈ gwt ∧ ci < 9 ∧ (∀ k, k < N → parseFieldDescriptor (T k).2.2.1 = some (ty0 k)) ∧ (∀ a, a < N → ∀ b, b < N → a ≠ b → (T a).2.1 ≠ (T b).2.1)) ∧ (T k).2.2.2 = false ∧ parseFieldDescriptor (T k).2.2.1 = some ty
theorem vl_at {bs : Nat} {σ : St} {a n k : Nat} (h : k < n) : ((List.range n).map (vl bs σ a))[k]? = some (vl bs σ a k) := by simp [h]
theorem vl_set {bs : Nat} {σ σ' : St} {a n k : Nat} {v : Value} (hk : k < n) (hv : vl bs σ' a k = v) (ho : ∀ j, j ≠ k → vl bs σ' a j = vl bs σ a j) : ((List.range n).map (vl bs σ a)).set k v = (List.range n).map (vl bs σ' a) := by
  apply List.ext_getElem?
  intro j
  by_cases hj : j < n
  · rw [vl_at hj]
    by_cases hjk : j = k
    · subst hjk
      rw [List.getElem?_set_self (by simpa using hj), hv]
    · rw [List.getElem?_set_ne (fun q => hjk q.symm), vl_at hj, ho j hjk]
  · rw [List.getElem?_eq_none (by simpa using Nat.not_lt.mp hj), List.getElem?_eq_none (by simpa using Nat.not_lt.mp hj)]
theorem y_geti (C : Cx D cA own cc nL ret p s m args meth c) {index ci k a : Nat} (hf : FA own index ci k) (hkd : kd ci k = 0) (ha : xk a = ci) (hd : decode cc pc = .ok (.getfield index, 3)) (kk : Y D cA bs p l e R s m args below meth c nL ce sk Q σ (pc + 3) lv (.int (σ.1 a k) :: st)) : Y D cA bs p l e R s m args below meth c nL ce sk Q σ pc lv (.ref (bs + a) :: st) := by
  intro H locs ls h1 h2 h3
  obtain ⟨Cn, T, N, ty0, g1, g2, g3, g4, g5, g6, g7, g8⟩ := hf
  have hl : a < 56 := xk_lt (by omega)
  have he : (wld bs cA σ)[a]? = some (bs + a, .inr (ci, (List.range (nf ci)).map (vl bs σ a))) := by rw [wld_at hl, cel_obj ha g6]
  refine va_get C.1 C.2.1 C.2.2.2.2.1 g2 C.2.2.2.1 C.2.2.2.2.2.2.1 h1 a he g1 k g3 (C.2.2.2.2.1 _ g5) (fun _ q => q) (v := .int (σ.1 a k)) ?_ hd (kk H locs ls h1 h2 h3)
  rw [vl_at (by omega)]
  simp [vl, ha, hkd]
theorem y_getr (C : Cx D cA own cc nL ret p s m args meth c) {index ci k a : Nat} (hf : FA own index ci k) (hkd : kd ci k = 1) (ha : xk a = ci) (hd : decode cc pc = .ok (.getfield index, 3)) (kk : Y D cA bs p l e R s m args below meth c nL ce sk Q σ (pc + 3) lv (.ref (bs + rf a k) :: st)) : Y D cA bs p l e R s m args below meth c nL ce sk Q σ pc lv (.ref (bs + a) :: st) := by
  intro H locs ls h1 h2 h3
  obtain ⟨Cn, T, N, ty0, g1, g2, g3, g4, g5, g6, g7, g8⟩ := hf
  have hl : a < 56 := xk_lt (by omega)
  have he : (wld bs cA σ)[a]? = some (bs + a, .inr (ci, (List.range (nf ci)).map (vl bs σ a))) := by rw [wld_at hl, cel_obj ha g6]
  refine va_get C.1 C.2.1 C.2.2.2.2.1 g2 C.2.2.2.1 C.2.2.2.2.2.2.1 h1 a he g1 k g3 (C.2.2.2.2.1 _ g5) (fun _ q => q) (v := .ref (bs + rf a k)) ?_ hd (kk H locs ls h1 h2 h3)
  rw [vl_at (by omega)]
  simp [vl, ha, hkd]
theorem y_getl (C : Cx D cA own cc nL ret p s m args meth c) {index ci k a : Nat} (hf : FA own index ci k) (hkd : kd ci k = 2) (ha : xk a = ci) (hd : decode cc pc = .ok (.getfield index, 3)) (kk : Y D cA bs p l e R s m args below meth c nL ce sk Q σ (pc + 3) lv (.long σ.2 :: st)) : Y D cA bs p l e R s m args below meth c nL ce sk Q σ pc lv (.ref (bs + a) :: st) := by
  intro H locs ls h1 h2 h3
  obtain ⟨Cn, T, N, ty0, g1, g2, g3, g4, g5, g6, g7, g8⟩ := hf
  have hl : a < 56 := xk_lt (by omega)
  have he : (wld bs cA σ)[a]? = some (bs + a, .inr (ci, (List.range (nf ci)).map (vl bs σ a))) := by rw [wld_at hl, cel_obj ha g6]
  refine va_get C.1 C.2.1 C.2.2.2.2.1 g2 C.2.2.2.1 C.2.2.2.2.2.2.1 h1 a he g1 k g3 (C.2.2.2.2.1 _ g5) (fun _ q => q) (v := .long σ.2) ?_ hd (kk H locs ls h1 h2 h3)
  rw [vl_at (by omega)]
  simp [vl, ha, hkd]
theorem y_puti (C : Cx D cA own cc nL ret p s m args meth c) {index ci k a : Nat} {ty : FieldType} {v : Int32} (hf : FP own index ci k ty) (hkd : kd ci k = 0) (ha : xk a = ci) (hn : narrow ty (.int v) = .int v) (hfit : fits ty (.int v) = true) (hd : decode cc pc = .ok (.putfield index, 3)) (kk : Y D cA bs p l e R s m args below meth c nL ce sk Q (si σ a k v) (pc + 3) lv st) : Y D cA bs p l e R s m args below meth c nL ce sk Q σ pc lv (.int v :: .ref (bs + a) :: st) := by
  intro H locs ls h1 h2 h3
  obtain ⟨Cn, T, N, ty0, ⟨g1, g2, g3, g4, g5, g6, g7, g8⟩, g9, g10⟩ := hf
  have hl : a < 56 := xk_lt (by omega)
  have he : (wld bs cA σ)[a]? = some (bs + a, .inr (ci, (List.range (nf ci)).map (vl bs σ a))) := by rw [wld_at hl, cel_obj ha g6]
  refine va_put C.1 C.2.1 C.2.2.2.2.1 g2 ty0 g7 g8 C.2.2.2.1 C.2.2.2.2.2.2.1 h1 wld_D h2 a he g1 k g3 (C.2.2.2.2.1 _ g5) (fun _ q => q) g9 g10 hn hfit (by simp; omega) hd (fun H1 locs1 hP hD hS => kk H1 locs1 ls ?_ hS h3)
  rw [vl_set (σ' := si σ a k v) (by omega) (by simp [vl, ha, hkd, si, upd]) (fun j hj => by simp [vl, si, upd, hj]), wld_set (σ' := si σ a k v) (by rw [cel_obj ha g6]) (fun j hj => cel_si_ne hj)] at hP
  exact hP
theorem y_putl (C : Cx D cA own cc nL ret p s m args meth c) {index k a : Nat} {v : Int64} (hf : FP own index 8 k .long) (hkd : kd 8 k = 2) (hko : ∀ i j, kd (xk i) j = 2 → i = 43 ∧ j = k) (ha : xk a = 8) (hd : decode cc pc = .ok (.putfield index, 3)) (kk : Y D cA bs p l e R s m args below meth c nL ce sk Q (sl σ v) (pc + 3) lv st) : Y D cA bs p l e R s m args below meth c nL ce sk Q σ pc lv (.long v :: .ref (bs + a) :: st) := by
  intro H locs ls h1 h2 h3
  obtain ⟨Cn, T, N, ty0, ⟨g1, g2, g3, g4, g5, g6, g7, g8⟩, g9, g10⟩ := hf
  have hl : a < 56 := xk_lt (by omega)
  have ha43 : a = 43 := (hko a k (by rw [ha]; exact hkd)).1
  have he : (wld bs cA σ)[a]? = some (bs + a, .inr (8, (List.range (nf 8)).map (vl bs σ a))) := by rw [wld_at hl, cel_obj ha g6]
  refine va_put C.1 C.2.1 C.2.2.2.2.1 g2 ty0 g7 g8 C.2.2.2.1 C.2.2.2.2.2.2.1 h1 wld_D h2 a he g1 k g3 (C.2.2.2.2.1 _ g5) (fun _ q => q) g9 g10 rfl rfl (by simp; omega) hd (fun H1 locs1 hP hD hS => kk H1 locs1 ls ?_ hS h3)
  have hv : ∀ i j, (i ≠ a ∨ j ≠ k) → vl bs (sl σ v) i j = vl bs σ i j := by
    intro i j hij
    unfold vl
    by_cases q1 : kd (xk i) j = 1
    · rw [if_pos q1, if_pos q1]
    · rw [if_neg q1, if_neg q1]
      by_cases q2 : kd (xk i) j = 2
      · have := hko i j q2
        omega
      · rw [if_neg q2, if_neg q2]
        rfl
  rw [vl_set (σ' := sl σ v) (by omega) (by simp [vl, ha, hkd, sl]) (fun j hj => hv a j (Or.inr hj)), wld_set (σ' := sl σ v) (by rw [cel_obj ha g6]) (fun j hj => by
    unfold cel
    by_cases q : 9 < xk j
    · rw [if_pos q, if_pos q]
      rfl
    · rw [if_neg q, if_neg q]
      congr 2
      exact List.map_congr_left (fun x _ => hv j x (Or.inl hj)))] at hP
  exact hP
theorem y_iald (C : Cx D cA own cc nL ret p s m args meth c) {a n : Nat} {i v : Int32} (ha : xk a = n + 9) (hn : 0 < n) (hv : ald σ a n i = some v) (hd : decode cc pc = .ok (.iaload, 1)) (kk : Y D cA bs p l e R s m args below meth c nL ce sk Q σ (pc + 1) lv (.int v :: st)) : Y D cA bs p l e R s m args below meth c nL ce sk Q σ pc lv (.int i :: .ref (bs + a) :: st) := by
  intro H locs ls h1 h2 h3
  have hl : a < 56 := xk_lt (by omega)
  unfold ald at hv
  by_cases hi : i < 0 ∨ n ≤ i.toNatClampNeg
  · rw [if_pos hi] at hv; cases hv
  · rw [if_neg hi] at hv
    cases hv
    exact va_iald C.1 C.2.1 C.2.2.2.2.2.2.1 h1 a 0 (by rw [wld_at hl, cel_arr ha hn]) rfl hi hd (kk H locs ls h1 h2 h3)
theorem y_iast (C : Cx D cA own cc nL ret p s m args meth c) {a n : Nat} {i x : Int32} {σ' : St} (ha : xk a = n + 9) (hn : 0 < n) (hv : ast σ a n i x = some σ') (hd : decode cc pc = .ok (.iastore, 1)) (kk : Y D cA bs p l e R s m args below meth c nL ce sk Q σ' (pc + 1) lv st) : Y D cA bs p l e R s m args below meth c nL ce sk Q σ pc lv (.int x :: .int i :: .ref (bs + a) :: st) := by
  intro H locs ls h1 h2 h3
  have hl : a < 56 := xk_lt (by omega)
  unfold ast at hv
  by_cases hi : i < 0 ∨ n ≤ i.toNatClampNeg
  · rw [if_pos hi] at hv; cases hv
  · rw [if_neg hi] at hv
    cases hv
    refine va_iast C.1 C.2.1 C.2.2.2.2.2.2.1 h1 wld_D h2 a 0 (by rw [wld_at hl, cel_arr ha hn]) rfl hi hd (fun H1 locs1 hP hD hS => kk H1 locs1 ls ?_ hS h3)
    rw [wld_set (σ' := si σ a i.toNatClampNeg x) (by rw [cel_arr ha hn]; simp [si]) (fun j hj => cel_si_ne hj)] at hP
    exact hP
theorem y_copy (C : Cx D cA own cc nL ret p s m args meth c) {a0 a n index : Nat} {k : Int32} (ha0 : xk a0 = n + 9) (ha : xk a = n + 9) (hn : 0 < n) (hk : k = nI n) (hn2 : n < 2 ^ 31) (hw : Cond.methodLink own index arraycopyName ∈ gwt ∧ Cond.native arraycopyName ∈ gwt ∧ Cond.static arraycopyName ∈ gwt ∧ Cond.initialized "java/lang/System" ∈ gwt) (hfr : 1 ≤ R.frames) (hlo : (st.map fun v => v.category).sum + (nativeFrameWords "java/lang/System" "arraycopy" 5 + 11) ≤ R.locals) (hd : decode cc pc = .ok (.invokestatic index, 3)) (kk : Y D cA bs p l e R s m args below meth c nL ce sk Q (sc σ a (va_cpy (σ.1 a0) (σ.1 a) 0 0 n)) (pc + 3) lv st) : Y D cA bs p l e R s m args below meth c nL ce sk Q σ pc lv (.int k :: .int 0 :: .ref (bs + a) :: .int 0 :: .ref (bs + a0) :: st) := by
  intro H locs ls h1 h2 h3
  have hl : a < 56 := xk_lt (by omega)
  have hl0 : a0 < 56 := xk_lt (by omega)
  subst hk
  have hcl : (nI n).toNatClampNeg = n := nI_clamp hn2
  refine va_copyi C.1 C.2.1 (by rw [C.2.2.1]; exact h3.1.symm) C.2.2.2.1 (C.2.2.2.2.1 _ hw.1) (C.2.2.2.2.1 _ hw.2.1) (C.2.2.2.2.1 _ hw.2.2.1) (C.2.2.2.2.1 _ hw.2.2.2) C.2.2.2.2.2.2.1 h1 wld_D h2 a0 a 0 0 (by rw [wld_at hl0, cel_arr ha0 hn]) (by rw [wld_at hl, cel_arr ha hn]) rfl rfl rfl (by decide) (by decide) (nI_pos hn2) (by rw [hcl]; show 0 + n ≤ n; omega) (by rw [hcl]; show 0 + n ≤ n; omega) (fun i _ => rfl) hfr hlo hd (fun H1 locs1 hP hD hS => kk H1 locs1 ls ?_ hS h3)
  rw [hcl, wld_set (σ' := sc σ a (va_cpy (σ.1 a0) (σ.1 a) 0 0 n)) (by rw [cel_arr ha hn]; simp [sc]) (fun j hj => cel_sc_ne hj)] at hP
  exact hP
theorem y_run {r : Option Value} {σ' : St} {rest : List Value} {a : Array Value} (hr : ∀ (H : Heap) (locs : List Loc) (ls : Array Slot), va_P D vwCl (wld bs cA σ) H → va_S (fun q => bs ≤ q) s.heap H locs → lv_has ls nL lv → va_Run p l e R s m args below meth c H locs ce sk 0 0 (F0 m pc ls st) rest (QC D cA bs r σ' a) (fun q => bs ≤ q)) (kk : Y D cA bs p l e R s m args below meth c nL ce sk Q σ' (pc + 3) lv (r.toList ++ rest)) : Y D cA bs p l e R s m args below meth c nL ce sk Q σ pc lv st := by
  intro H locs ls h1 hS h3 T hT X
  obtain ⟨v, st₀, t, T', L, h0, X', hL, e1, e2, ⟨⟨hv, hP1, hK1⟩, hz, hk⟩, go⟩ := hr H locs ls h1 hS h3 T hT X
  cases hv
  rw [h0] at hz hk
  obtain ⟨t2, a1, b1⟩ := kk T'.heap (locs ++ L) ls (by rw [e1]; exact hP1) ⟨Nat.le_trans hS.1 (by rw [e1]; exact hz), fun q h1 h2 => by rw [e1, hk q (Nat.lt_of_lt_of_le h1 hS.1) h2]; exact hS.2.1 q h1 h2, fun q hq => by
      rcases List.mem_append.mp hq with h | h
      · exact hS.2.2 q h
      · exact hL q h⟩ h3 T' rfl X'
  exact ⟨t2, go t2 a1, b1⟩
theorem ct_blind {As : List Value} : FrameBlind (va_Pc As (fun U => va_P D vwCl (wld bs cA σ) U.heap ∧ va_K D vwCl [(cA, .int)] U ∧ va_Nw nwW U)) := fun a U g mk q => by
  obtain ⟨q0, qP, qK, qN⟩ := q
  exact ⟨q0, qP, va_K.moved (u := U) (U := U.calling g mk a) (Vm.Alike.refl U.vm) qK, va_Nw.same rfl rfl qN⟩
/-- the words of a call -/
def VW (own Cn : String) (index : Nat) (y : MethodName) (bytes : ByteArray) (maxL : Nat) (ret : Option FieldType) (n : Nat) : Prop := Cond.methodLink own index y ∈ gwt ∧ Cond.instanceMethod y ∈ gwt ∧ Cond.selects Cn y y ∈ gwt ∧ Cond.initialized y.cls ∈ gwt ∧ Cond.code y bytes maxL ret ∈ gwt ∧ y.cls ≠ "java/lang/invoke/MethodHandle" ∧ y.cls ≠ "java/lang/invoke/VarHandle" ∧ (parseMethodDescriptor y.desc).map (fun d => d.parameters.length) = some n
def SW (own : String) (index : Nat) (y : MethodName) (bytes : ByteArray) (maxL : Nat) (ret : Option FieldType) (n : Nat) : Prop := Cond.methodLink own index y ∈ gwt ∧ Cond.static y ∈ gwt ∧ Cond.initialized y.cls ∈ gwt ∧ Cond.code y bytes maxL ret ∈ gwt ∧ y.cls ≠ "java/lang/invoke/MethodHandle" ∧ y.cls ≠ "java/lang/invoke/VarHandle" ∧ (parseMethodDescriptor y.desc).map (fun d => d.parameters.length) = some n
def SN (own : String) (index : Nat) (y : MethodName) (host : String) (bytes : ByteArray) (maxL : Nat) (ret : Option FieldType) (n : Nat) : Prop := Cond.methodLinkNest own index y host = nwW ∧ Cond.static y ∈ gwt ∧ Cond.initialized y.cls ∈ gwt ∧ Cond.code y bytes maxL ret ∈ gwt ∧ y.cls ≠ "java/lang/invoke/MethodHandle" ∧ y.cls ≠ "java/lang/invoke/VarHandle" ∧ (parseMethodDescriptor y.desc).map (fun d => d.parameters.length) = some n
theorem y_callV (C : Cx D cA own cc nL ret p s m args meth c) {index ci a n maxL fr lo N : Nat} {Cn : String} {T : u_T} {y : MethodName} {bytes : ByteArray} {rt : Option FieldType} {As rest : List Value} {r : Option Value} {σ' : St} (hM : Ct l D cA bs y bytes maxL rt fr lo (.ref (bs + a) :: As) σ r σ') (hw : VW own Cn index y bytes maxL rt n) (hc : vwCl[ci]? = some (Cn, T, N)) (hci : ci < 9) (ha : xk a = ci) (hn : As.length = n) (hst : st = As.reverse ++ .ref (bs + a) :: rest) (hrest : (rest.map fun v => v.category).sum ≤ 8) (hR : fr + 1 ≤ R.frames ∧ 8 + (maxL + 11) + lo ≤ R.locals) (hce : ce ≤ R.cells ∧ sk ≤ R.slots) (hd : decode cc pc = .ok (.invokevirtual index, 3)) (kk : Y D cA bs p l e R s m args below meth c nL ce sk Q σ' (pc + 3) lv (r.toList ++ rest)) : Y D cA bs p l e R s m args below meth c nL ce sk Q σ pc lv st := by
  obtain ⟨hx, hb, hml, hown, hts, hlk, hK, -, hNw⟩ := C
  obtain ⟨w1, w2, w3, w4, w5, w6⟩ := hw
  have hl : a < 56 := xk_lt (by omega)
  refine y_run (r := r) (σ' := σ') (rest := rest) (a := (.ref (bs + a) :: As).toArray) (fun H locs ls h1 hS h3 => ?_) kk
  have he : (wld bs cA σ)[a]? = some (bs + a, .inr (ci, (List.range (nf ci)).map (vl bs σ a))) := by rw [wld_at hl, cel_obj ha hci]
  exact va_runV (As := As) (rest := rest) (C := Cn) ⟨hx, hb, hml, hown, hts⟩ hM ⟨callB_of n hts (good_cons w5) rfl rfl rfl (hts _ w4) (hts _ w1) w6 hR, hts _ w2, hts _ w3⟩ ⟨ct_blind, va_recv (q := (Cn, T, N)) hK h1 hc he, fun U hU hW => ⟨rfl, by rw [hU]; exact h1, va_K.moved hW.alike hK, va_Nw.warmM hW hNw⟩⟩ rfl hn h3.1 hst (lv_room hrest) hd hce
theorem y_callS (C : Cx D cA own cc nL ret p s m args meth c) {index n maxL fr lo : Nat} {y : MethodName} {bytes : ByteArray} {rt : Option FieldType} {As rest : List Value} {r : Option Value} {σ' : St} (hM : Ct l D cA bs y bytes maxL rt fr lo As σ r σ') (hw : SW own index y bytes maxL rt n) (hn : As.length = n) (hst : st = As.reverse ++ rest) (hrest : (rest.map fun v => v.category).sum ≤ 8) (hR : fr + 1 ≤ R.frames ∧ 8 + (maxL + 11) + lo ≤ R.locals) (hce : ce ≤ R.cells ∧ sk ≤ R.slots) (hd : decode cc pc = .ok (.invokestatic index, 3)) (kk : Y D cA bs p l e R s m args below meth c nL ce sk Q σ' (pc + 3) lv (r.toList ++ rest)) : Y D cA bs p l e R s m args below meth c nL ce sk Q σ pc lv st := by
  obtain ⟨hx, hb, hml, hown, hts, hlk, hK, -, hNw⟩ := C
  obtain ⟨w1, w2, w4, w5, w6⟩ := hw
  refine y_run (r := r) (σ' := σ') (rest := rest) (a := As.toArray) (fun H locs ls h1 hS h3 => ?_) kk
  exact va_runS (As := As) (rest := rest) ⟨hx, hb, hml, hown, hts⟩ hM ⟨callB_of n hts (good_cons w5) rfl rfl rfl (hts _ w4) (hts _ w1) w6 hR, hts _ w2⟩ ⟨ct_blind, fun U hU hW => ⟨rfl, by rw [hU]; exact h1, va_K.moved hW.alike hK, va_Nw.warmM hW hNw⟩⟩ rfl hn h3.1 hst (lv_room hrest) hd hce
theorem y_callSN (C : Cx D cA own cc nL ret p s m args meth c) {index n maxL fr lo : Nat} {host : String} {y : MethodName} {bytes : ByteArray} {rt : Option FieldType} {As rest : List Value} {r : Option Value} {σ' : St} (hM : Ct l D cA bs y bytes maxL rt fr lo As σ r σ') (hw : SN own index y host bytes maxL rt n) (hn : As.length = n) (hst : st = As.reverse ++ rest) (hrest : (rest.map fun v => v.category).sum ≤ 8) (hR : fr + 1 ≤ R.frames ∧ 8 + (maxL + 11) + lo ≤ R.locals) (hce : ce ≤ R.cells ∧ sk ≤ R.slots) (hd : decode cc pc = .ok (.invokestatic index, 3)) (kk : Y D cA bs p l e R s m args below meth c nL ce sk Q σ' (pc + 3) lv (r.toList ++ rest)) : Y D cA bs p l e R s m args below meth c nL ce sk Q σ pc lv st := by
  obtain ⟨hx, hb, hml, hown, hts, hlk, hK, -, hNw⟩ := C
  obtain ⟨w1, w2, w4, w5, w6⟩ := hw
  refine y_run (r := r) (σ' := σ') (rest := rest) (a := As.toArray) (fun H locs ls h1 hS h3 => ?_) kk
  exact va_runSN (As := As) (rest := rest) (host := host) ⟨hx, hb, hml, hown, hts⟩ hM ⟨va_cnB n hts (good_cons w5) rfl rfl rfl (by rw [w1]; exact hNw) (hts _ w4) w6 hR, hts _ w2, trivial⟩ ⟨ct_blind, fun U hU hW => ⟨rfl, by rw [hU]; exact h1, va_K.moved hW.alike hK, va_Nw.warmM hW hNw⟩⟩ rfl hn h3.1 hst (lv_room hrest) hd hce
end YR
section YE
variable {D : va_G} {cA : ClassId} {bs : Nat} {p : Program} {l : Launch} {e : Env} {R : Room} {s : State} {m : MethodId} {args : Array Value} {below : List Frame} {meth : Method} {c : Code} {nL : Nat} {σ : St} {pc : Nat} {lv : List (Nat × Value)} {own : String} {cc : ByteArray}
theorem y_iret (C : Cx D cA own cc nL (some .int) p s m args meth c) {x : Int32} (hd : decode cc pc = .ok (.ireturn, 1)) : Y D cA bs p l e R s m args below meth c nL 0 0 (QM D cA bs below args s (some (.int x)) σ) σ pc lv [.int x] := fun H locs ls h1 h2 h3 => W.iret C.1 C.2.1 C.2.2.2.2.2.2.2.1 (fun t ht hW => ⟨⟨rfl, by rw [ht]; exact h1, va_K.moved hW.alike C.2.2.2.2.2.2.1⟩, h2.F ht⟩) h2.2.2 hd C.2.2.2.2.2.1
theorem y_zret (C : Cx D cA own cc nL (some .boolean) p s m args meth c) {x : Int32} (hx : x = 0 ∨ x = 1) (hd : decode cc pc = .ok (.ireturn, 1)) : Y D cA bs p l e R s m args below meth c nL 0 0 (QM D cA bs below args s (some (.int x)) σ) σ pc lv [.int x] := fun H locs ls h1 h2 h3 => W.zret C.1 C.2.1 C.2.2.2.2.2.2.2.1 (by rcases hx with rfl | rfl <;> rfl) (fun t ht hW => ⟨⟨rfl, by rw [ht]; exact h1, va_K.moved hW.alike C.2.2.2.2.2.2.1⟩, h2.F ht⟩) h2.2.2 hd C.2.2.2.2.2.1
theorem y_lret (C : Cx D cA own cc nL (some .long) p s m args meth c) {x : Int64} (hd : decode cc pc = .ok (.lreturn, 1)) : Y D cA bs p l e R s m args below meth c nL 0 0 (QM D cA bs below args s (some (.long x)) σ) σ pc lv [.long x] := fun H locs ls h1 h2 h3 => W.lret C.1 C.2.1 C.2.2.2.2.2.2.2.1 (fun t ht hW => ⟨⟨rfl, by rw [ht]; exact h1, va_K.moved hW.alike C.2.2.2.2.2.2.1⟩, h2.F ht⟩) h2.2.2 hd C.2.2.2.2.2.1
theorem y_vret (C : Cx D cA own cc nL none p s m args meth c) (hd : decode cc pc = .ok (.return_, 1)) : Y D cA bs p l e R s m args below meth c nL 0 0 (QM D cA bs below args s none σ) σ pc lv [] := fun H locs ls h1 h2 h3 => W.vret C.1 C.2.1 C.2.2.2.2.2.2.2.1 (fun t ht hW => ⟨⟨rfl, by rw [ht]; exact h1, va_K.moved hW.alike C.2.2.2.2.2.2.1⟩, h2.F ht⟩) h2.2.2 hd C.2.2.2.2.2.1
theorem y_aret {n : String} (C : Cx D cA own cc nL (some (.object n)) p s m args meth c) {a : Nat} (hd : decode cc pc = .ok (.areturn, 1)) : Y D cA bs p l e R s m args below meth c nL 0 0 (QM D cA bs below args s (some (.ref a)) σ) σ pc lv [.ref a] := fun H locs ls h1 h2 h3 => W.aret C.1 C.2.1 C.2.2.2.2.2.2.2.1 (Or.inl ⟨_, rfl⟩) (Or.inr ⟨_, rfl⟩) (fun t ht hW => ⟨⟨rfl, by rw [ht]; exact h1, va_K.moved hW.alike C.2.2.2.2.2.2.1⟩, h2.F ht⟩) h2.2.2 hd C.2.2.2.2.2.1
end YE
end
