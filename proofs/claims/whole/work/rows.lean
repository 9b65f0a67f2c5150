section
-- ===== PART A: goes FIRST, ahead of the names: the tables' words, and 'selects' of the private methods out of them =====
/-- a private method of a class that the tables say can be made, by its rows of tables_1 -/
def lw_okq (q : MethodName × Nat) : Prop := (q.1.cls ≠ "java/lang/invoke/MethodHandle" ∧ q.1.cls ≠ "java/lang/invoke/VarHandle") ∧ Cond.instantiable q.1.cls q.2 ∈ tables_1 ∧ Cond.privateMethod q.1 ∈ tables_1 ∧ Cond.instanceMethod q.1 ∈ tables_1
theorem lw_p0 : lw_okq (⟨"NamesNoTouch$Reader", "readsClause", "()Z"⟩, 6) := ⟨⟨by decide +kernel, by decide +kernel⟩, List.mem_of_getElem? (i := 137) (by decide +kernel), List.mem_of_getElem? (i := 253) (by decide +kernel), List.mem_of_getElem? (i := 254) (by decide +kernel)⟩
theorem lw_p1 : lw_okq (⟨"NamesNoTouch$Reader", "next", "()I"⟩, 6) := ⟨⟨by decide +kernel, by decide +kernel⟩, List.mem_of_getElem? (i := 137) (by decide +kernel), List.mem_of_getElem? (i := 257) (by decide +kernel), List.mem_of_getElem? (i := 258) (by decide +kernel)⟩
theorem lw_p2 : lw_okq (⟨"NamesNoTouch$Reader", "readsMeasure", "(Z)Z"⟩, 6) := ⟨⟨by decide +kernel, by decide +kernel⟩, List.mem_of_getElem? (i := 137) (by decide +kernel), List.mem_of_getElem? (i := 266) (by decide +kernel), List.mem_of_getElem? (i := 267) (by decide +kernel)⟩
theorem lw_p3 : lw_okq (⟨"NamesNoTouch$Reader", "takesWord", "(Ljava/lang/String;)Z"⟩, 6) := ⟨⟨by decide +kernel, by decide +kernel⟩, List.mem_of_getElem? (i := 137) (by decide +kernel), List.mem_of_getElem? (i := 272) (by decide +kernel), List.mem_of_getElem? (i := 273) (by decide +kernel)⟩
theorem lw_p4 : lw_okq (⟨"NamesNoTouch$Reader", "takes", "(I)Z"⟩, 6) := ⟨⟨by decide +kernel, by decide +kernel⟩, List.mem_of_getElem? (i := 137) (by decide +kernel), List.mem_of_getElem? (i := 324) (by decide +kernel), List.mem_of_getElem? (i := 325) (by decide +kernel)⟩
theorem lw_p5 : lw_okq (⟨"NamesNoTouch$Reader", "takesNumber", "()Z"⟩, 6) := ⟨⟨by decide +kernel, by decide +kernel⟩, List.mem_of_getElem? (i := 137) (by decide +kernel), List.mem_of_getElem? (i := 328) (by decide +kernel), List.mem_of_getElem? (i := 329) (by decide +kernel)⟩
theorem lw_p6 : lw_okq (⟨"NamesNoTouch$Reader", "readsEither", "(I)Z"⟩, 6) := ⟨⟨by decide +kernel, by decide +kernel⟩, List.mem_of_getElem? (i := 137) (by decide +kernel), List.mem_of_getElem? (i := 338) (by decide +kernel), List.mem_of_getElem? (i := 339) (by decide +kernel)⟩
theorem lw_p7 : lw_okq (⟨"NamesNoTouch$Reader", "readsBoth", "(I)Z"⟩, 6) := ⟨⟨by decide +kernel, by decide +kernel⟩, List.mem_of_getElem? (i := 137) (by decide +kernel), List.mem_of_getElem? (i := 342) (by decide +kernel), List.mem_of_getElem? (i := 343) (by decide +kernel)⟩
theorem lw_p8 : lw_okq (⟨"NamesNoTouch$Reader", "readsOne", "(I)Z"⟩, 6) := ⟨⟨by decide +kernel, by decide +kernel⟩, List.mem_of_getElem? (i := 137) (by decide +kernel), List.mem_of_getElem? (i := 346) (by decide +kernel), List.mem_of_getElem? (i := 347) (by decide +kernel)⟩
theorem lw_p9 : lw_okq (⟨"NamesNoTouch$Reader", "readsTest", "()Z"⟩, 6) := ⟨⟨by decide +kernel, by decide +kernel⟩, List.mem_of_getElem? (i := 137) (by decide +kernel), List.mem_of_getElem? (i := 350) (by decide +kernel), List.mem_of_getElem? (i := 351) (by decide +kernel)⟩
theorem lw_p10 : lw_okq (⟨"NamesNoTouch$Reader", "takesOneOf", "(Ljava/lang/String;)I"⟩, 6) := ⟨⟨by decide +kernel, by decide +kernel⟩, List.mem_of_getElem? (i := 137) (by decide +kernel), List.mem_of_getElem? (i := 355) (by decide +kernel), List.mem_of_getElem? (i := 356) (by decide +kernel)⟩
theorem lw_p11 : lw_okq (⟨"NamesNoTouch", "named", "(IIIII)LNamesNoTouch$Name;"⟩, 6) := ⟨⟨by decide +kernel, by decide +kernel⟩, List.mem_of_getElem? (i := 29) (by decide +kernel), List.mem_of_getElem? (i := 413) (by decide +kernel), List.mem_of_getElem? (i := 414) (by decide +kernel)⟩
theorem lw_p12 : lw_okq (⟨"java/util/ArrayList", "add", "(Ljava/lang/Object;[Ljava/lang/Object;I)V"⟩, 3) := ⟨⟨by decide +kernel, by decide +kernel⟩, List.mem_of_getElem? (i := 62) (by decide +kernel), List.mem_of_getElem? (i := 555) (by decide +kernel), List.mem_of_getElem? (i := 556) (by decide +kernel)⟩
theorem lw_p13 : lw_okq (⟨"java/util/ArrayList", "grow", "()[Ljava/lang/Object;"⟩, 3) := ⟨⟨by decide +kernel, by decide +kernel⟩, List.mem_of_getElem? (i := 62) (by decide +kernel), List.mem_of_getElem? (i := 559) (by decide +kernel), List.mem_of_getElem? (i := 560) (by decide +kernel)⟩
theorem lw_p14 : lw_okq (⟨"java/util/ArrayList", "grow", "(I)[Ljava/lang/Object;"⟩, 3) := ⟨⟨by decide +kernel, by decide +kernel⟩, List.mem_of_getElem? (i := 62) (by decide +kernel), List.mem_of_getElem? (i := 563) (by decide +kernel), List.mem_of_getElem? (i := 564) (by decide +kernel)⟩
theorem lw_p15 : lw_okq (⟨"NamesNoTouch$Sheet", "isOverDot", "(LNamesNoTouch$Name;I)Z"⟩, 12) := ⟨⟨by decide +kernel, by decide +kernel⟩, List.mem_of_getElem? (i := 54) (by decide +kernel), List.mem_of_getElem? (i := 732) (by decide +kernel), List.mem_of_getElem? (i := 733) (by decide +kernel)⟩
def lw_privs_1 : List (MethodName × Nat) := [(⟨"NamesNoTouch$Reader", "readsClause", "()Z"⟩, 6), (⟨"NamesNoTouch$Reader", "next", "()I"⟩, 6), (⟨"NamesNoTouch$Reader", "readsMeasure", "(Z)Z"⟩, 6), (⟨"NamesNoTouch$Reader", "takesWord", "(Ljava/lang/String;)Z"⟩, 6), (⟨"NamesNoTouch$Reader", "takes", "(I)Z"⟩, 6), (⟨"NamesNoTouch$Reader", "takesNumber", "()Z"⟩, 6), (⟨"NamesNoTouch$Reader", "readsEither", "(I)Z"⟩, 6), (⟨"NamesNoTouch$Reader", "readsBoth", "(I)Z"⟩, 6), (⟨"NamesNoTouch$Reader", "readsOne", "(I)Z"⟩, 6), (⟨"NamesNoTouch$Reader", "readsTest", "()Z"⟩, 6), (⟨"NamesNoTouch$Reader", "takesOneOf", "(Ljava/lang/String;)I"⟩, 6), (⟨"NamesNoTouch", "named", "(IIIII)LNamesNoTouch$Name;"⟩, 6), (⟨"java/util/ArrayList", "add", "(Ljava/lang/Object;[Ljava/lang/Object;I)V"⟩, 3), (⟨"java/util/ArrayList", "grow", "()[Ljava/lang/Object;"⟩, 3), (⟨"java/util/ArrayList", "grow", "(I)[Ljava/lang/Object;"⟩, 3), (⟨"NamesNoTouch$Sheet", "isOverDot", "(LNamesNoTouch$Name;I)Z"⟩, 12)]
theorem lw_r1 : ∀ q ∈ lw_privs_1, lw_okq q := List.forall_mem_cons.mpr ⟨lw_p0, List.forall_mem_cons.mpr ⟨lw_p1, List.forall_mem_cons.mpr ⟨lw_p2, List.forall_mem_cons.mpr ⟨lw_p3, List.forall_mem_cons.mpr ⟨lw_p4, List.forall_mem_cons.mpr ⟨lw_p5, List.forall_mem_cons.mpr ⟨lw_p6, List.forall_mem_cons.mpr ⟨lw_p7, List.forall_mem_cons.mpr ⟨lw_p8, List.forall_mem_cons.mpr ⟨lw_p9, List.forall_mem_cons.mpr ⟨lw_p10, List.forall_mem_cons.mpr ⟨lw_p11, List.forall_mem_cons.mpr ⟨lw_p12, List.forall_mem_cons.mpr ⟨lw_p13, List.forall_mem_cons.mpr ⟨lw_p14, List.forall_mem_cons.mpr ⟨lw_p15, fun _ h => absurd h List.not_mem_nil⟩⟩⟩⟩⟩⟩⟩⟩⟩⟩⟩⟩⟩⟩⟩⟩
theorem lw_p16 : lw_okq (⟨"NamesNoTouch$Sheet", "isClashing", "(IILNamesNoTouch$Row;)Z"⟩, 12) := ⟨⟨by decide +kernel, by decide +kernel⟩, List.mem_of_getElem? (i := 54) (by decide +kernel), List.mem_of_getElem? (i := 757) (by decide +kernel), List.mem_of_getElem? (i := 758) (by decide +kernel)⟩
theorem lw_p17 : lw_okq (⟨"NamesNoTouch$Sheet", "taste", "(LNamesNoTouch$Name;I)I"⟩, 12) := ⟨⟨by decide +kernel, by decide +kernel⟩, List.mem_of_getElem? (i := 54) (by decide +kernel), List.mem_of_getElem? (i := 787) (by decide +kernel), List.mem_of_getElem? (i := 788) (by decide +kernel)⟩
theorem lw_p18 : lw_okq (⟨"NamesNoTouch", "put", "(II)I"⟩, 6) := ⟨⟨by decide +kernel, by decide +kernel⟩, List.mem_of_getElem? (i := 29) (by decide +kernel), List.mem_of_getElem? (i := 804) (by decide +kernel), List.mem_of_getElem? (i := 805) (by decide +kernel)⟩
theorem lw_p19 : lw_okq (⟨"NamesNoTouch$Search", "begin", "(I)V"⟩, 11) := ⟨⟨by decide +kernel, by decide +kernel⟩, List.mem_of_getElem? (i := 168) (by decide +kernel), List.mem_of_getElem? (i := 866) (by decide +kernel), List.mem_of_getElem? (i := 867) (by decide +kernel)⟩
theorem lw_p20 : lw_okq (⟨"NamesNoTouch$Search", "clashing", "(II)I"⟩, 11) := ⟨⟨by decide +kernel, by decide +kernel⟩, List.mem_of_getElem? (i := 168) (by decide +kernel), List.mem_of_getElem? (i := 874) (by decide +kernel), List.mem_of_getElem? (i := 875) (by decide +kernel)⟩
theorem lw_p21 : lw_okq (⟨"NamesNoTouch$Search", "value", "(I)V"⟩, 11) := ⟨⟨by decide +kernel, by decide +kernel⟩, List.mem_of_getElem? (i := 168) (by decide +kernel), List.mem_of_getElem? (i := 879) (by decide +kernel), List.mem_of_getElem? (i := 880) (by decide +kernel)⟩
theorem lw_p22 : lw_okq (⟨"NamesNoTouch$Search", "goWays", "()V"⟩, 11) := ⟨⟨by decide +kernel, by decide +kernel⟩, List.mem_of_getElem? (i := 168) (by decide +kernel), List.mem_of_getElem? (i := 885) (by decide +kernel), List.mem_of_getElem? (i := 886) (by decide +kernel)⟩
theorem lw_p23 : lw_okq (⟨"NamesNoTouch$Search", "hopes", "()I"⟩, 11) := ⟨⟨by decide +kernel, by decide +kernel⟩, List.mem_of_getElem? (i := 168) (by decide +kernel), List.mem_of_getElem? (i := 889) (by decide +kernel), List.mem_of_getElem? (i := 890) (by decide +kernel)⟩
theorem lw_p24 : lw_okq (⟨"NamesNoTouch$Search", "dearest", "(II)I"⟩, 11) := ⟨⟨by decide +kernel, by decide +kernel⟩, List.mem_of_getElem? (i := 168) (by decide +kernel), List.mem_of_getElem? (i := 893) (by decide +kernel), List.mem_of_getElem? (i := 894) (by decide +kernel)⟩
theorem lw_p25 : lw_okq (⟨"NamesNoTouch$Search", "isOpen", "(III)Z"⟩, 11) := ⟨⟨by decide +kernel, by decide +kernel⟩, List.mem_of_getElem? (i := 168) (by decide +kernel), List.mem_of_getElem? (i := 897) (by decide +kernel), List.mem_of_getElem? (i := 898) (by decide +kernel)⟩
theorem lw_p26 : lw_okq (⟨"NamesNoTouch$Search", "valueOf", "(II)I"⟩, 11) := ⟨⟨by decide +kernel, by decide +kernel⟩, List.mem_of_getElem? (i := 168) (by decide +kernel), List.mem_of_getElem? (i := 902) (by decide +kernel), List.mem_of_getElem? (i := 903) (by decide +kernel)⟩
theorem lw_p27 : lw_okq (⟨"NamesNoTouch$Search", "goOn", "(IIII)V"⟩, 11) := ⟨⟨by decide +kernel, by decide +kernel⟩, List.mem_of_getElem? (i := 168) (by decide +kernel), List.mem_of_getElem? (i := 907) (by decide +kernel), List.mem_of_getElem? (i := 908) (by decide +kernel)⟩
theorem lw_p28 : lw_okq (⟨"NamesNoTouch$Search", "find", "(I)V"⟩, 11) := ⟨⟨by decide +kernel, by decide +kernel⟩, List.mem_of_getElem? (i := 168) (by decide +kernel), List.mem_of_getElem? (i := 911) (by decide +kernel), List.mem_of_getElem? (i := 912) (by decide +kernel)⟩
theorem lw_p29 : lw_okq (⟨"NamesNoTouch$Search", "clashesOf", "(II)I"⟩, 11) := ⟨⟨by decide +kernel, by decide +kernel⟩, List.mem_of_getElem? (i := 168) (by decide +kernel), List.mem_of_getElem? (i := 916) (by decide +kernel), List.mem_of_getElem? (i := 917) (by decide +kernel)⟩
theorem lw_p30 : lw_okq (⟨"NamesNoTouch$Search", "setMoves", "(II)V"⟩, 11) := ⟨⟨by decide +kernel, by decide +kernel⟩, List.mem_of_getElem? (i := 168) (by decide +kernel), List.mem_of_getElem? (i := 960) (by decide +kernel), List.mem_of_getElem? (i := 961) (by decide +kernel)⟩
theorem lw_p31 : lw_okq (⟨"NamesNoTouch$Search", "lineUp", "(IIIII)V"⟩, 11) := ⟨⟨by decide +kernel, by decide +kernel⟩, List.mem_of_getElem? (i := 168) (by decide +kernel), List.mem_of_getElem? (i := 981) (by decide +kernel), List.mem_of_getElem? (i := 982) (by decide +kernel)⟩
def lw_privs_2 : List (MethodName × Nat) := [(⟨"NamesNoTouch$Sheet", "isClashing", "(IILNamesNoTouch$Row;)Z"⟩, 12), (⟨"NamesNoTouch$Sheet", "taste", "(LNamesNoTouch$Name;I)I"⟩, 12), (⟨"NamesNoTouch", "put", "(II)I"⟩, 6), (⟨"NamesNoTouch$Search", "begin", "(I)V"⟩, 11), (⟨"NamesNoTouch$Search", "clashing", "(II)I"⟩, 11), (⟨"NamesNoTouch$Search", "value", "(I)V"⟩, 11), (⟨"NamesNoTouch$Search", "goWays", "()V"⟩, 11), (⟨"NamesNoTouch$Search", "hopes", "()I"⟩, 11), (⟨"NamesNoTouch$Search", "dearest", "(II)I"⟩, 11), (⟨"NamesNoTouch$Search", "isOpen", "(III)Z"⟩, 11), (⟨"NamesNoTouch$Search", "valueOf", "(II)I"⟩, 11), (⟨"NamesNoTouch$Search", "goOn", "(IIII)V"⟩, 11), (⟨"NamesNoTouch$Search", "find", "(I)V"⟩, 11), (⟨"NamesNoTouch$Search", "clashesOf", "(II)I"⟩, 11), (⟨"NamesNoTouch$Search", "setMoves", "(II)V"⟩, 11), (⟨"NamesNoTouch$Search", "lineUp", "(IIIII)V"⟩, 11)]
theorem lw_r2 : ∀ q ∈ lw_privs_2, lw_okq q := List.forall_mem_cons.mpr ⟨lw_p16, List.forall_mem_cons.mpr ⟨lw_p17, List.forall_mem_cons.mpr ⟨lw_p18, List.forall_mem_cons.mpr ⟨lw_p19, List.forall_mem_cons.mpr ⟨lw_p20, List.forall_mem_cons.mpr ⟨lw_p21, List.forall_mem_cons.mpr ⟨lw_p22, List.forall_mem_cons.mpr ⟨lw_p23, List.forall_mem_cons.mpr ⟨lw_p24, List.forall_mem_cons.mpr ⟨lw_p25, List.forall_mem_cons.mpr ⟨lw_p26, List.forall_mem_cons.mpr ⟨lw_p27, List.forall_mem_cons.mpr ⟨lw_p28, List.forall_mem_cons.mpr ⟨lw_p29, List.forall_mem_cons.mpr ⟨lw_p30, List.forall_mem_cons.mpr ⟨lw_p31, fun _ h => absurd h List.not_mem_nil⟩⟩⟩⟩⟩⟩⟩⟩⟩⟩⟩⟩⟩⟩⟩⟩
theorem lw_p32 : lw_okq (⟨"NamesNoTouch", "written", "(LNamesNoTouch$Row;II)I"⟩, 6) := ⟨⟨by decide +kernel, by decide +kernel⟩, List.mem_of_getElem? (i := 29) (by decide +kernel), List.mem_of_getElem? (i := 1023) (by decide +kernel), List.mem_of_getElem? (i := 1024) (by decide +kernel)⟩
theorem lw_p33 : lw_okq (⟨"NamesNoTouchModel", "clauseHere", "()V"⟩, 28) := ⟨⟨by decide +kernel, by decide +kernel⟩, List.mem_of_getElem? (i := 1151) (by decide +kernel), List.mem_of_getElem? (i := 1253) (by decide +kernel), List.mem_of_getElem? (i := 1254) (by decide +kernel)⟩
theorem lw_p34 : lw_okq (⟨"NamesNoTouchModel", "here", "()I"⟩, 28) := ⟨⟨by decide +kernel, by decide +kernel⟩, List.mem_of_getElem? (i := 1151) (by decide +kernel), List.mem_of_getElem? (i := 1257) (by decide +kernel), List.mem_of_getElem? (i := 1258) (by decide +kernel)⟩
theorem lw_p35 : lw_okq (⟨"NamesNoTouchModel", "tellsHere", "(ILjava/lang/String;)V"⟩, 28) := ⟨⟨by decide +kernel, by decide +kernel⟩, List.mem_of_getElem? (i := 1151) (by decide +kernel), List.mem_of_getElem? (i := 1262) (by decide +kernel), List.mem_of_getElem? (i := 1263) (by decide +kernel)⟩
theorem lw_p36 : lw_okq (⟨"NamesNoTouchModel", "spells", "(Ljava/lang/String;)V"⟩, 28) := ⟨⟨by decide +kernel, by decide +kernel⟩, List.mem_of_getElem? (i := 1151) (by decide +kernel), List.mem_of_getElem? (i := 1266) (by decide +kernel), List.mem_of_getElem? (i := 1267) (by decide +kernel)⟩
theorem lw_p37 : lw_okq (⟨"NamesNoTouchModel", "must", "(I)V"⟩, 28) := ⟨⟨by decide +kernel, by decide +kernel⟩, List.mem_of_getElem? (i := 1151) (by decide +kernel), List.mem_of_getElem? (i := 1272) (by decide +kernel), List.mem_of_getElem? (i := 1273) (by decide +kernel)⟩
theorem lw_p38 : lw_okq (⟨"NamesNoTouchModel", "figures", "()I"⟩, 28) := ⟨⟨by decide +kernel, by decide +kernel⟩, List.mem_of_getElem? (i := 1151) (by decide +kernel), List.mem_of_getElem? (i := 1276) (by decide +kernel), List.mem_of_getElem? (i := 1277) (by decide +kernel)⟩
theorem lw_p39 : lw_okq (⟨"NamesNoTouchModel", "much", "(ILjava/lang/String;)V"⟩, 28) := ⟨⟨by decide +kernel, by decide +kernel⟩, List.mem_of_getElem? (i := 1151) (by decide +kernel), List.mem_of_getElem? (i := 1282) (by decide +kernel), List.mem_of_getElem? (i := 1283) (by decide +kernel)⟩
theorem lw_p40 : lw_okq (⟨"NamesNoTouchModel", "some", "()V"⟩, 28) := ⟨⟨by decide +kernel, by decide +kernel⟩, List.mem_of_getElem? (i := 1151) (by decide +kernel), List.mem_of_getElem? (i := 1286) (by decide +kernel), List.mem_of_getElem? (i := 1287) (by decide +kernel)⟩
theorem lw_p41 : lw_okq (⟨"NamesNoTouchModel", "every", "()V"⟩, 28) := ⟨⟨by decide +kernel, by decide +kernel⟩, List.mem_of_getElem? (i := 1151) (by decide +kernel), List.mem_of_getElem? (i := 1290) (by decide +kernel), List.mem_of_getElem? (i := 1291) (by decide +kernel)⟩
theorem lw_p42 : lw_okq (⟨"NamesNoTouchModel", "factor", "()V"⟩, 28) := ⟨⟨by decide +kernel, by decide +kernel⟩, List.mem_of_getElem? (i := 1151) (by decide +kernel), List.mem_of_getElem? (i := 1294) (by decide +kernel), List.mem_of_getElem? (i := 1295) (by decide +kernel)⟩
theorem lw_p43 : lw_okq (⟨"NamesNoTouchModel", "emits", "(I)V"⟩, 28) := ⟨⟨by decide +kernel, by decide +kernel⟩, List.mem_of_getElem? (i := 1151) (by decide +kernel), List.mem_of_getElem? (i := 1298) (by decide +kernel), List.mem_of_getElem? (i := 1299) (by decide +kernel)⟩
theorem lw_p44 : lw_okq (⟨"NamesNoTouchModel", "among", "(Ljava/lang/String;)I"⟩, 28) := ⟨⟨by decide +kernel, by decide +kernel⟩, List.mem_of_getElem? (i := 1151) (by decide +kernel), List.mem_of_getElem? (i := 1303) (by decide +kernel), List.mem_of_getElem? (i := 1304) (by decide +kernel)⟩
theorem lw_p45 : lw_okq (⟨"NamesNoTouchModel", "isDotAt", "(II)Z"⟩, 28) := ⟨⟨by decide +kernel, by decide +kernel⟩, List.mem_of_getElem? (i := 1151) (by decide +kernel), List.mem_of_getElem? (i := 1313) (by decide +kernel), List.mem_of_getElem? (i := 1314) (by decide +kernel)⟩
theorem lw_p46 : lw_okq (⟨"NamesNoTouchModel", "isName", "(I)Z"⟩, 28) := ⟨⟨by decide +kernel, by decide +kernel⟩, List.mem_of_getElem? (i := 1151) (by decide +kernel), List.mem_of_getElem? (i := 1321) (by decide +kernel), List.mem_of_getElem? (i := 1322) (by decide +kernel)⟩
theorem lw_p47 : lw_okq (⟨"NamesNoTouchModel", "lengthOf", "(I)I"⟩, 28) := ⟨⟨by decide +kernel, by decide +kernel⟩, List.mem_of_getElem? (i := 1151) (by decide +kernel), List.mem_of_getElem? (i := 1325) (by decide +kernel), List.mem_of_getElem? (i := 1326) (by decide +kernel)⟩
def lw_privs_3 : List (MethodName × Nat) := [(⟨"NamesNoTouch", "written", "(LNamesNoTouch$Row;II)I"⟩, 6), (⟨"NamesNoTouchModel", "clauseHere", "()V"⟩, 28), (⟨"NamesNoTouchModel", "here", "()I"⟩, 28), (⟨"NamesNoTouchModel", "tellsHere", "(ILjava/lang/String;)V"⟩, 28), (⟨"NamesNoTouchModel", "spells", "(Ljava/lang/String;)V"⟩, 28), (⟨"NamesNoTouchModel", "must", "(I)V"⟩, 28), (⟨"NamesNoTouchModel", "figures", "()I"⟩, 28), (⟨"NamesNoTouchModel", "much", "(ILjava/lang/String;)V"⟩, 28), (⟨"NamesNoTouchModel", "some", "()V"⟩, 28), (⟨"NamesNoTouchModel", "every", "()V"⟩, 28), (⟨"NamesNoTouchModel", "factor", "()V"⟩, 28), (⟨"NamesNoTouchModel", "emits", "(I)V"⟩, 28), (⟨"NamesNoTouchModel", "among", "(Ljava/lang/String;)I"⟩, 28), (⟨"NamesNoTouchModel", "isDotAt", "(II)Z"⟩, 28), (⟨"NamesNoTouchModel", "isName", "(I)Z"⟩, 28), (⟨"NamesNoTouchModel", "lengthOf", "(I)I"⟩, 28)]
theorem lw_r3 : ∀ q ∈ lw_privs_3, lw_okq q := List.forall_mem_cons.mpr ⟨lw_p32, List.forall_mem_cons.mpr ⟨lw_p33, List.forall_mem_cons.mpr ⟨lw_p34, List.forall_mem_cons.mpr ⟨lw_p35, List.forall_mem_cons.mpr ⟨lw_p36, List.forall_mem_cons.mpr ⟨lw_p37, List.forall_mem_cons.mpr ⟨lw_p38, List.forall_mem_cons.mpr ⟨lw_p39, List.forall_mem_cons.mpr ⟨lw_p40, List.forall_mem_cons.mpr ⟨lw_p41, List.forall_mem_cons.mpr ⟨lw_p42, List.forall_mem_cons.mpr ⟨lw_p43, List.forall_mem_cons.mpr ⟨lw_p44, List.forall_mem_cons.mpr ⟨lw_p45, List.forall_mem_cons.mpr ⟨lw_p46, List.forall_mem_cons.mpr ⟨lw_p47, fun _ h => absurd h List.not_mem_nil⟩⟩⟩⟩⟩⟩⟩⟩⟩⟩⟩⟩⟩⟩⟩⟩
theorem lw_p48 : lw_okq (⟨"NamesNoTouchModel", "placesOf", "(II)I"⟩, 28) := ⟨⟨by decide +kernel, by decide +kernel⟩, List.mem_of_getElem? (i := 1151) (by decide +kernel), List.mem_of_getElem? (i := 1335) (by decide +kernel), List.mem_of_getElem? (i := 1336) (by decide +kernel)⟩
theorem lw_p49 : lw_okq (⟨"NamesNoTouchModel", "may", "(II)Z"⟩, 28) := ⟨⟨by decide +kernel, by decide +kernel⟩, List.mem_of_getElem? (i := 1151) (by decide +kernel), List.mem_of_getElem? (i := 1339) (by decide +kernel), List.mem_of_getElem? (i := 1340) (by decide +kernel)⟩
theorem lw_p50 : lw_okq (⟨"NamesNoTouchModel", "wideNow", "()I"⟩, 28) := ⟨⟨by decide +kernel, by decide +kernel⟩, List.mem_of_getElem? (i := 1151) (by decide +kernel), List.mem_of_getElem? (i := 1343) (by decide +kernel), List.mem_of_getElem? (i := 1344) (by decide +kernel)⟩
theorem lw_p51 : lw_okq (⟨"NamesNoTouchModel", "tellsOf", "(II)I"⟩, 28) := ⟨⟨by decide +kernel, by decide +kernel⟩, List.mem_of_getElem? (i := 1151) (by decide +kernel), List.mem_of_getElem? (i := 1347) (by decide +kernel), List.mem_of_getElem? (i := 1348) (by decide +kernel)⟩
theorem lw_p52 : lw_okq (⟨"NamesNoTouchModel", "fits", "(III)Z"⟩, 28) := ⟨⟨by decide +kernel, by decide +kernel⟩, List.mem_of_getElem? (i := 1151) (by decide +kernel), List.mem_of_getElem? (i := 1351) (by decide +kernel), List.mem_of_getElem? (i := 1352) (by decide +kernel)⟩
theorem lw_p53 : lw_okq (⟨"NamesNoTouchModel", "firstAt", "(II)I"⟩, 28) := ⟨⟨by decide +kernel, by decide +kernel⟩, List.mem_of_getElem? (i := 1151) (by decide +kernel), List.mem_of_getElem? (i := 1355) (by decide +kernel), List.mem_of_getElem? (i := 1356) (by decide +kernel)⟩
theorem lw_p54 : lw_okq (⟨"NamesNoTouchModel", "rowAt", "(II)I"⟩, 28) := ⟨⟨by decide +kernel, by decide +kernel⟩, List.mem_of_getElem? (i := 1151) (by decide +kernel), List.mem_of_getElem? (i := 1359) (by decide +kernel), List.mem_of_getElem? (i := 1360) (by decide +kernel)⟩
theorem lw_p55 : lw_okq (⟨"NamesNoTouchModel", "isAt", "(IIII)Z"⟩, 28) := ⟨⟨by decide +kernel, by decide +kernel⟩, List.mem_of_getElem? (i := 1151) (by decide +kernel), List.mem_of_getElem? (i := 1363) (by decide +kernel), List.mem_of_getElem? (i := 1364) (by decide +kernel)⟩
theorem lw_p56 : lw_okq (⟨"NamesNoTouchModel", "isFree", "(II)Z"⟩, 28) := ⟨⟨by decide +kernel, by decide +kernel⟩, List.mem_of_getElem? (i := 1151) (by decide +kernel), List.mem_of_getElem? (i := 1367) (by decide +kernel), List.mem_of_getElem? (i := 1368) (by decide +kernel)⟩
theorem lw_p57 : lw_okq (⟨"NamesNoTouchModel", "bothAt", "(IIII)I"⟩, 28) := ⟨⟨by decide +kernel, by decide +kernel⟩, List.mem_of_getElem? (i := 1151) (by decide +kernel), List.mem_of_getElem? (i := 1371) (by decide +kernel), List.mem_of_getElem? (i := 1372) (by decide +kernel)⟩
theorem lw_p58 : lw_okq (⟨"NamesNoTouchModel", "goodOf", "(II)I"⟩, 28) := ⟨⟨by decide +kernel, by decide +kernel⟩, List.mem_of_getElem? (i := 1151) (by decide +kernel), List.mem_of_getElem? (i := 1386) (by decide +kernel), List.mem_of_getElem? (i := 1387) (by decide +kernel)⟩
theorem lw_p59 : lw_okq (⟨"NamesNoTouchModel", "riverNow", "()I"⟩, 28) := ⟨⟨by decide +kernel, by decide +kernel⟩, List.mem_of_getElem? (i := 1151) (by decide +kernel), List.mem_of_getElem? (i := 1390) (by decide +kernel), List.mem_of_getElem? (i := 1391) (by decide +kernel)⟩
theorem lw_p60 : lw_okq (⟨"NamesNoTouchModel", "looks", "(II)I"⟩, 28) := ⟨⟨by decide +kernel, by decide +kernel⟩, List.mem_of_getElem? (i := 1151) (by decide +kernel), List.mem_of_getElem? (i := 1394) (by decide +kernel), List.mem_of_getElem? (i := 1395) (by decide +kernel)⟩
theorem lw_p61 : lw_okq (⟨"NamesNoTouchModel", "isMistaken", "(I)Z"⟩, 28) := ⟨⟨by decide +kernel, by decide +kernel⟩, List.mem_of_getElem? (i := 1151) (by decide +kernel), List.mem_of_getElem? (i := 1410) (by decide +kernel), List.mem_of_getElem? (i := 1411) (by decide +kernel)⟩
theorem lw_p62 : lw_okq (⟨"NamesNoTouchModel", "farFrom", "(II)I"⟩, 28) := ⟨⟨by decide +kernel, by decide +kernel⟩, List.mem_of_getElem? (i := 1151) (by decide +kernel), List.mem_of_getElem? (i := 1414) (by decide +kernel), List.mem_of_getElem? (i := 1415) (by decide +kernel)⟩
theorem lw_p63 : lw_okq (⟨"NamesNoTouchModel", "manyLaid", "()I"⟩, 28) := ⟨⟨by decide +kernel, by decide +kernel⟩, List.mem_of_getElem? (i := 1151) (by decide +kernel), List.mem_of_getElem? (i := 1421) (by decide +kernel), List.mem_of_getElem? (i := 1422) (by decide +kernel)⟩
def lw_privs_4 : List (MethodName × Nat) := [(⟨"NamesNoTouchModel", "placesOf", "(II)I"⟩, 28), (⟨"NamesNoTouchModel", "may", "(II)Z"⟩, 28), (⟨"NamesNoTouchModel", "wideNow", "()I"⟩, 28), (⟨"NamesNoTouchModel", "tellsOf", "(II)I"⟩, 28), (⟨"NamesNoTouchModel", "fits", "(III)Z"⟩, 28), (⟨"NamesNoTouchModel", "firstAt", "(II)I"⟩, 28), (⟨"NamesNoTouchModel", "rowAt", "(II)I"⟩, 28), (⟨"NamesNoTouchModel", "isAt", "(IIII)Z"⟩, 28), (⟨"NamesNoTouchModel", "isFree", "(II)Z"⟩, 28), (⟨"NamesNoTouchModel", "bothAt", "(IIII)I"⟩, 28), (⟨"NamesNoTouchModel", "goodOf", "(II)I"⟩, 28), (⟨"NamesNoTouchModel", "riverNow", "()I"⟩, 28), (⟨"NamesNoTouchModel", "looks", "(II)I"⟩, 28), (⟨"NamesNoTouchModel", "isMistaken", "(I)Z"⟩, 28), (⟨"NamesNoTouchModel", "farFrom", "(II)I"⟩, 28), (⟨"NamesNoTouchModel", "manyLaid", "()I"⟩, 28)]
theorem lw_r4 : ∀ q ∈ lw_privs_4, lw_okq q := List.forall_mem_cons.mpr ⟨lw_p48, List.forall_mem_cons.mpr ⟨lw_p49, List.forall_mem_cons.mpr ⟨lw_p50, List.forall_mem_cons.mpr ⟨lw_p51, List.forall_mem_cons.mpr ⟨lw_p52, List.forall_mem_cons.mpr ⟨lw_p53, List.forall_mem_cons.mpr ⟨lw_p54, List.forall_mem_cons.mpr ⟨lw_p55, List.forall_mem_cons.mpr ⟨lw_p56, List.forall_mem_cons.mpr ⟨lw_p57, List.forall_mem_cons.mpr ⟨lw_p58, List.forall_mem_cons.mpr ⟨lw_p59, List.forall_mem_cons.mpr ⟨lw_p60, List.forall_mem_cons.mpr ⟨lw_p61, List.forall_mem_cons.mpr ⟨lw_p62, List.forall_mem_cons.mpr ⟨lw_p63, fun _ h => absurd h List.not_mem_nil⟩⟩⟩⟩⟩⟩⟩⟩⟩⟩⟩⟩⟩⟩⟩⟩
theorem lw_p64 : lw_okq (⟨"NamesNoTouchModel", "scoreNow", "()I"⟩, 28) := ⟨⟨by decide +kernel, by decide +kernel⟩, List.mem_of_getElem? (i := 1151) (by decide +kernel), List.mem_of_getElem? (i := 1425) (by decide +kernel), List.mem_of_getElem? (i := 1426) (by decide +kernel)⟩
theorem lw_p65 : lw_okq (⟨"NamesNoTouchModel", "looksForWay", "(Z)V"⟩, 28) := ⟨⟨by decide +kernel, by decide +kernel⟩, List.mem_of_getElem? (i := 1151) (by decide +kernel), List.mem_of_getElem? (i := 1441) (by decide +kernel), List.mem_of_getElem? (i := 1442) (by decide +kernel)⟩
theorem lw_p66 : lw_okq (⟨"NamesNoTouchModel", "looksForPairs", "()V"⟩, 28) := ⟨⟨by decide +kernel, by decide +kernel⟩, List.mem_of_getElem? (i := 1151) (by decide +kernel), List.mem_of_getElem? (i := 1445) (by decide +kernel), List.mem_of_getElem? (i := 1446) (by decide +kernel)⟩
theorem lw_p67 : lw_okq (⟨"NamesNoTouchModel", "looksForFits", "(I)V"⟩, 28) := ⟨⟨by decide +kernel, by decide +kernel⟩, List.mem_of_getElem? (i := 1151) (by decide +kernel), List.mem_of_getElem? (i := 1449) (by decide +kernel), List.mem_of_getElem? (i := 1450) (by decide +kernel)⟩
theorem lw_p68 : lw_okq (⟨"NamesNoTouchModel", "looksForGoods", "()V"⟩, 28) := ⟨⟨by decide +kernel, by decide +kernel⟩, List.mem_of_getElem? (i := 1151) (by decide +kernel), List.mem_of_getElem? (i := 1453) (by decide +kernel), List.mem_of_getElem? (i := 1454) (by decide +kernel)⟩
theorem lw_p69 : lw_okq (⟨"NamesNoTouchModel", "looksForClashes", "()V"⟩, 28) := ⟨⟨by decide +kernel, by decide +kernel⟩, List.mem_of_getElem? (i := 1151) (by decide +kernel), List.mem_of_getElem? (i := 1457) (by decide +kernel), List.mem_of_getElem? (i := 1458) (by decide +kernel)⟩
theorem lw_p70 : lw_okq (⟨"NamesNoTouchModel", "waysFrom", "(IIII)V"⟩, 28) := ⟨⟨by decide +kernel, by decide +kernel⟩, List.mem_of_getElem? (i := 1151) (by decide +kernel), List.mem_of_getElem? (i := 1462) (by decide +kernel), List.mem_of_getElem? (i := 1463) (by decide +kernel)⟩
theorem lw_p71 : lw_okq (⟨"NamesNoTouchModel", "keepsWay", "(II)V"⟩, 28) := ⟨⟨by decide +kernel, by decide +kernel⟩, List.mem_of_getElem? (i := 1151) (by decide +kernel), List.mem_of_getElem? (i := 1466) (by decide +kernel), List.mem_of_getElem? (i := 1467) (by decide +kernel)⟩
theorem lw_p72 : lw_okq (⟨"NamesNoTouchModel", "allFrom", "(III)Z"⟩, 28) := ⟨⟨by decide +kernel, by decide +kernel⟩, List.mem_of_getElem? (i := 1151) (by decide +kernel), List.mem_of_getElem? (i := 1478) (by decide +kernel), List.mem_of_getElem? (i := 1479) (by decide +kernel)⟩
theorem lw_p73 : lw_okq (⟨"NamesNoTouchModel", "movesFrom", "(IIII)V"⟩, 28) := ⟨⟨by decide +kernel, by decide +kernel⟩, List.mem_of_getElem? (i := 1151) (by decide +kernel), List.mem_of_getElem? (i := 1490) (by decide +kernel), List.mem_of_getElem? (i := 1491) (by decide +kernel)⟩
theorem lw_p74 : lw_okq (⟨"NamesNoTouchModel", "takes", "(II)I"⟩, 28) := ⟨⟨by decide +kernel, by decide +kernel⟩, List.mem_of_getElem? (i := 1151) (by decide +kernel), List.mem_of_getElem? (i := 1498) (by decide +kernel), List.mem_of_getElem? (i := 1499) (by decide +kernel)⟩
theorem lw_p75 : lw_okq (⟨"NamesNoTouchModel", "ordersFrom", "(IIIII)V"⟩, 28) := ⟨⟨by decide +kernel, by decide +kernel⟩, List.mem_of_getElem? (i := 1151) (by decide +kernel), List.mem_of_getElem? (i := 1506) (by decide +kernel), List.mem_of_getElem? (i := 1507) (by decide +kernel)⟩
theorem lw_p76 : lw_okq (⟨"NamesNoTouchModel", "keepsLine", "(II)V"⟩, 28) := ⟨⟨by decide +kernel, by decide +kernel⟩, List.mem_of_getElem? (i := 1151) (by decide +kernel), List.mem_of_getElem? (i := 1510) (by decide +kernel), List.mem_of_getElem? (i := 1511) (by decide +kernel)⟩
theorem lw_p77 : lw_okq (⟨"NamesNoTouchModel", "areAsSeen", "()Z"⟩, 28) := ⟨⟨by decide +kernel, by decide +kernel⟩, List.mem_of_getElem? (i := 1151) (by decide +kernel), List.mem_of_getElem? (i := 1526) (by decide +kernel), List.mem_of_getElem? (i := 1527) (by decide +kernel)⟩
theorem lw_p78 : lw_okq (⟨"NamesNoTouchModel", "liesActs", "(I)I"⟩, 28) := ⟨⟨by decide +kernel, by decide +kernel⟩, List.mem_of_getElem? (i := 1151) (by decide +kernel), List.mem_of_getElem? (i := 1567) (by decide +kernel), List.mem_of_getElem? (i := 1568) (by decide +kernel)⟩
theorem lw_p79 : lw_okq (⟨"NamesNoTouchModel", "ranBody", "(I)V"⟩, 28) := ⟨⟨by decide +kernel, by decide +kernel⟩, List.mem_of_getElem? (i := 1151) (by decide +kernel), List.mem_of_getElem? (i := 1574) (by decide +kernel), List.mem_of_getElem? (i := 1575) (by decide +kernel)⟩
def lw_privs_5 : List (MethodName × Nat) := [(⟨"NamesNoTouchModel", "scoreNow", "()I"⟩, 28), (⟨"NamesNoTouchModel", "looksForWay", "(Z)V"⟩, 28), (⟨"NamesNoTouchModel", "looksForPairs", "()V"⟩, 28), (⟨"NamesNoTouchModel", "looksForFits", "(I)V"⟩, 28), (⟨"NamesNoTouchModel", "looksForGoods", "()V"⟩, 28), (⟨"NamesNoTouchModel", "looksForClashes", "()V"⟩, 28), (⟨"NamesNoTouchModel", "waysFrom", "(IIII)V"⟩, 28), (⟨"NamesNoTouchModel", "keepsWay", "(II)V"⟩, 28), (⟨"NamesNoTouchModel", "allFrom", "(III)Z"⟩, 28), (⟨"NamesNoTouchModel", "movesFrom", "(IIII)V"⟩, 28), (⟨"NamesNoTouchModel", "takes", "(II)I"⟩, 28), (⟨"NamesNoTouchModel", "ordersFrom", "(IIIII)V"⟩, 28), (⟨"NamesNoTouchModel", "keepsLine", "(II)V"⟩, 28), (⟨"NamesNoTouchModel", "areAsSeen", "()Z"⟩, 28), (⟨"NamesNoTouchModel", "liesActs", "(I)I"⟩, 28), (⟨"NamesNoTouchModel", "ranBody", "(I)V"⟩, 28)]
theorem lw_r5 : ∀ q ∈ lw_privs_5, lw_okq q := List.forall_mem_cons.mpr ⟨lw_p64, List.forall_mem_cons.mpr ⟨lw_p65, List.forall_mem_cons.mpr ⟨lw_p66, List.forall_mem_cons.mpr ⟨lw_p67, List.forall_mem_cons.mpr ⟨lw_p68, List.forall_mem_cons.mpr ⟨lw_p69, List.forall_mem_cons.mpr ⟨lw_p70, List.forall_mem_cons.mpr ⟨lw_p71, List.forall_mem_cons.mpr ⟨lw_p72, List.forall_mem_cons.mpr ⟨lw_p73, List.forall_mem_cons.mpr ⟨lw_p74, List.forall_mem_cons.mpr ⟨lw_p75, List.forall_mem_cons.mpr ⟨lw_p76, List.forall_mem_cons.mpr ⟨lw_p77, List.forall_mem_cons.mpr ⟨lw_p78, List.forall_mem_cons.mpr ⟨lw_p79, fun _ h => absurd h List.not_mem_nil⟩⟩⟩⟩⟩⟩⟩⟩⟩⟩⟩⟩⟩⟩⟩⟩
theorem lw_p80 : lw_okq (⟨"NamesNoTouchModel", "plainLies", "(I)I"⟩, 28) := ⟨⟨by decide +kernel, by decide +kernel⟩, List.mem_of_getElem? (i := 1151) (by decide +kernel), List.mem_of_getElem? (i := 1578) (by decide +kernel), List.mem_of_getElem? (i := 1579) (by decide +kernel)⟩
theorem lw_p81 : lw_okq (⟨"NamesNoTouchModel", "readsActs", "(I)I"⟩, 28) := ⟨⟨by decide +kernel, by decide +kernel⟩, List.mem_of_getElem? (i := 1151) (by decide +kernel), List.mem_of_getElem? (i := 1582) (by decide +kernel), List.mem_of_getElem? (i := 1583) (by decide +kernel)⟩
theorem lw_p82 : lw_okq (⟨"NamesNoTouchModel", "plainReads", "(I)I"⟩, 28) := ⟨⟨by decide +kernel, by decide +kernel⟩, List.mem_of_getElem? (i := 1151) (by decide +kernel), List.mem_of_getElem? (i := 1586) (by decide +kernel), List.mem_of_getElem? (i := 1587) (by decide +kernel)⟩
theorem lw_p83 : lw_okq (⟨"NamesNoTouchModel", "tellsActs", "(I)I"⟩, 28) := ⟨⟨by decide +kernel, by decide +kernel⟩, List.mem_of_getElem? (i := 1151) (by decide +kernel), List.mem_of_getElem? (i := 1590) (by decide +kernel), List.mem_of_getElem? (i := 1591) (by decide +kernel)⟩
theorem lw_p84 : lw_okq (⟨"NamesNoTouchModel", "plainTelling", "(I)I"⟩, 28) := ⟨⟨by decide +kernel, by decide +kernel⟩, List.mem_of_getElem? (i := 1151) (by decide +kernel), List.mem_of_getElem? (i := 1594) (by decide +kernel), List.mem_of_getElem? (i := 1595) (by decide +kernel)⟩
def lw_privs_6 : List (MethodName × Nat) := [(⟨"NamesNoTouchModel", "plainLies", "(I)I"⟩, 28), (⟨"NamesNoTouchModel", "readsActs", "(I)I"⟩, 28), (⟨"NamesNoTouchModel", "plainReads", "(I)I"⟩, 28), (⟨"NamesNoTouchModel", "tellsActs", "(I)I"⟩, 28), (⟨"NamesNoTouchModel", "plainTelling", "(I)I"⟩, 28)]
theorem lw_r6 : ∀ q ∈ lw_privs_6, lw_okq q := List.forall_mem_cons.mpr ⟨lw_p80, List.forall_mem_cons.mpr ⟨lw_p81, List.forall_mem_cons.mpr ⟨lw_p82, List.forall_mem_cons.mpr ⟨lw_p83, List.forall_mem_cons.mpr ⟨lw_p84, fun _ h => absurd h List.not_mem_nil⟩⟩⟩⟩⟩
def lw_privs : List (MethodName × Nat) := lw_privs_1 ++ (lw_privs_2 ++ (lw_privs_3 ++ (lw_privs_4 ++ (lw_privs_5 ++ (lw_privs_6)))))
def lw_tbl : List Cond := k2_sels lw_privs ++ tables_1
theorem lw_privs_ok : ∀ q ∈ lw_privs, lw_okq q := by
  show ∀ q ∈ lw_privs_1 ++ (lw_privs_2 ++ (lw_privs_3 ++ (lw_privs_4 ++ (lw_privs_5 ++ (lw_privs_6))))), lw_okq q
  exact List.forall_mem_append.mpr ⟨lw_r1, List.forall_mem_append.mpr ⟨lw_r2, List.forall_mem_append.mpr ⟨lw_r3, List.forall_mem_append.mpr ⟨lw_r4, List.forall_mem_append.mpr ⟨lw_r5, lw_r6⟩⟩⟩⟩⟩
-- ===== end of PART A; then your names; then what follows =====
end
section
def RX0 : String := "NamesNoTouch$City"
def TX0 : u_T := fun k => match k with
  | 0 => ("NamesNoTouch$Name", "trail", "LNamesNoTouch$Row;", true)
  | 1 => ("NamesNoTouch$Name", "number", "I", true)
  | 2 => ("NamesNoTouch$Name", "v", "I", true)
  | 3 => ("NamesNoTouch$Name", "letters", "I", true)
  | 4 => ("NamesNoTouch$Name", "column", "I", true)
  | _ => ("NamesNoTouch$Name", "line", "I", true)
def tyX0 : Nat → FieldType := fun k => match k with
  | 0 => .object "NamesNoTouch$Row"
  | 1 => .int
  | 2 => .int
  | 3 => .int
  | 4 => .int
  | _ => .int
abbrev wsX00 : List Cond := u_ws RX0 TX0 6
theorem nmX0 : ∀ a, a < 6 → ∀ b, b < 6 → a ≠ b → (TX0 a).2.1 ≠ (TX0 b).2.1 := by decide +kernel
theorem tyX0_ok : ∀ k, k < 6 → parseFieldDescriptor (TX0 k).2.2.1 = some (tyX0 k) := by decide +kernel
abbrev cX0_init : ByteArray := prog_2_method_1_code
def yX0_init : MethodName := ⟨RX0, "<init>", "(LNamesNoTouch$Row;IIIII)V"⟩
abbrev cX0_kind : ByteArray := prog_2_method_2_code
def yX0_kind : MethodName := ⟨RX0, "kind", "()I"⟩
abbrev cX0_length : ByteArray := prog_2_method_3_code
def yX0_length : MethodName := ⟨RX0, "length", "(I)I"⟩
abbrev cX0_mayBe : ByteArray := prog_2_method_4_code
def yX0_mayBe : MethodName := ⟨RX0, "mayBe", "(I)I"⟩
abbrev cX0_tells : ByteArray := prog_2_method_5_code
def yX0_tells : MethodName := ⟨RX0, "tells", "(I)I"⟩
def RX1 : String := "NamesNoTouch$Coastal"
def TX1 : u_T := fun k => match k with
  | 0 => ("NamesNoTouch$Name", "trail", "LNamesNoTouch$Row;", true)
  | 1 => ("NamesNoTouch$Name", "number", "I", true)
  | 2 => ("NamesNoTouch$Name", "v", "I", true)
  | 3 => ("NamesNoTouch$Name", "letters", "I", true)
  | 4 => ("NamesNoTouch$Name", "column", "I", true)
  | _ => ("NamesNoTouch$Name", "line", "I", true)
def tyX1 : Nat → FieldType := fun k => match k with
  | 0 => .object "NamesNoTouch$Row"
  | 1 => .int
  | 2 => .int
  | 3 => .int
  | 4 => .int
  | _ => .int
abbrev wsX10 : List Cond := u_ws RX1 TX1 6
theorem nmX1 : ∀ a, a < 6 → ∀ b, b < 6 → a ≠ b → (TX1 a).2.1 ≠ (TX1 b).2.1 := by decide +kernel
theorem tyX1_ok : ∀ k, k < 6 → parseFieldDescriptor (TX1 k).2.2.1 = some (tyX1 k) := by decide +kernel
abbrev cX1_init : ByteArray := prog_3_method_1_code
def yX1_init : MethodName := ⟨RX1, "<init>", "(LNamesNoTouch$Row;IIIII)V"⟩
abbrev cX1_kind : ByteArray := prog_3_method_2_code
def yX1_kind : MethodName := ⟨RX1, "kind", "()I"⟩
abbrev cX1_mayBe : ByteArray := prog_3_method_3_code
def yX1_mayBe : MethodName := ⟨RX1, "mayBe", "(I)I"⟩
abbrev cX1_reads : ByteArray := prog_3_method_4_code
def yX1_reads : MethodName := ⟨RX1, "reads", "(I)I"⟩
def RX2 : String := "NamesNoTouch$Harbour"
def TX2 : u_T := fun k => match k with
  | 0 => ("NamesNoTouch$Name", "trail", "LNamesNoTouch$Row;", true)
  | 1 => ("NamesNoTouch$Name", "number", "I", true)
  | 2 => ("NamesNoTouch$Name", "v", "I", true)
  | 3 => ("NamesNoTouch$Name", "letters", "I", true)
  | 4 => ("NamesNoTouch$Name", "column", "I", true)
  | _ => ("NamesNoTouch$Name", "line", "I", true)
def tyX2 : Nat → FieldType := fun k => match k with
  | 0 => .object "NamesNoTouch$Row"
  | 1 => .int
  | 2 => .int
  | 3 => .int
  | 4 => .int
  | _ => .int
abbrev wsX20 : List Cond := u_ws RX2 TX2 6
theorem nmX2 : ∀ a, a < 6 → ∀ b, b < 6 → a ≠ b → (TX2 a).2.1 ≠ (TX2 b).2.1 := by decide +kernel
theorem tyX2_ok : ∀ k, k < 6 → parseFieldDescriptor (TX2 k).2.2.1 = some (tyX2 k) := by decide +kernel
abbrev cX2_init : ByteArray := prog_4_method_1_code
def yX2_init : MethodName := ⟨RX2, "<init>", "(LNamesNoTouch$Row;IIIII)V"⟩
abbrev cX2_kind : ByteArray := prog_4_method_2_code
def yX2_kind : MethodName := ⟨RX2, "kind", "()I"⟩
abbrev cX2_mayBe : ByteArray := prog_4_method_3_code
def yX2_mayBe : MethodName := ⟨RX2, "mayBe", "(I)I"⟩
abbrev cX2_lies : ByteArray := prog_4_method_4_code
def yX2_lies : MethodName := ⟨RX2, "lies", "(I)I"⟩
def RX3 : String := "NamesNoTouch$Large"
def TX3 : u_T := fun k => match k with
  | 0 => ("NamesNoTouch$Name", "trail", "LNamesNoTouch$Row;", true)
  | 1 => ("NamesNoTouch$Name", "number", "I", true)
  | 2 => ("NamesNoTouch$Name", "v", "I", true)
  | 3 => ("NamesNoTouch$Name", "letters", "I", true)
  | 4 => ("NamesNoTouch$Name", "column", "I", true)
  | _ => ("NamesNoTouch$Name", "line", "I", true)
def tyX3 : Nat → FieldType := fun k => match k with
  | 0 => .object "NamesNoTouch$Row"
  | 1 => .int
  | 2 => .int
  | 3 => .int
  | 4 => .int
  | _ => .int
abbrev wsX30 : List Cond := u_ws RX3 TX3 6
theorem nmX3 : ∀ a, a < 6 → ∀ b, b < 6 → a ≠ b → (TX3 a).2.1 ≠ (TX3 b).2.1 := by decide +kernel
theorem tyX3_ok : ∀ k, k < 6 → parseFieldDescriptor (TX3 k).2.2.1 = some (tyX3 k) := by decide +kernel
abbrev cX3_init : ByteArray := prog_5_method_1_code
def yX3_init : MethodName := ⟨RX3, "<init>", "(LNamesNoTouch$Row;IIIII)V"⟩
abbrev cX3_kind : ByteArray := prog_5_method_2_code
def yX3_kind : MethodName := ⟨RX3, "kind", "()I"⟩
abbrev cX3_length : ByteArray := prog_5_method_3_code
def yX3_length : MethodName := ⟨RX3, "length", "(I)I"⟩
abbrev cX3_mayBe : ByteArray := prog_5_method_4_code
def yX3_mayBe : MethodName := ⟨RX3, "mayBe", "(I)I"⟩
abbrev cX3_lies : ByteArray := prog_5_method_5_code
def yX3_lies : MethodName := ⟨RX3, "lies", "(I)I"⟩
def RX4 : String := "NamesNoTouch$Name"
def TX4 : u_T := fun k => match k with
  | 0 => ("NamesNoTouch$Name", "trail", "LNamesNoTouch$Row;", true)
  | 1 => ("NamesNoTouch$Name", "number", "I", true)
  | 2 => ("NamesNoTouch$Name", "v", "I", true)
  | 3 => ("NamesNoTouch$Name", "letters", "I", true)
  | 4 => ("NamesNoTouch$Name", "column", "I", true)
  | _ => ("NamesNoTouch$Name", "line", "I", true)
def tyX4 : Nat → FieldType := fun k => match k with
  | 0 => .object "NamesNoTouch$Row"
  | 1 => .int
  | 2 => .int
  | 3 => .int
  | 4 => .int
  | _ => .int
abbrev wsX40 : List Cond := u_ws RX4 TX4 6
theorem nmX4 : ∀ a, a < 6 → ∀ b, b < 6 → a ≠ b → (TX4 a).2.1 ≠ (TX4 b).2.1 := by decide +kernel
theorem tyX4_ok : ∀ k, k < 6 → parseFieldDescriptor (TX4 k).2.2.1 = some (tyX4 k) := by decide +kernel
abbrev cX4_init : ByteArray := prog_6_method_1_code
def yX4_init : MethodName := ⟨RX4, "<init>", "(LNamesNoTouch$Row;IIIII)V"⟩
abbrev cX4_kind : ByteArray := prog_6_method_2_code
def yX4_kind : MethodName := ⟨RX4, "kind", "()I"⟩
abbrev cX4_length : ByteArray := prog_6_method_3_code
def yX4_length : MethodName := ⟨RX4, "length", "(I)I"⟩
abbrev cX4_mayBe : ByteArray := prog_6_method_4_code
def yX4_mayBe : MethodName := ⟨RX4, "mayBe", "(I)I"⟩
abbrev cX4_lies : ByteArray := prog_6_method_5_code
def yX4_lies : MethodName := ⟨RX4, "lies", "(I)I"⟩
abbrev cX4_reads : ByteArray := prog_6_method_6_code
def yX4_reads : MethodName := ⟨RX4, "reads", "(I)I"⟩
abbrev cX4_tells : ByteArray := prog_6_method_7_code
def yX4_tells : MethodName := ⟨RX4, "tells", "(I)I"⟩
abbrev cX4_lineAt : ByteArray := prog_6_method_8_code
def yX4_lineAt : MethodName := ⟨RX4, "lineAt", "(I)I"⟩
abbrev cX4_startAt : ByteArray := prog_6_method_9_code
def yX4_startAt : MethodName := ⟨RX4, "startAt", "(II)I"⟩
abbrev cX4_cells : ByteArray := prog_6_method_10_code
def yX4_cells : MethodName := ⟨RX4, "cells", "(II)J"⟩
abbrev cX4_covers : ByteArray := prog_6_method_11_code
def yX4_covers : MethodName := ⟨RX4, "covers", "(IIII)Z"⟩
def RX5 : String := "NamesNoTouch$Reader"
def TX5 : u_T := fun k => match k with
  | 0 => ("NamesNoTouch$Reader", "tape", "LNamesNoTouch$Row;", true)
  | 1 => ("NamesNoTouch$Reader", "code", "LNamesNoTouch$Row;", true)
  | 2 => ("NamesNoTouch$Reader", "position", "I", false)
  | 3 => ("NamesNoTouch$Reader", "wide", "I", false)
  | 4 => ("NamesNoTouch$Reader", "river", "I", false)
  | _ => ("NamesNoTouch$Reader", "number", "I", false)
def tyX5 : Nat → FieldType := fun k => match k with
  | 0 => .object "NamesNoTouch$Row"
  | 1 => .object "NamesNoTouch$Row"
  | 2 => .int
  | 3 => .int
  | 4 => .int
  | _ => .int
abbrev wsX50 : List Cond := u_ws RX5 TX5 6
theorem nmX5 : ∀ a, a < 6 → ∀ b, b < 6 → a ≠ b → (TX5 a).2.1 ≠ (TX5 b).2.1 := by decide +kernel
theorem tyX5_ok : ∀ k, k < 6 → parseFieldDescriptor (TX5 k).2.2.1 = some (tyX5 k) := by decide +kernel
abbrev cX5_init : ByteArray := prog_7_method_1_code
def yX5_init : MethodName := ⟨RX5, "<init>", "(LNamesNoTouch$Row;)V"⟩
abbrev cX5_read : ByteArray := prog_7_method_2_code
def yX5_read : MethodName := ⟨RX5, "read", "()Z"⟩
abbrev cX5_readsClause : ByteArray := prog_7_method_3_code
def yX5_readsClause : MethodName := ⟨RX5, "readsClause", "()Z"⟩
abbrev cX5_readsMeasure : ByteArray := prog_7_method_4_code
def yX5_readsMeasure : MethodName := ⟨RX5, "readsMeasure", "(Z)Z"⟩
abbrev cX5_readsEither : ByteArray := prog_7_method_5_code
def yX5_readsEither : MethodName := ⟨RX5, "readsEither", "(I)Z"⟩
abbrev cX5_readsBoth : ByteArray := prog_7_method_6_code
def yX5_readsBoth : MethodName := ⟨RX5, "readsBoth", "(I)Z"⟩
abbrev cX5_readsOne : ByteArray := prog_7_method_7_code
def yX5_readsOne : MethodName := ⟨RX5, "readsOne", "(I)Z"⟩
abbrev cX5_readsTest : ByteArray := prog_7_method_8_code
def yX5_readsTest : MethodName := ⟨RX5, "readsTest", "()Z"⟩
abbrev cX5_takesNumber : ByteArray := prog_7_method_9_code
def yX5_takesNumber : MethodName := ⟨RX5, "takesNumber", "()Z"⟩
abbrev cX5_takesWord : ByteArray := prog_7_method_10_code
def yX5_takesWord : MethodName := ⟨RX5, "takesWord", "(Ljava/lang/String;)Z"⟩
abbrev cX5_takesOneOf : ByteArray := prog_7_method_11_code
def yX5_takesOneOf : MethodName := ⟨RX5, "takesOneOf", "(Ljava/lang/String;)I"⟩
abbrev cX5_takes : ByteArray := prog_7_method_12_code
def yX5_takes : MethodName := ⟨RX5, "takes", "(I)Z"⟩
abbrev cX5_next : ByteArray := prog_7_method_13_code
def yX5_next : MethodName := ⟨RX5, "next", "()I"⟩
def RX6 : String := "NamesNoTouch$Row"
def TX6 : u_T := fun k => match k with
  | 0 => ("NamesNoTouch$Row", "numbers", "[I", true)
  | _ => ("NamesNoTouch$Row", "size", "I", false)
def tyX6 : Nat → FieldType := fun k => match k with
  | 0 => .array .int
  | _ => .int
abbrev wsX60 : List Cond := u_ws RX6 TX6 2
theorem nmX6 : ∀ a, a < 2 → ∀ b, b < 2 → a ≠ b → (TX6 a).2.1 ≠ (TX6 b).2.1 := by decide +kernel
theorem tyX6_ok : ∀ k, k < 2 → parseFieldDescriptor (TX6 k).2.2.1 = some (tyX6 k) := by decide +kernel
abbrev cX6_init : ByteArray := prog_8_method_1_code
def yX6_init : MethodName := ⟨RX6, "<init>", "(I)V"⟩
abbrev cX6_size : ByteArray := prog_8_method_2_code
def yX6_size : MethodName := ⟨RX6, "size", "()I"⟩
abbrev cX6_get : ByteArray := prog_8_method_3_code
def yX6_get : MethodName := ⟨RX6, "get", "(I)I"⟩
abbrev cX6_set : ByteArray := prog_8_method_4_code
def yX6_set : MethodName := ⟨RX6, "set", "(II)V"⟩
abbrev cX6_add : ByteArray := prog_8_method_5_code
def yX6_add : MethodName := ⟨RX6, "add", "(I)V"⟩
abbrev cX6_clear : ByteArray := prog_8_method_6_code
def yX6_clear : MethodName := ⟨RX6, "clear", "()V"⟩
abbrev cX6_become : ByteArray := prog_8_method_7_code
def yX6_become : MethodName := ⟨RX6, "become", "(LNamesNoTouch$Row;)V"⟩
def RX7 : String := "NamesNoTouch$Search"
def TX7 : u_T := fun k => match k with
  | 0 => ("NamesNoTouch$Search", "sheet", "LNamesNoTouch$Sheet;", true)
  | 1 => ("NamesNoTouch$Search", "allowed", "LNamesNoTouch$Row;", true)
  | 2 => ("NamesNoTouch$Search", "values", "LNamesNoTouch$Row;", true)
  | 3 => ("NamesNoTouch$Search", "clashes", "LNamesNoTouch$Row;", true)
  | 4 => ("NamesNoTouch$Search", "tops", "LNamesNoTouch$Row;", true)
  | 5 => ("NamesNoTouch$Search", "now", "LNamesNoTouch$Row;", true)
  | 6 => ("NamesNoTouch$Search", "found", "LNamesNoTouch$Row;", true)
  | 7 => ("NamesNoTouch$Search", "isFound", "Z", false)
  | 8 => ("NamesNoTouch$Search", "dots", "I", false)
  | 9 => ("NamesNoTouch$Search", "total", "I", false)
  | _ => ("NamesNoTouch$Search", "bonus", "I", false)
def tyX7 : Nat → FieldType := fun k => match k with
  | 0 => .object "NamesNoTouch$Sheet"
  | 1 => .object "NamesNoTouch$Row"
  | 2 => .object "NamesNoTouch$Row"
  | 3 => .object "NamesNoTouch$Row"
  | 4 => .object "NamesNoTouch$Row"
  | 5 => .object "NamesNoTouch$Row"
  | 6 => .object "NamesNoTouch$Row"
  | 7 => .boolean
  | 8 => .int
  | 9 => .int
  | _ => .int
abbrev wsX70 : List Cond := u_ws RX7 TX7 11
theorem nmX7 : ∀ a, a < 11 → ∀ b, b < 11 → a ≠ b → (TX7 a).2.1 ≠ (TX7 b).2.1 := by decide +kernel
theorem tyX7_ok : ∀ k, k < 11 → parseFieldDescriptor (TX7 k).2.2.1 = some (tyX7 k) := by decide +kernel
abbrev cX7_init : ByteArray := prog_9_method_1_code
def yX7_init : MethodName := ⟨RX7, "<init>", "(LNamesNoTouch$Sheet;)V"⟩
abbrev cX7_found : ByteArray := prog_9_method_2_code
def yX7_found : MethodName := ⟨RX7, "found", "(I)I"⟩
abbrev cX7_howMany : ByteArray := prog_9_method_3_code
def yX7_howMany : MethodName := ⟨RX7, "howMany", "()I"⟩
abbrev cX7_score : ByteArray := prog_9_method_4_code
def yX7_score : MethodName := ⟨RX7, "score", "()I"⟩
abbrev cX7_bestWay : ByteArray := prog_9_method_5_code
def yX7_bestWay : MethodName := ⟨RX7, "bestWay", "(I)V"⟩
abbrev cX7_canAllBeIn : ByteArray := prog_9_method_6_code
def yX7_canAllBeIn : MethodName := ⟨RX7, "canAllBeIn", "(II)Z"⟩
abbrev cX7_fewestMoves : ByteArray := prog_9_method_7_code
def yX7_fewestMoves : MethodName := ⟨RX7, "fewestMoves", "(I)I"⟩
abbrev cX7_setMoves : ByteArray := prog_9_method_8_code
def yX7_setMoves : MethodName := ⟨RX7, "setMoves", "(II)V"⟩
abbrev cX7_takeInLine : ByteArray := prog_9_method_9_code
def yX7_takeInLine : MethodName := ⟨RX7, "takeInLine", "()V"⟩
abbrev cX7_bestOrder : ByteArray := prog_9_method_10_code
def yX7_bestOrder : MethodName := ⟨RX7, "bestOrder", "()V"⟩
abbrev cX7_begin : ByteArray := prog_9_method_11_code
def yX7_begin : MethodName := ⟨RX7, "begin", "(I)V"⟩
abbrev cX7_clashing : ByteArray := prog_9_method_12_code
def yX7_clashing : MethodName := ⟨RX7, "clashing", "(II)I"⟩
abbrev cX7_value : ByteArray := prog_9_method_13_code
def yX7_value : MethodName := ⟨RX7, "value", "(I)V"⟩
abbrev cX7_clashesOf : ByteArray := prog_9_method_14_code
def yX7_clashesOf : MethodName := ⟨RX7, "clashesOf", "(II)I"⟩
abbrev cX7_valueOf : ByteArray := prog_9_method_15_code
def yX7_valueOf : MethodName := ⟨RX7, "valueOf", "(II)I"⟩
abbrev cX7_dearest : ByteArray := prog_9_method_16_code
def yX7_dearest : MethodName := ⟨RX7, "dearest", "(II)I"⟩
abbrev cX7_isOpen : ByteArray := prog_9_method_17_code
def yX7_isOpen : MethodName := ⟨RX7, "isOpen", "(III)Z"⟩
abbrev cX7_hopes : ByteArray := prog_9_method_18_code
def yX7_hopes : MethodName := ⟨RX7, "hopes", "()I"⟩
abbrev cX7_goWays : ByteArray := prog_9_method_19_code
def yX7_goWays : MethodName := ⟨RX7, "goWays", "()V"⟩
abbrev cX7_goOn : ByteArray := prog_9_method_20_code
def yX7_goOn : MethodName := ⟨RX7, "goOn", "(IIII)V"⟩
abbrev cX7_lineUp : ByteArray := prog_9_method_21_code
def yX7_lineUp : MethodName := ⟨RX7, "lineUp", "(IIIII)V"⟩
abbrev cX7_find : ByteArray := prog_9_method_22_code
def yX7_find : MethodName := ⟨RX7, "find", "(I)V"⟩
def RX8 : String := "NamesNoTouch$Sheet"
def TX8 : u_T := fun k => match k with
  | 0 => ("NamesNoTouch$Sheet", "tape", "LNamesNoTouch$Row;", true)
  | 1 => ("NamesNoTouch$Sheet", "code", "LNamesNoTouch$Row;", true)
  | 2 => ("NamesNoTouch$Sheet", "names", "Ljava/util/ArrayList;", true)
  | 3 => ("NamesNoTouch$Sheet", "where", "LNamesNoTouch$Row;", true)
  | 4 => ("NamesNoTouch$Sheet", "rows", "LNamesNoTouch$Row;", true)
  | 5 => ("NamesNoTouch$Sheet", "seen", "LNamesNoTouch$Row;", true)
  | 6 => ("NamesNoTouch$Sheet", "plan", "LNamesNoTouch$Row;", true)
  | 7 => ("NamesNoTouch$Sheet", "book", "LNamesNoTouch$Row;", true)
  | 8 => ("NamesNoTouch$Sheet", "then", "LNamesNoTouch$Row;", true)
  | 9 => ("NamesNoTouch$Sheet", "maps", "I", false)
  | 10 => ("NamesNoTouch$Sheet", "wide", "I", false)
  | _ => ("NamesNoTouch$Sheet", "river", "I", false)
def tyX8 : Nat → FieldType := fun k => match k with
  | 0 => .object "NamesNoTouch$Row"
  | 1 => .object "NamesNoTouch$Row"
  | 2 => .object "java/util/ArrayList"
  | 3 => .object "NamesNoTouch$Row"
  | 4 => .object "NamesNoTouch$Row"
  | 5 => .object "NamesNoTouch$Row"
  | 6 => .object "NamesNoTouch$Row"
  | 7 => .object "NamesNoTouch$Row"
  | 8 => .object "NamesNoTouch$Row"
  | 9 => .int
  | 10 => .int
  | _ => .int
abbrev wsX80 : List Cond := u_ws RX8 TX8 12
theorem nmX8 : ∀ a, a < 12 → ∀ b, b < 12 → a ≠ b → (TX8 a).2.1 ≠ (TX8 b).2.1 := by decide +kernel
theorem tyX8_ok : ∀ k, k < 12 → parseFieldDescriptor (TX8 k).2.2.1 = some (tyX8 k) := by decide +kernel
abbrev cX8_init : ByteArray := prog_10_method_1_code
def yX8_init : MethodName := ⟨RX8, "<init>", "()V"⟩
abbrev cX8_become : ByteArray := prog_10_method_2_code
def yX8_become : MethodName := ⟨RX8, "become", "(LNamesNoTouch$Sheet;)V"⟩
abbrev cX8_hold : ByteArray := prog_10_method_3_code
def yX8_hold : MethodName := ⟨RX8, "hold", "(LNamesNoTouch$Reader;)V"⟩
abbrev cX8_dots : ByteArray := prog_10_method_4_code
def yX8_dots : MethodName := ⟨RX8, "dots", "()I"⟩
abbrev cX8_has : ByteArray := prog_10_method_5_code
def yX8_has : MethodName := ⟨RX8, "has", "(I)Z"⟩
abbrev cX8_name : ByteArray := prog_10_method_6_code
def yX8_name : MethodName := ⟨RX8, "name", "(I)LNamesNoTouch$Name;"⟩
abbrev cX8_hasDot : ByteArray := prog_10_method_7_code
def yX8_hasDot : MethodName := ⟨RX8, "hasDot", "(II)Z"⟩
abbrev cX8_mayBe : ByteArray := prog_10_method_8_code
def yX8_mayBe : MethodName := ⟨RX8, "mayBe", "(I)I"⟩
abbrev cX8_fitting : ByteArray := prog_10_method_9_code
def yX8_fitting : MethodName := ⟨RX8, "fitting", "(II)I"⟩
abbrev cX8_isOnSheet : ByteArray := prog_10_method_10_code
def yX8_isOnSheet : MethodName := ⟨RX8, "isOnSheet", "(LNamesNoTouch$Name;II)Z"⟩
abbrev cX8_isOverDot : ByteArray := prog_10_method_11_code
def yX8_isOverDot : MethodName := ⟨RX8, "isOverDot", "(LNamesNoTouch$Name;I)Z"⟩
abbrev cX8_free : ByteArray := prog_10_method_12_code
def yX8_free : MethodName := ⟨RX8, "free", "(ILNamesNoTouch$Row;)I"⟩
abbrev cX8_isClashing : ByteArray := prog_10_method_13_code
def yX8_isClashing : MethodName := ⟨RX8, "isClashing", "(IILNamesNoTouch$Row;)Z"⟩
abbrev cX8_shared : ByteArray := prog_10_method_14_code
def yX8_shared : MethodName := ⟨RX8, "shared", "(IIII)I"⟩
abbrev cX8_laid : ByteArray := prog_10_method_15_code
def yX8_laid : MethodName := ⟨RX8, "laid", "(LNamesNoTouch$Row;)I"⟩
abbrev cX8_score : ByteArray := prog_10_method_16_code
def yX8_score : MethodName := ⟨RX8, "score", "(LNamesNoTouch$Row;)I"⟩
abbrev cX8_goodness : ByteArray := prog_10_method_17_code
def yX8_goodness : MethodName := ⟨RX8, "goodness", "(II)I"⟩
abbrev cX8_taste : ByteArray := prog_10_method_18_code
def yX8_taste : MethodName := ⟨RX8, "taste", "(LNamesNoTouch$Name;I)I"⟩
abbrev cX8_holds : ByteArray := prog_10_method_19_code
def yX8_holds : MethodName := ⟨RX8, "holds", "(ILNamesNoTouch$Name;I)Z"⟩
abbrev cX8_asked : ByteArray := prog_10_method_20_code
def yX8_asked : MethodName := ⟨RX8, "asked", "(ILNamesNoTouch$Name;I)I"⟩
abbrev cX8_mistaken : ByteArray := prog_10_method_21_code
def yX8_mistaken : MethodName := ⟨RX8, "mistaken", "()I"⟩
abbrev cX8_fromMiddle : ByteArray := prog_10_method_22_code
def yX8_fromMiddle : MethodName := ⟨RX8, "fromMiddle", "(II)I"⟩
abbrev cX8_covering : ByteArray := prog_10_method_23_code
def yX8_covering : MethodName := ⟨RX8, "covering", "(II)I"⟩
abbrev cX8_isAllSeen : ByteArray := prog_10_method_24_code
def yX8_isAllSeen : MethodName := ⟨RX8, "isAllSeen", "(III)Z"⟩
abbrev cX8_planned : ByteArray := prog_10_method_25_code
def yX8_planned : MethodName := ⟨RX8, "planned", "()LNamesNoTouch$Row;"⟩
def RX9 : String := "NamesNoTouch$Shy"
def TX9 : u_T := fun k => match k with
  | 0 => ("NamesNoTouch$Name", "trail", "LNamesNoTouch$Row;", true)
  | 1 => ("NamesNoTouch$Name", "number", "I", true)
  | 2 => ("NamesNoTouch$Name", "v", "I", true)
  | 3 => ("NamesNoTouch$Name", "letters", "I", true)
  | 4 => ("NamesNoTouch$Name", "column", "I", true)
  | _ => ("NamesNoTouch$Name", "line", "I", true)
def tyX9 : Nat → FieldType := fun k => match k with
  | 0 => .object "NamesNoTouch$Row"
  | 1 => .int
  | 2 => .int
  | 3 => .int
  | 4 => .int
  | _ => .int
abbrev wsX90 : List Cond := u_ws RX9 TX9 6
theorem nmX9 : ∀ a, a < 6 → ∀ b, b < 6 → a ≠ b → (TX9 a).2.1 ≠ (TX9 b).2.1 := by decide +kernel
theorem tyX9_ok : ∀ k, k < 6 → parseFieldDescriptor (TX9 k).2.2.1 = some (tyX9 k) := by decide +kernel
abbrev cX9_init : ByteArray := prog_11_method_1_code
def yX9_init : MethodName := ⟨RX9, "<init>", "(LNamesNoTouch$Row;IIIII)V"⟩
abbrev cX9_kind : ByteArray := prog_11_method_2_code
def yX9_kind : MethodName := ⟨RX9, "kind", "()I"⟩
abbrev cX9_length : ByteArray := prog_11_method_3_code
def yX9_length : MethodName := ⟨RX9, "length", "(I)I"⟩
abbrev cX9_mayBe : ByteArray := prog_11_method_4_code
def yX9_mayBe : MethodName := ⟨RX9, "mayBe", "(I)I"⟩
abbrev cX9_tells : ByteArray := prog_11_method_5_code
def yX9_tells : MethodName := ⟨RX9, "tells", "(I)I"⟩
def RX10 : String := "NamesNoTouch$Told"
def TX10 : u_T := fun k => match k with
  | 0 => ("NamesNoTouch$Name", "trail", "LNamesNoTouch$Row;", true)
  | 1 => ("NamesNoTouch$Name", "number", "I", true)
  | 2 => ("NamesNoTouch$Name", "v", "I", true)
  | 3 => ("NamesNoTouch$Name", "letters", "I", true)
  | 4 => ("NamesNoTouch$Name", "column", "I", true)
  | _ => ("NamesNoTouch$Name", "line", "I", true)
def tyX10 : Nat → FieldType := fun k => match k with
  | 0 => .object "NamesNoTouch$Row"
  | 1 => .int
  | 2 => .int
  | 3 => .int
  | 4 => .int
  | _ => .int
abbrev wsX100 : List Cond := u_ws RX10 TX10 6
theorem nmX10 : ∀ a, a < 6 → ∀ b, b < 6 → a ≠ b → (TX10 a).2.1 ≠ (TX10 b).2.1 := by decide +kernel
theorem tyX10_ok : ∀ k, k < 6 → parseFieldDescriptor (TX10 k).2.2.1 = some (tyX10 k) := by decide +kernel
abbrev cX10_init : ByteArray := prog_12_method_1_code
def yX10_init : MethodName := ⟨RX10, "<init>", "(LNamesNoTouch$Row;IIIII)V"⟩
abbrev cX10_kind : ByteArray := prog_12_method_2_code
def yX10_kind : MethodName := ⟨RX10, "kind", "()I"⟩
abbrev cX10_mayBe : ByteArray := prog_12_method_3_code
def yX10_mayBe : MethodName := ⟨RX10, "mayBe", "(I)I"⟩
abbrev cX10_reads : ByteArray := prog_12_method_4_code
def yX10_reads : MethodName := ⟨RX10, "reads", "(I)I"⟩
def RX11 : String := "NamesNoTouch"
def TX11 : u_T := fun k => match k with
  | 0 => ("NamesNoTouch", "trail", "LNamesNoTouch$Row;", true)
  | 1 => ("NamesNoTouch", "sheet", "LNamesNoTouch$Sheet;", true)
  | 2 => ("NamesNoTouch", "taken", "LNamesNoTouch$Sheet;", true)
  | 3 => ("NamesNoTouch", "reader", "LNamesNoTouch$Reader;", true)
  | 4 => ("NamesNoTouch", "search", "LNamesNoTouch$Search;", true)
  | _ => ("NamesNoTouch", "isTaken", "Z", false)
def tyX11 : Nat → FieldType := fun k => match k with
  | 0 => .object "NamesNoTouch$Row"
  | 1 => .object "NamesNoTouch$Sheet"
  | 2 => .object "NamesNoTouch$Sheet"
  | 3 => .object "NamesNoTouch$Reader"
  | 4 => .object "NamesNoTouch$Search"
  | _ => .boolean
abbrev wsX110 : List Cond := u_ws RX11 TX11 6
theorem nmX11 : ∀ a, a < 6 → ∀ b, b < 6 → a ≠ b → (TX11 a).2.1 ≠ (TX11 b).2.1 := by decide +kernel
theorem tyX11_ok : ∀ k, k < 6 → parseFieldDescriptor (TX11 k).2.2.1 = some (tyX11 k) := by decide +kernel
abbrev cX11_init : ByteArray := prog_1_method_1_code
def yX11_init : MethodName := ⟨RX11, "<init>", "()V"⟩
abbrev cX11_feed : ByteArray := prog_1_method_2_code
def yX11_feed : MethodName := ⟨RX11, "feed", "(I)I"⟩
abbrev cX11_map : ByteArray := prog_1_method_3_code
def yX11_map : MethodName := ⟨RX11, "map", "()I"⟩
abbrev cX11_dot : ByteArray := prog_1_method_4_code
def yX11_dot : MethodName := ⟨RX11, "dot", "(IIIII)I"⟩
abbrev cX11_of : ByteArray := prog_1_method_5_code
def yX11_of : MethodName := ⟨RX11, "of", "(II)I"⟩
abbrev cX11_row : ByteArray := prog_1_method_6_code
def yX11_row : MethodName := ⟨RX11, "row", "(III)I"⟩
abbrev cX11_good : ByteArray := prog_1_method_7_code
def yX11_good : MethodName := ⟨RX11, "good", "(II)I"⟩
abbrev cX11_lay : ByteArray := prog_1_method_8_code
def yX11_lay : MethodName := ⟨RX11, "lay", "(II)I"⟩
abbrev cX11_lift : ByteArray := prog_1_method_9_code
def yX11_lift : MethodName := ⟨RX11, "lift", "(I)I"⟩
abbrev cX11_told : ByteArray := prog_1_method_10_code
def yX11_told : MethodName := ⟨RX11, "told", "(I)I"⟩
abbrev cX11_clash : ByteArray := prog_1_method_11_code
def yX11_clash : MethodName := ⟨RX11, "clash", "(IIII)I"⟩
abbrev cX11_at : ByteArray := prog_1_method_12_code
def yX11_at : MethodName := ⟨RX11, "at", "(II)I"⟩
abbrev cX11_most : ByteArray := prog_1_method_13_code
def yX11_most : MethodName := ⟨RX11, "most", "(I)I"⟩
abbrev cX11_best : ByteArray := prog_1_method_14_code
def yX11_best : MethodName := ⟨RX11, "best", "(I)I"⟩
abbrev cX11_all : ByteArray := prog_1_method_15_code
def yX11_all : MethodName := ⟨RX11, "all", "(I)I"⟩
abbrev cX11_room : ByteArray := prog_1_method_16_code
def yX11_room : MethodName := ⟨RX11, "room", "()I"⟩
abbrev cX11_moved : ByteArray := prog_1_method_17_code
def yX11_moved : MethodName := ⟨RX11, "moved", "(I)I"⟩
abbrev cX11_inline : ByteArray := prog_1_method_18_code
def yX11_inline : MethodName := ⟨RX11, "inline", "(I)I"⟩
abbrev cX11_order : ByteArray := prog_1_method_19_code
def yX11_order : MethodName := ⟨RX11, "order", "(I)I"⟩
abbrev cX11_far : ByteArray := prog_1_method_20_code
def yX11_far : MethodName := ⟨RX11, "far", "(I)I"⟩
abbrev cX11_see : ByteArray := prog_1_method_21_code
def yX11_see : MethodName := ⟨RX11, "see", "(IIZ)I"⟩
abbrev cX11_can : ByteArray := prog_1_method_22_code
def yX11_can : MethodName := ⟨RX11, "can", "(I)I"⟩
abbrev cX11_firm : ByteArray := prog_1_method_23_code
def yX11_firm : MethodName := ⟨RX11, "firm", "(II)I"⟩
abbrev cX11_odds : ByteArray := prog_1_method_24_code
def yX11_odds : MethodName := ⟨RX11, "odds", "(II)J"⟩
abbrev cX11_mean : ByteArray := prog_1_method_25_code
def yX11_mean : MethodName := ⟨RX11, "mean", "(I)J"⟩
abbrev cX11_plan : ByteArray := prog_1_method_26_code
def yX11_plan : MethodName := ⟨RX11, "plan", "(II)I"⟩
abbrev cX11_done : ByteArray := prog_1_method_27_code
def yX11_done : MethodName := ⟨RX11, "done", "(I)I"⟩
abbrev cX11_book : ByteArray := prog_1_method_28_code
def yX11_book : MethodName := ⟨RX11, "book", "(II)I"⟩
abbrev cX11_looked : ByteArray := prog_1_method_29_code
def yX11_looked : MethodName := ⟨RX11, "looked", "()I"⟩
abbrev cX11_act : ByteArray := prog_1_method_30_code
def yX11_act : MethodName := ⟨RX11, "act", "(III)I"⟩
abbrev cX11_trace : ByteArray := prog_1_method_31_code
def yX11_trace : MethodName := ⟨RX11, "trace", "(I)I"⟩
abbrev cX11_as : ByteArray := prog_1_method_32_code
def yX11_as : MethodName := ⟨RX11, "as", "(II)I"⟩
abbrev cX11_image : ByteArray := prog_1_method_33_code
def yX11_image : MethodName := ⟨RX11, "image", "()I"⟩
abbrev cX11_undo : ByteArray := prog_1_method_34_code
def yX11_undo : MethodName := ⟨RX11, "undo", "()I"⟩
abbrev cX11_count : ByteArray := prog_1_method_35_code
def yX11_count : MethodName := ⟨RX11, "count", "(I)I"⟩
abbrev cX11_isPlace : ByteArray := prog_1_method_36_code
def yX11_isPlace : MethodName := ⟨RX11, "isPlace", "(I)Z"⟩
abbrev cX11_isSpot : ByteArray := prog_1_method_37_code
def yX11_isSpot : MethodName := ⟨RX11, "isSpot", "(II)Z"⟩
abbrev cX11_hasBit : ByteArray := prog_1_method_38_code
def yX11_hasBit : MethodName := ⟨RX11, "hasBit", "(II)Z"⟩
abbrev cX11_outward : ByteArray := prog_1_method_39_code
def yX11_outward : MethodName := ⟨RX11, "outward", "(I)I"⟩
abbrev cX11_put : ByteArray := prog_1_method_40_code
def yX11_put : MethodName := ⟨RX11, "put", "(II)I"⟩
abbrev cX11_named : ByteArray := prog_1_method_41_code
def yX11_named : MethodName := ⟨RX11, "named", "(IIIII)LNamesNoTouch$Name;"⟩
abbrev cX11_isOfKind : ByteArray := prog_1_method_42_code
def yX11_isOfKind : MethodName := ⟨RX11, "isOfKind", "(LNamesNoTouch$Name;I)Z"⟩
abbrev cX11_written : ByteArray := prog_1_method_43_code
def yX11_written : MethodName := ⟨RX11, "written", "(LNamesNoTouch$Row;II)I"⟩
abbrev cX11_fraction : ByteArray := prog_1_method_44_code
def yX11_fraction : MethodName := ⟨RX11, "fraction", "(III)J"⟩
def RX12 : String := "NamesNoTouchModel"
def TX12 : u_T := fun k => match k with
  | 0 => ("NamesNoTouchModel", "thrown", "I", false)
  | 1 => ("NamesNoTouchModel", "s", "[I", true)
  | 2 => ("NamesNoTouchModel", "image", "[I", true)
  | 3 => ("NamesNoTouchModel", "hasImage", "Z", false)
  | 4 => ("NamesNoTouchModel", "act", "I", false)
  | 5 => ("NamesNoTouchModel", "spot", "I", false)
  | 6 => ("NamesNoTouchModel", "end", "I", false)
  | 7 => ("NamesNoTouchModel", "isWrong", "Z", false)
  | 8 => ("NamesNoTouchModel", "open", "I", false)
  | 9 => ("NamesNoTouchModel", "by", "[I", true)
  | 10 => ("NamesNoTouchModel", "truths", "[Z", true)
  | 11 => ("NamesNoTouchModel", "fit", "[Z", true)
  | 12 => ("NamesNoTouchModel", "goods", "[I", true)
  | 13 => ("NamesNoTouchModel", "clashes", "[I", true)
  | 14 => ("NamesNoTouchModel", "way", "[I", true)
  | 15 => ("NamesNoTouchModel", "bestWay", "[I", true)
  | 16 => ("NamesNoTouchModel", "bestMany", "I", false)
  | 17 => ("NamesNoTouchModel", "bestScore", "I", false)
  | 18 => ("NamesNoTouchModel", "byMany", "Z", false)
  | 19 => ("NamesNoTouchModel", "fewestMoved", "I", false)
  | 20 => ("NamesNoTouchModel", "line", "[I", true)
  | 21 => ("NamesNoTouchModel", "bestLine", "[I", true)
  | 22 => ("NamesNoTouchModel", "were", "[I", true)
  | 23 => ("NamesNoTouchModel", "bodies", "[I", true)
  | 24 => ("NamesNoTouchModel", "ran", "I", false)
  | 25 => ("NamesNoTouchModel", "kind", "I", false)
  | 26 => ("NamesNoTouchModel", "number", "I", false)
  | _ => ("NamesNoTouchModel", "tellsV", "I", false)
def tyX12 : Nat → FieldType := fun k => match k with
  | 0 => .int
  | 1 => .array .int
  | 2 => .array .int
  | 3 => .boolean
  | 4 => .int
  | 5 => .int
  | 6 => .int
  | 7 => .boolean
  | 8 => .int
  | 9 => .array .int
  | 10 => .array .boolean
  | 11 => .array .boolean
  | 12 => .array .int
  | 13 => .array .int
  | 14 => .array .int
  | 15 => .array .int
  | 16 => .int
  | 17 => .int
  | 18 => .boolean
  | 19 => .int
  | 20 => .array .int
  | 21 => .array .int
  | 22 => .array .int
  | 23 => .array .int
  | 24 => .int
  | 25 => .int
  | 26 => .int
  | _ => .int
abbrev wsX120 : List Cond := u_ws RX12 TX12 28
theorem nmX12 : ∀ a, a < 28 → ∀ b, b < 28 → a ≠ b → (TX12 a).2.1 ≠ (TX12 b).2.1 := by decide +kernel
theorem tyX12_ok : ∀ k, k < 28 → parseFieldDescriptor (TX12 k).2.2.1 = some (tyX12 k) := by decide +kernel
abbrev cX12_init : ByteArray := prog_14_method_1_code
def yX12_init : MethodName := ⟨RX12, "<init>", "()V"⟩
abbrev cX12_in : ByteArray := prog_14_method_3_code
def yX12_in : MethodName := ⟨RX12, "in", "(III)Z"⟩
abbrev cX12_within : ByteArray := prog_14_method_4_code
def yX12_within : MethodName := ⟨RX12, "within", "(III)I"⟩
abbrev cX12_apart : ByteArray := prog_14_method_5_code
def yX12_apart : MethodName := ⟨RX12, "apart", "(II)I"⟩
abbrev cX12_isName : ByteArray := prog_14_method_6_code
def yX12_isName : MethodName := ⟨RX12, "isName", "(I)Z"⟩
abbrev cX12_isPlace : ByteArray := prog_14_method_7_code
def yX12_isPlace : MethodName := ⟨RX12, "isPlace", "(I)Z"⟩
abbrev cX12_orNone : ByteArray := prog_14_method_8_code
def yX12_orNone : MethodName := ⟨RX12, "orNone", "(I)I"⟩
abbrev cX12_feed : ByteArray := prog_14_method_9_code
def yX12_feed : MethodName := ⟨RX12, "feed", "(I)I"⟩
abbrev cX12_here : ByteArray := prog_14_method_10_code
def yX12_here : MethodName := ⟨RX12, "here", "()I"⟩
abbrev cX12_must : ByteArray := prog_14_method_11_code
def yX12_must : MethodName := ⟨RX12, "must", "(I)V"⟩
abbrev cX12_spells : ByteArray := prog_14_method_12_code
def yX12_spells : MethodName := ⟨RX12, "spells", "(Ljava/lang/String;)V"⟩
abbrev cX12_figures : ByteArray := prog_14_method_13_code
def yX12_figures : MethodName := ⟨RX12, "figures", "()I"⟩
abbrev cX12_among : ByteArray := prog_14_method_14_code
def yX12_among : MethodName := ⟨RX12, "among", "(Ljava/lang/String;)I"⟩
abbrev cX12_emits : ByteArray := prog_14_method_15_code
def yX12_emits : MethodName := ⟨RX12, "emits", "(I)V"⟩
abbrev cX12_factor : ByteArray := prog_14_method_16_code
def yX12_factor : MethodName := ⟨RX12, "factor", "()V"⟩
abbrev cX12_every : ByteArray := prog_14_method_17_code
def yX12_every : MethodName := ⟨RX12, "every", "()V"⟩
abbrev cX12_some : ByteArray := prog_14_method_18_code
def yX12_some : MethodName := ⟨RX12, "some", "()V"⟩
abbrev cX12_much : ByteArray := prog_14_method_19_code
def yX12_much : MethodName := ⟨RX12, "much", "(ILjava/lang/String;)V"⟩
abbrev cX12_tellsHere : ByteArray := prog_14_method_20_code
def yX12_tellsHere : MethodName := ⟨RX12, "tellsHere", "(ILjava/lang/String;)V"⟩
abbrev cX12_clauseHere : ByteArray := prog_14_method_21_code
def yX12_clauseHere : MethodName := ⟨RX12, "clauseHere", "()V"⟩
abbrev cX12_map : ByteArray := prog_14_method_22_code
def yX12_map : MethodName := ⟨RX12, "map", "()I"⟩
abbrev cX12_tellsOf : ByteArray := prog_14_method_23_code
def yX12_tellsOf : MethodName := ⟨RX12, "tellsOf", "(II)I"⟩
abbrev cX12_wideNow : ByteArray := prog_14_method_24_code
def yX12_wideNow : MethodName := ⟨RX12, "wideNow", "()I"⟩
abbrev cX12_riverNow : ByteArray := prog_14_method_25_code
def yX12_riverNow : MethodName := ⟨RX12, "riverNow", "()I"⟩
abbrev cX12_looks : ByteArray := prog_14_method_26_code
def yX12_looks : MethodName := ⟨RX12, "looks", "(II)I"⟩
abbrev cX12_lengthOf : ByteArray := prog_14_method_27_code
def yX12_lengthOf : MethodName := ⟨RX12, "lengthOf", "(I)I"⟩
abbrev cX12_rowAt : ByteArray := prog_14_method_28_code
def yX12_rowAt : MethodName := ⟨RX12, "rowAt", "(II)I"⟩
abbrev cX12_firstAt : ByteArray := prog_14_method_29_code
def yX12_firstAt : MethodName := ⟨RX12, "firstAt", "(II)I"⟩
abbrev cX12_isAt : ByteArray := prog_14_method_30_code
def yX12_isAt : MethodName := ⟨RX12, "isAt", "(IIII)Z"⟩
abbrev cX12_bothAt : ByteArray := prog_14_method_31_code
def yX12_bothAt : MethodName := ⟨RX12, "bothAt", "(IIII)I"⟩
abbrev cX12_may : ByteArray := prog_14_method_32_code
def yX12_may : MethodName := ⟨RX12, "may", "(II)Z"⟩
abbrev cX12_fits : ByteArray := prog_14_method_33_code
def yX12_fits : MethodName := ⟨RX12, "fits", "(III)Z"⟩
abbrev cX12_isFree : ByteArray := prog_14_method_34_code
def yX12_isFree : MethodName := ⟨RX12, "isFree", "(II)Z"⟩
abbrev cX12_goodOf : ByteArray := prog_14_method_35_code
def yX12_goodOf : MethodName := ⟨RX12, "goodOf", "(II)I"⟩
abbrev cX12_scoreNow : ByteArray := prog_14_method_36_code
def yX12_scoreNow : MethodName := ⟨RX12, "scoreNow", "()I"⟩
abbrev cX12_manyLaid : ByteArray := prog_14_method_37_code
def yX12_manyLaid : MethodName := ⟨RX12, "manyLaid", "()I"⟩
abbrev cX12_isDotAt : ByteArray := prog_14_method_38_code
def yX12_isDotAt : MethodName := ⟨RX12, "isDotAt", "(II)Z"⟩
abbrev cX12_dot : ByteArray := prog_14_method_39_code
def yX12_dot : MethodName := ⟨RX12, "dot", "(IIIII)I"⟩
abbrev cX12_placesOf : ByteArray := prog_14_method_40_code
def yX12_placesOf : MethodName := ⟨RX12, "placesOf", "(II)I"⟩
abbrev cX12_of : ByteArray := prog_14_method_41_code
def yX12_of : MethodName := ⟨RX12, "of", "(II)I"⟩
abbrev cX12_row : ByteArray := prog_14_method_42_code
def yX12_row : MethodName := ⟨RX12, "row", "(III)I"⟩
abbrev cX12_good : ByteArray := prog_14_method_43_code
def yX12_good : MethodName := ⟨RX12, "good", "(II)I"⟩
abbrev cX12_lay : ByteArray := prog_14_method_44_code
def yX12_lay : MethodName := ⟨RX12, "lay", "(II)I"⟩
abbrev cX12_lift : ByteArray := prog_14_method_45_code
def yX12_lift : MethodName := ⟨RX12, "lift", "(I)I"⟩
abbrev cX12_farFrom : ByteArray := prog_14_method_46_code
def yX12_farFrom : MethodName := ⟨RX12, "farFrom", "(II)I"⟩
abbrev cX12_isMistaken : ByteArray := prog_14_method_47_code
def yX12_isMistaken : MethodName := ⟨RX12, "isMistaken", "(I)Z"⟩
abbrev cX12_told : ByteArray := prog_14_method_48_code
def yX12_told : MethodName := ⟨RX12, "told", "(I)I"⟩
abbrev cX12_clash : ByteArray := prog_14_method_49_code
def yX12_clash : MethodName := ⟨RX12, "clash", "(IIII)I"⟩
abbrev cX12_at : ByteArray := prog_14_method_50_code
def yX12_at : MethodName := ⟨RX12, "at", "(II)I"⟩
abbrev cX12_looksForFits : ByteArray := prog_14_method_51_code
def yX12_looksForFits : MethodName := ⟨RX12, "looksForFits", "(I)V"⟩
abbrev cX12_looksForGoods : ByteArray := prog_14_method_52_code
def yX12_looksForGoods : MethodName := ⟨RX12, "looksForGoods", "()V"⟩
abbrev cX12_looksForClashes : ByteArray := prog_14_method_53_code
def yX12_looksForClashes : MethodName := ⟨RX12, "looksForClashes", "()V"⟩
abbrev cX12_looksForPairs : ByteArray := prog_14_method_54_code
def yX12_looksForPairs : MethodName := ⟨RX12, "looksForPairs", "()V"⟩
abbrev cX12_keepsWay : ByteArray := prog_14_method_55_code
def yX12_keepsWay : MethodName := ⟨RX12, "keepsWay", "(II)V"⟩
abbrev cX12_waysFrom : ByteArray := prog_14_method_56_code
def yX12_waysFrom : MethodName := ⟨RX12, "waysFrom", "(IIII)V"⟩
abbrev cX12_looksForWay : ByteArray := prog_14_method_57_code
def yX12_looksForWay : MethodName := ⟨RX12, "looksForWay", "(Z)V"⟩
abbrev cX12_most : ByteArray := prog_14_method_58_code
def yX12_most : MethodName := ⟨RX12, "most", "(I)I"⟩
abbrev cX12_best : ByteArray := prog_14_method_59_code
def yX12_best : MethodName := ⟨RX12, "best", "(I)I"⟩
abbrev cX12_allFrom : ByteArray := prog_14_method_60_code
def yX12_allFrom : MethodName := ⟨RX12, "allFrom", "(III)Z"⟩
abbrev cX12_all : ByteArray := prog_14_method_61_code
def yX12_all : MethodName := ⟨RX12, "all", "(I)I"⟩
abbrev cX12_room : ByteArray := prog_14_method_62_code
def yX12_room : MethodName := ⟨RX12, "room", "()I"⟩
abbrev cX12_movesFrom : ByteArray := prog_14_method_63_code
def yX12_movesFrom : MethodName := ⟨RX12, "movesFrom", "(IIII)V"⟩
abbrev cX12_moved : ByteArray := prog_14_method_64_code
def yX12_moved : MethodName := ⟨RX12, "moved", "(I)I"⟩
abbrev cX12_takes : ByteArray := prog_14_method_65_code
def yX12_takes : MethodName := ⟨RX12, "takes", "(II)I"⟩
abbrev cX12_keepsLine : ByteArray := prog_14_method_66_code
def yX12_keepsLine : MethodName := ⟨RX12, "keepsLine", "(II)V"⟩
abbrev cX12_ordersFrom : ByteArray := prog_14_method_67_code
def yX12_ordersFrom : MethodName := ⟨RX12, "ordersFrom", "(IIIII)V"⟩
abbrev cX12_inline : ByteArray := prog_14_method_68_code
def yX12_inline : MethodName := ⟨RX12, "inline", "(I)I"⟩
abbrev cX12_order : ByteArray := prog_14_method_69_code
def yX12_order : MethodName := ⟨RX12, "order", "(I)I"⟩
abbrev cX12_far : ByteArray := prog_14_method_70_code
def yX12_far : MethodName := ⟨RX12, "far", "(I)I"⟩
abbrev cX12_see : ByteArray := prog_14_method_71_code
def yX12_see : MethodName := ⟨RX12, "see", "(IIZ)I"⟩
abbrev cX12_areAsSeen : ByteArray := prog_14_method_72_code
def yX12_areAsSeen : MethodName := ⟨RX12, "areAsSeen", "()Z"⟩
abbrev cX12_can : ByteArray := prog_14_method_73_code
def yX12_can : MethodName := ⟨RX12, "can", "(I)I"⟩
abbrev cX12_firm : ByteArray := prog_14_method_74_code
def yX12_firm : MethodName := ⟨RX12, "firm", "(II)I"⟩
abbrev cX12_lowest : ByteArray := prog_14_method_75_code
def yX12_lowest : MethodName := ⟨RX12, "lowest", "(JJI)J"⟩
abbrev cX12_odds : ByteArray := prog_14_method_76_code
def yX12_odds : MethodName := ⟨RX12, "odds", "(II)J"⟩
abbrev cX12_mean : ByteArray := prog_14_method_77_code
def yX12_mean : MethodName := ⟨RX12, "mean", "(I)J"⟩
abbrev cX12_plan : ByteArray := prog_14_method_78_code
def yX12_plan : MethodName := ⟨RX12, "plan", "(II)I"⟩
abbrev cX12_done : ByteArray := prog_14_method_79_code
def yX12_done : MethodName := ⟨RX12, "done", "(I)I"⟩
abbrev cX12_book : ByteArray := prog_14_method_80_code
def yX12_book : MethodName := ⟨RX12, "book", "(II)I"⟩
abbrev cX12_looked : ByteArray := prog_14_method_81_code
def yX12_looked : MethodName := ⟨RX12, "looked", "()I"⟩
abbrev cX12_ranBody : ByteArray := prog_14_method_82_code
def yX12_ranBody : MethodName := ⟨RX12, "ranBody", "(I)V"⟩
abbrev cX12_isUnder : ByteArray := prog_14_method_83_code
def yX12_isUnder : MethodName := ⟨RX12, "isUnder", "(II)Z"⟩
abbrev cX12_plainLies : ByteArray := prog_14_method_84_code
def yX12_plainLies : MethodName := ⟨RX12, "plainLies", "(I)I"⟩
abbrev cX12_liesActs : ByteArray := prog_14_method_85_code
def yX12_liesActs : MethodName := ⟨RX12, "liesActs", "(I)I"⟩
abbrev cX12_plainReads : ByteArray := prog_14_method_86_code
def yX12_plainReads : MethodName := ⟨RX12, "plainReads", "(I)I"⟩
abbrev cX12_readsActs : ByteArray := prog_14_method_87_code
def yX12_readsActs : MethodName := ⟨RX12, "readsActs", "(I)I"⟩
abbrev cX12_plainTelling : ByteArray := prog_14_method_88_code
def yX12_plainTelling : MethodName := ⟨RX12, "plainTelling", "(I)I"⟩
abbrev cX12_tellsActs : ByteArray := prog_14_method_89_code
def yX12_tellsActs : MethodName := ⟨RX12, "tellsActs", "(I)I"⟩
abbrev cX12_act : ByteArray := prog_14_method_90_code
def yX12_act : MethodName := ⟨RX12, "act", "(III)I"⟩
abbrev cX12_trace : ByteArray := prog_14_method_91_code
def yX12_trace : MethodName := ⟨RX12, "trace", "(I)I"⟩
abbrev cX12_as : ByteArray := prog_14_method_92_code
def yX12_as : MethodName := ⟨RX12, "as", "(II)I"⟩
abbrev cX12_image : ByteArray := prog_14_method_93_code
def yX12_image : MethodName := ⟨RX12, "image", "()I"⟩
abbrev cX12_undo : ByteArray := prog_14_method_94_code
def yX12_undo : MethodName := ⟨RX12, "undo", "()I"⟩
abbrev cX12_count : ByteArray := prog_14_method_95_code
def yX12_count : MethodName := ⟨RX12, "count", "(I)I"⟩
def RJx145de : String := "java/io/Serializable"
def TJx145de : u_T := fun k => match k with
  | _ => ("", "", "", false)
def tyJx145de : Nat → FieldType := fun k => match k with
  | _ => .int
abbrev wsJx145de0 : List Cond := u_ws RJx145de TJx145de 0
theorem nmJx145de : ∀ a, a < 0 → ∀ b, b < 0 → a ≠ b → (TJx145de a).2.1 ≠ (TJx145de b).2.1 := by decide +kernel
theorem tyJx145de_ok : ∀ k, k < 0 → parseFieldDescriptor (TJx145de k).2.2.1 = some (tyJx145de k) := by decide +kernel
def RJx9f9b0 : String := "java/lang/CharSequence"
def TJx9f9b0 : u_T := fun k => match k with
  | _ => ("", "", "", false)
def tyJx9f9b0 : Nat → FieldType := fun k => match k with
  | _ => .int
abbrev wsJx9f9b00 : List Cond := u_ws RJx9f9b0 TJx9f9b0 0
theorem nmJx9f9b0 : ∀ a, a < 0 → ∀ b, b < 0 → a ≠ b → (TJx9f9b0 a).2.1 ≠ (TJx9f9b0 b).2.1 := by decide +kernel
theorem tyJx9f9b0_ok : ∀ k, k < 0 → parseFieldDescriptor (TJx9f9b0 k).2.2.1 = some (tyJx9f9b0 k) := by decide +kernel
def RJx8e188 : String := "java/lang/Cloneable"
def TJx8e188 : u_T := fun k => match k with
  | _ => ("", "", "", false)
def tyJx8e188 : Nat → FieldType := fun k => match k with
  | _ => .int
abbrev wsJx8e1880 : List Cond := u_ws RJx8e188 TJx8e188 0
theorem nmJx8e188 : ∀ a, a < 0 → ∀ b, b < 0 → a ≠ b → (TJx8e188 a).2.1 ≠ (TJx8e188 b).2.1 := by decide +kernel
theorem tyJx8e188_ok : ∀ k, k < 0 → parseFieldDescriptor (TJx8e188 k).2.2.1 = some (tyJx8e188 k) := by decide +kernel
def RJxb160c : String := "java/lang/Comparable"
def TJxb160c : u_T := fun k => match k with
  | _ => ("", "", "", false)
def tyJxb160c : Nat → FieldType := fun k => match k with
  | _ => .int
abbrev wsJxb160c0 : List Cond := u_ws RJxb160c TJxb160c 0
theorem nmJxb160c : ∀ a, a < 0 → ∀ b, b < 0 → a ≠ b → (TJxb160c a).2.1 ≠ (TJxb160c b).2.1 := by decide +kernel
theorem tyJxb160c_ok : ∀ k, k < 0 → parseFieldDescriptor (TJxb160c k).2.2.1 = some (tyJxb160c k) := by decide +kernel
def RJ6 : String := "java/lang/Integer"
def TJ6 : u_T := fun k => match k with
  | _ => ("", "", "", false)
def tyJ6 : Nat → FieldType := fun k => match k with
  | _ => .int
abbrev wsJ60 : List Cond := u_ws RJ6 TJ6 0
theorem nmJ6 : ∀ a, a < 0 → ∀ b, b < 0 → a ≠ b → (TJ6 a).2.1 ≠ (TJ6 b).2.1 := by decide +kernel
theorem tyJ6_ok : ∀ k, k < 0 → parseFieldDescriptor (TJ6 k).2.2.1 = some (tyJ6 k) := by decide +kernel
abbrev cJ6_bitCount_0f7a4 : ByteArray := prog_19_method_49_code
def yJ6_bitCount_0f7a4 : MethodName := ⟨RJ6, "bitCount", "(I)I"⟩
def RJxab1ab : String := "java/lang/Iterable"
def TJxab1ab : u_T := fun k => match k with
  | _ => ("", "", "", false)
def tyJxab1ab : Nat → FieldType := fun k => match k with
  | _ => .int
abbrev wsJxab1ab0 : List Cond := u_ws RJxab1ab TJxab1ab 0
theorem nmJxab1ab : ∀ a, a < 0 → ∀ b, b < 0 → a ≠ b → (TJxab1ab a).2.1 ≠ (TJxab1ab b).2.1 := by decide +kernel
theorem tyJxab1ab_ok : ∀ k, k < 0 → parseFieldDescriptor (TJxab1ab k).2.2.1 = some (tyJxab1ab k) := by decide +kernel
def RJ13 : String := "java/lang/Long"
def TJ13 : u_T := fun k => match k with
  | _ => ("", "", "", false)
def tyJ13 : Nat → FieldType := fun k => match k with
  | _ => .int
abbrev wsJ130 : List Cond := u_ws RJ13 TJ13 0
theorem nmJ13 : ∀ a, a < 0 → ∀ b, b < 0 → a ≠ b → (TJ13 a).2.1 ≠ (TJ13 b).2.1 := by decide +kernel
theorem tyJ13_ok : ∀ k, k < 0 → parseFieldDescriptor (TJ13 k).2.2.1 = some (tyJ13 k) := by decide +kernel
abbrev cJ13_bitCount_95d88 : ByteArray := prog_21_method_50_code
def yJ13_bitCount_95d88 : MethodName := ⟨RJ13, "bitCount", "(J)I"⟩
def RJ9 : String := "java/lang/Math"
def TJ9 : u_T := fun k => match k with
  | _ => ("", "", "", false)
def tyJ9 : Nat → FieldType := fun k => match k with
  | _ => .int
abbrev wsJ90 : List Cond := u_ws RJ9 TJ9 0
theorem nmJ9 : ∀ a, a < 0 → ∀ b, b < 0 → a ≠ b → (TJ9 a).2.1 ≠ (TJ9 b).2.1 := by decide +kernel
theorem tyJ9_ok : ∀ k, k < 0 → parseFieldDescriptor (TJ9 k).2.2.1 = some (tyJ9 k) := by decide +kernel
abbrev cJ9_floorDiv_7cf53 : ByteArray := prog_22_method_47_code
def yJ9_floorDiv_7cf53 : MethodName := ⟨RJ9, "floorDiv", "(II)I"⟩
abbrev cJ9_abs_0f7a4 : ByteArray := prog_22_method_59_code
def yJ9_abs_0f7a4 : MethodName := ⟨RJ9, "abs", "(I)I"⟩
abbrev cJ9_max_7cf53 : ByteArray := prog_22_method_65_code
def yJ9_max_7cf53 : MethodName := ⟨RJ9, "max", "(II)I"⟩
abbrev cJ9_min_7cf53 : ByteArray := prog_22_method_69_code
def yJ9_min_7cf53 : MethodName := ⟨RJ9, "min", "(II)I"⟩
def RJ0 : String := "java/lang/String"
def TJ0 : u_T := fun k => match k with
  | _ => ("", "", "", false)
def tyJ0 : Nat → FieldType := fun k => match k with
  | _ => .int
abbrev wsJ00 : List Cond := u_ws RJ0 TJ0 0
theorem nmJ0 : ∀ a, a < 0 → ∀ b, b < 0 → a ≠ b → (TJ0 a).2.1 ≠ (TJ0 b).2.1 := by decide +kernel
theorem tyJ0_ok : ∀ k, k < 0 → parseFieldDescriptor (TJ0 k).2.2.1 = some (tyJ0 k) := by decide +kernel
abbrev cJ0_length_8abf5 : ByteArray := prog_23_method_54_code
def yJ0_length_8abf5 : MethodName := ⟨RJ0, "length", "()I"⟩
abbrev cJ0_charAt_5068e : ByteArray := prog_23_method_56_code
def yJ0_charAt_5068e : MethodName := ⟨RJ0, "charAt", "(I)C"⟩
abbrev cJ0_coder_7d493 : ByteArray := prog_23_method_152_code
def yJ0_coder_7d493 : MethodName := ⟨RJ0, "coder", "()B"⟩
abbrev cJ0_isLatin1_aae02 : ByteArray := prog_23_method_154_code
def yJ0_isLatin1_aae02 : MethodName := ⟨RJ0, "isLatin1", "()Z"⟩
abbrev cJ0_checkIndex_df160 : ByteArray := prog_23_method_155_code
def yJ0_checkIndex_df160 : MethodName := ⟨RJ0, "checkIndex", "(II)V"⟩
def RJ1 : String := "java/lang/StringLatin1"
def TJ1 : u_T := fun k => match k with
  | _ => ("", "", "", false)
def tyJ1 : Nat → FieldType := fun k => match k with
  | _ => .int
abbrev wsJ10 : List Cond := u_ws RJ1 TJ1 0
theorem nmJ1 : ∀ a, a < 0 → ∀ b, b < 0 → a ≠ b → (TJ1 a).2.1 ≠ (TJ1 b).2.1 := by decide +kernel
theorem tyJ1_ok : ∀ k, k < 0 → parseFieldDescriptor (TJ1 k).2.2.1 = some (tyJ1 k) := by decide +kernel
abbrev cJ1_charAt_3b067 : ByteArray := prog_24_method_2_code
def yJ1_charAt_3b067 : MethodName := ⟨RJ1, "charAt", "([BI)C"⟩
def RJ2 : String := "java/lang/StringUTF16"
def TJ2 : u_T := fun k => match k with
  | _ => ("", "", "", false)
def tyJ2 : Nat → FieldType := fun k => match k with
  | _ => .int
abbrev wsJ20 : List Cond := u_ws RJ2 TJ2 0
theorem nmJ2 : ∀ a, a < 0 → ∀ b, b < 0 → a ≠ b → (TJ2 a).2.1 ≠ (TJ2 b).2.1 := by decide +kernel
theorem tyJ2_ok : ∀ k, k < 0 → parseFieldDescriptor (TJ2 k).2.2.1 = some (tyJ2 k) := by decide +kernel
abbrev cJ2_getChar_3b067 : ByteArray := prog_25_method_5_code
def yJ2_getChar_3b067 : MethodName := ⟨RJ2, "getChar", "([BI)C"⟩
abbrev cJ2_length_9d52b : ByteArray := prog_25_method_6_code
def yJ2_length_9d52b : MethodName := ⟨RJ2, "length", "([B)I"⟩
abbrev cJ2_charAt_3b067 : ByteArray := prog_25_method_83_code
def yJ2_charAt_3b067 : MethodName := ⟨RJ2, "charAt", "([BI)C"⟩
abbrev cJ2_checkIndex_2214a : ByteArray := prog_25_method_91_code
def yJ2_checkIndex_2214a : MethodName := ⟨RJ2, "checkIndex", "(I[B)V"⟩
def RJ10 : String := "java/lang/System"
def TJ10 : u_T := fun k => match k with
  | _ => ("", "", "", false)
def tyJ10 : Nat → FieldType := fun k => match k with
  | _ => .int
abbrev wsJ100 : List Cond := u_ws RJ10 TJ10 0
theorem nmJ10 : ∀ a, a < 0 → ∀ b, b < 0 → a ≠ b → (TJ10 a).2.1 ≠ (TJ10 b).2.1 := by decide +kernel
theorem tyJ10_ok : ∀ k, k < 0 → parseFieldDescriptor (TJ10 k).2.2.1 = some (tyJ10 k) := by decide +kernel
def RJxfd54e : String := "java/lang/constant/Constable"
def TJxfd54e : u_T := fun k => match k with
  | _ => ("", "", "", false)
def tyJxfd54e : Nat → FieldType := fun k => match k with
  | _ => .int
abbrev wsJxfd54e0 : List Cond := u_ws RJxfd54e TJxfd54e 0
theorem nmJxfd54e : ∀ a, a < 0 → ∀ b, b < 0 → a ≠ b → (TJxfd54e a).2.1 ≠ (TJxfd54e b).2.1 := by decide +kernel
theorem tyJxfd54e_ok : ∀ k, k < 0 → parseFieldDescriptor (TJxfd54e k).2.2.1 = some (tyJxfd54e k) := by decide +kernel
def RJx3cf43 : String := "java/lang/constant/ConstantDesc"
def TJx3cf43 : u_T := fun k => match k with
  | _ => ("", "", "", false)
def tyJx3cf43 : Nat → FieldType := fun k => match k with
  | _ => .int
abbrev wsJx3cf430 : List Cond := u_ws RJx3cf43 TJx3cf43 0
theorem nmJx3cf43 : ∀ a, a < 0 → ∀ b, b < 0 → a ≠ b → (TJx3cf43 a).2.1 ≠ (TJx3cf43 b).2.1 := by decide +kernel
theorem tyJx3cf43_ok : ∀ k, k < 0 → parseFieldDescriptor (TJx3cf43 k).2.2.1 = some (tyJx3cf43 k) := by decide +kernel
def RJxa1e45 : String := "java/util/AbstractCollection"
def TJxa1e45 : u_T := fun k => match k with
  | _ => ("", "", "", false)
def tyJxa1e45 : Nat → FieldType := fun k => match k with
  | _ => .int
abbrev wsJxa1e450 : List Cond := u_ws RJxa1e45 TJxa1e45 0
theorem nmJxa1e45 : ∀ a, a < 0 → ∀ b, b < 0 → a ≠ b → (TJxa1e45 a).2.1 ≠ (TJxa1e45 b).2.1 := by decide +kernel
theorem tyJxa1e45_ok : ∀ k, k < 0 → parseFieldDescriptor (TJxa1e45 k).2.2.1 = some (tyJxa1e45 k) := by decide +kernel
abbrev cJxa1e45_init_da8c8 : ByteArray := prog_29_method_1_code
def yJxa1e45_init_da8c8 : MethodName := ⟨RJxa1e45, "<init>", "()V"⟩
def RJxc12de : String := "java/util/AbstractList"
def TJxc12de : u_T := fun k => match k with
  | _ => ("", "", "", false)
def tyJxc12de : Nat → FieldType := fun k => match k with
  | _ => .int
abbrev wsJxc12de0 : List Cond := u_ws RJxc12de TJxc12de 0
theorem nmJxc12de : ∀ a, a < 0 → ∀ b, b < 0 → a ≠ b → (TJxc12de a).2.1 ≠ (TJxc12de b).2.1 := by decide +kernel
theorem tyJxc12de_ok : ∀ k, k < 0 → parseFieldDescriptor (TJxc12de k).2.2.1 = some (tyJxc12de k) := by decide +kernel
abbrev cJxc12de_init_da8c8 : ByteArray := prog_30_method_1_code
def yJxc12de_init_da8c8 : MethodName := ⟨RJxc12de, "<init>", "()V"⟩
def RJx4a65c : String := "java/util/ArrayList"
def TJx4a65c : u_T := fun k => match k with
  | 0 => ("java/util/AbstractList", "modCount", "I", false)
  | 1 => ("java/util/ArrayList", "elementData", "[Ljava/lang/Object;", false)
  | _ => ("java/util/ArrayList", "size", "I", false)
def tyJx4a65c : Nat → FieldType := fun k => match k with
  | 0 => .int
  | 1 => .array (.object "java/lang/Object")
  | _ => .int
abbrev wsJx4a65c0 : List Cond := u_ws RJx4a65c TJx4a65c 3
theorem nmJx4a65c : ∀ a, a < 3 → ∀ b, b < 3 → a ≠ b → (TJx4a65c a).2.1 ≠ (TJx4a65c b).2.1 := by decide +kernel
theorem tyJx4a65c_ok : ∀ k, k < 3 → parseFieldDescriptor (TJx4a65c k).2.2.1 = some (tyJx4a65c k) := by decide +kernel
abbrev cJx4a65c_init_da8c8 : ByteArray := prog_31_method_2_code
def yJx4a65c_init_da8c8 : MethodName := ⟨RJx4a65c, "<init>", "()V"⟩
abbrev cJx4a65c_grow_92f84 : ByteArray := prog_31_method_6_code
def yJx4a65c_grow_92f84 : MethodName := ⟨RJx4a65c, "grow", "(I)[Ljava/lang/Object;"⟩
abbrev cJx4a65c_grow_d5877 : ByteArray := prog_31_method_7_code
def yJx4a65c_grow_d5877 : MethodName := ⟨RJx4a65c, "grow", "()[Ljava/lang/Object;"⟩
abbrev cJx4a65c_size_8abf5 : ByteArray := prog_31_method_8_code
def yJx4a65c_size_8abf5 : MethodName := ⟨RJx4a65c, "size", "()I"⟩
abbrev cJx4a65c_elementData_915e3 : ByteArray := prog_31_method_18_code
def yJx4a65c_elementData_915e3 : MethodName := ⟨RJx4a65c, "elementData", "(I)Ljava/lang/Object;"⟩
abbrev cJx4a65c_get_915e3 : ByteArray := prog_31_method_20_code
def yJx4a65c_get_915e3 : MethodName := ⟨RJx4a65c, "get", "(I)Ljava/lang/Object;"⟩
abbrev cJx4a65c_add_72be8 : ByteArray := prog_31_method_24_code
def yJx4a65c_add_72be8 : MethodName := ⟨RJx4a65c, "add", "(Ljava/lang/Object;[Ljava/lang/Object;I)V"⟩
abbrev cJx4a65c_add_9ea2d : ByteArray := prog_31_method_25_code
def yJx4a65c_add_9ea2d : MethodName := ⟨RJx4a65c, "add", "(Ljava/lang/Object;)Z"⟩
abbrev cJx4a65c_clear_da8c8 : ByteArray := prog_31_method_40_code
def yJx4a65c_clear_da8c8 : MethodName := ⟨RJx4a65c, "clear", "()V"⟩
def RJ7 : String := "java/util/Arrays"
def TJ7 : u_T := fun k => match k with
  | _ => ("", "", "", false)
def tyJ7 : Nat → FieldType := fun k => match k with
  | _ => .int
abbrev wsJ70 : List Cond := u_ws RJ7 TJ7 0
theorem nmJ7 : ∀ a, a < 0 → ∀ b, b < 0 → a ≠ b → (TJ7 a).2.1 ≠ (TJ7 b).2.1 := by decide +kernel
theorem tyJ7_ok : ∀ k, k < 0 → parseFieldDescriptor (TJ7 k).2.2.1 = some (tyJ7 k) := by decide +kernel
abbrev cJ7_copyOf_1904c : ByteArray := prog_32_method_119_code
def yJ7_copyOf_1904c : MethodName := ⟨RJ7, "copyOf", "([Ljava/lang/Object;I)[Ljava/lang/Object;"⟩
abbrev cJ7_copyOf_6403c : ByteArray := prog_32_method_120_code
def yJ7_copyOf_6403c : MethodName := ⟨RJ7, "copyOf", "([Ljava/lang/Object;ILjava/lang/Class;)[Ljava/lang/Object;"⟩
def RJx5ef63 : String := "java/util/Collection"
def TJx5ef63 : u_T := fun k => match k with
  | _ => ("", "", "", false)
def tyJx5ef63 : Nat → FieldType := fun k => match k with
  | _ => .int
abbrev wsJx5ef630 : List Cond := u_ws RJx5ef63 TJx5ef63 0
theorem nmJx5ef63 : ∀ a, a < 0 → ∀ b, b < 0 → a ≠ b → (TJx5ef63 a).2.1 ≠ (TJx5ef63 b).2.1 := by decide +kernel
theorem tyJx5ef63_ok : ∀ k, k < 0 → parseFieldDescriptor (TJx5ef63 k).2.2.1 = some (tyJx5ef63 k) := by decide +kernel
def RJxbd725 : String := "java/util/List"
def TJxbd725 : u_T := fun k => match k with
  | _ => ("", "", "", false)
def tyJxbd725 : Nat → FieldType := fun k => match k with
  | _ => .int
abbrev wsJxbd7250 : List Cond := u_ws RJxbd725 TJxbd725 0
theorem nmJxbd725 : ∀ a, a < 0 → ∀ b, b < 0 → a ≠ b → (TJxbd725 a).2.1 ≠ (TJxbd725 b).2.1 := by decide +kernel
theorem tyJxbd725_ok : ∀ k, k < 0 → parseFieldDescriptor (TJxbd725 k).2.2.1 = some (tyJxbd725 k) := by decide +kernel
def RJ15 : String := "java/util/Objects"
def TJ15 : u_T := fun k => match k with
  | _ => ("", "", "", false)
def tyJ15 : Nat → FieldType := fun k => match k with
  | _ => .int
abbrev wsJ150 : List Cond := u_ws RJ15 TJ15 0
theorem nmJ15 : ∀ a, a < 0 → ∀ b, b < 0 → a ≠ b → (TJ15 a).2.1 ≠ (TJ15 b).2.1 := by decide +kernel
theorem tyJ15_ok : ∀ k, k < 0 → parseFieldDescriptor (TJ15 k).2.2.1 = some (tyJ15 k) := by decide +kernel
abbrev cJ15_checkIndex_7cf53 : ByteArray := prog_35_method_17_code
def yJ15_checkIndex_7cf53 : MethodName := ⟨RJ15, "checkIndex", "(II)I"⟩
def RJxf0a74 : String := "java/util/RandomAccess"
def TJxf0a74 : u_T := fun k => match k with
  | _ => ("", "", "", false)
def tyJxf0a74 : Nat → FieldType := fun k => match k with
  | _ => .int
abbrev wsJxf0a740 : List Cond := u_ws RJxf0a74 TJxf0a74 0
theorem nmJxf0a74 : ∀ a, a < 0 → ∀ b, b < 0 → a ≠ b → (TJxf0a74 a).2.1 ≠ (TJxf0a74 b).2.1 := by decide +kernel
theorem tyJxf0a74_ok : ∀ k, k < 0 → parseFieldDescriptor (TJxf0a74 k).2.2.1 = some (tyJxf0a74 k) := by decide +kernel
def RJxa66e6 : String := "java/util/SequencedCollection"
def TJxa66e6 : u_T := fun k => match k with
  | _ => ("", "", "", false)
def tyJxa66e6 : Nat → FieldType := fun k => match k with
  | _ => .int
abbrev wsJxa66e60 : List Cond := u_ws RJxa66e6 TJxa66e6 0
theorem nmJxa66e6 : ∀ a, a < 0 → ∀ b, b < 0 → a ≠ b → (TJxa66e6 a).2.1 ≠ (TJxa66e6 b).2.1 := by decide +kernel
theorem tyJxa66e6_ok : ∀ k, k < 0 → parseFieldDescriptor (TJxa66e6 k).2.2.1 = some (tyJxa66e6 k) := by decide +kernel
def RJ8 : String := "jdk/internal/util/ArraysSupport"
def TJ8 : u_T := fun k => match k with
  | _ => ("", "", "", false)
def tyJ8 : Nat → FieldType := fun k => match k with
  | _ => .int
abbrev wsJ80 : List Cond := u_ws RJ8 TJ8 0
theorem nmJ8 : ∀ a, a < 0 → ∀ b, b < 0 → a ≠ b → (TJ8 a).2.1 ≠ (TJ8 b).2.1 := by decide +kernel
theorem tyJ8_ok : ∀ k, k < 0 → parseFieldDescriptor (TJ8 k).2.2.1 = some (tyJ8 k) := by decide +kernel
abbrev cJ8_newLength_cabcc : ByteArray := prog_38_method_27_code
def yJ8_newLength_cabcc : MethodName := ⟨RJ8, "newLength", "(III)I"⟩
abbrev cJ8_hugeLength_7cf53 : ByteArray := prog_38_method_28_code
def yJ8_hugeLength_7cf53 : MethodName := ⟨RJ8, "hugeLength", "(II)I"⟩
def RJ3 : String := "jdk/internal/util/Preconditions"
def TJ3 : u_T := fun k => match k with
  | _ => ("", "", "", false)
def tyJ3 : Nat → FieldType := fun k => match k with
  | _ => .int
abbrev wsJ30 : List Cond := u_ws RJ3 TJ3 0
theorem nmJ3 : ∀ a, a < 0 → ∀ b, b < 0 → a ≠ b → (TJ3 a).2.1 ≠ (TJ3 b).2.1 := by decide +kernel
theorem tyJ3_ok : ∀ k, k < 0 → parseFieldDescriptor (TJ3 k).2.2.1 = some (tyJ3 k) := by decide +kernel
abbrev cJ3_checkIndex_8e157 : ByteArray := prog_39_method_11_code
def yJ3_checkIndex_8e157 : MethodName := ⟨RJ3, "checkIndex", "(IILjava/util/function/BiFunction;)I"⟩
def RL : String := "NamesNoTouchLaw"
abbrev cL_law : ByteArray := code
def yL_law : MethodName := ⟨RL, "law", "([I)Z"⟩
abbrev vwCl : List vw_C := [(RJx4a65c, TJx4a65c, 3), (RX0, TX0, 6), (RX1, TX1, 6), (RX2, TX2, 6), (RX3, TX3, 6), (RX4, TX4, 6), (RX5, TX5, 6), (RX6, TX6, 2), (RX7, TX7, 11), (RX8, TX8, 12), (RX9, TX9, 6), (RX10, TX10, 6), (RX11, TX11, 6), (RX12, TX12, 28)]
end
section
theorem dX0_init_0 : decode cX0_init 0 = .ok (.aload_n 0, 1) := by decide +kernel
theorem dX0_init_1 : decode cX0_init 1 = .ok (.aload_n 1, 1) := by decide +kernel
theorem dX0_init_2 : decode cX0_init 2 = .ok (.iload_n 2, 1) := by decide +kernel
theorem dX0_init_3 : decode cX0_init 3 = .ok (.iload_n 3, 1) := by decide +kernel
theorem dX0_init_4 : decode cX0_init 4 = .ok (.iload 4, 2) := by decide +kernel
theorem dX0_init_6 : decode cX0_init 6 = .ok (.iload 5, 2) := by decide +kernel
theorem dX0_init_8 : decode cX0_init 8 = .ok (.iload 6, 2) := by decide +kernel
theorem dX0_init_10 : decode cX0_init 10 = .ok (.invokespecial 3, 3) := by decide +kernel
theorem dX0_init_13 : decode cX0_init 13 = .ok (.return_, 1) := by decide +kernel
theorem dX0_kind_0 : decode cX0_kind 0 = .ok (.iconst 4, 1) := by decide +kernel
theorem dX0_kind_1 : decode cX0_kind 1 = .ok (.ireturn, 1) := by decide +kernel
theorem dX0_length_0 : decode cX0_length 0 = .ok (.aload_n 0, 1) := by decide +kernel
theorem dX0_length_1 : decode cX0_length 1 = .ok (.getfield 9, 3) := by decide +kernel
theorem dX0_length_4 : decode cX0_length 4 = .ok (.aload_n 0, 1) := by decide +kernel
theorem dX0_length_5 : decode cX0_length 5 = .ok (.getfield 9, 3) := by decide +kernel
theorem dX0_length_8 : decode cX0_length 8 = .ok (.iconst 2, 1) := by decide +kernel
theorem dX0_length_9 : decode cX0_length 9 = .ok (.idiv, 1) := by decide +kernel
theorem dX0_length_10 : decode cX0_length 10 = .ok (.iadd, 1) := by decide +kernel
theorem dX0_length_11 : decode cX0_length 11 = .ok (.iconst 1, 1) := by decide +kernel
theorem dX0_length_12 : decode cX0_length 12 = .ok (.iadd, 1) := by decide +kernel
theorem dX0_length_13 : decode cX0_length 13 = .ok (.ireturn, 1) := by decide +kernel
theorem dX0_mayBe_0 : decode cX0_mayBe 0 = .ok (.bipush 15, 2) := by decide +kernel
theorem dX0_mayBe_2 : decode cX0_mayBe 2 = .ok (.ireturn, 1) := by decide +kernel
theorem dX0_tells_0 : decode cX0_tells 0 = .ok (.aload_n 0, 1) := by decide +kernel
theorem dX0_tells_1 : decode cX0_tells 1 = .ok (.getfield 15, 3) := by decide +kernel
theorem dX0_tells_4 : decode cX0_tells 4 = .ok (.bipush 41, 2) := by decide +kernel
theorem dX0_tells_6 : decode cX0_tells 6 = .ok (.invokevirtual 19, 3) := by decide +kernel
theorem dX0_tells_9 : decode cX0_tells 9 = .ok (.aload_n 0, 1) := by decide +kernel
theorem dX0_tells_10 : decode cX0_tells 10 = .ok (.iload_n 1, 1) := by decide +kernel
theorem dX0_tells_11 : decode cX0_tells 11 = .ok (.iconst 1, 1) := by decide +kernel
theorem dX0_tells_12 : decode cX0_tells 12 = .ok (.isub, 1) := by decide +kernel
theorem dX0_tells_13 : decode cX0_tells 13 = .ok (.invokespecial 25, 3) := by decide +kernel
theorem dX0_tells_16 : decode cX0_tells 16 = .ok (.aload_n 0, 1) := by decide +kernel
theorem dX0_tells_17 : decode cX0_tells 17 = .ok (.iconst 2, 1) := by decide +kernel
theorem dX0_tells_18 : decode cX0_tells 18 = .ok (.invokevirtual 29, 3) := by decide +kernel
theorem dX0_tells_21 : decode cX0_tells 21 = .ok (.iadd, 1) := by decide +kernel
theorem dX0_tells_22 : decode cX0_tells 22 = .ok (.ireturn, 1) := by decide +kernel
theorem dX1_init_0 : decode cX1_init 0 = .ok (.aload_n 0, 1) := by decide +kernel
theorem dX1_init_1 : decode cX1_init 1 = .ok (.aload_n 1, 1) := by decide +kernel
theorem dX1_init_2 : decode cX1_init 2 = .ok (.iload_n 2, 1) := by decide +kernel
theorem dX1_init_3 : decode cX1_init 3 = .ok (.iload_n 3, 1) := by decide +kernel
theorem dX1_init_4 : decode cX1_init 4 = .ok (.iload 4, 2) := by decide +kernel
theorem dX1_init_6 : decode cX1_init 6 = .ok (.iload 5, 2) := by decide +kernel
theorem dX1_init_8 : decode cX1_init 8 = .ok (.iload 6, 2) := by decide +kernel
theorem dX1_init_10 : decode cX1_init 10 = .ok (.invokespecial 3, 3) := by decide +kernel
theorem dX1_init_13 : decode cX1_init 13 = .ok (.return_, 1) := by decide +kernel
theorem dX1_kind_0 : decode cX1_kind 0 = .ok (.iconst 2, 1) := by decide +kernel
theorem dX1_kind_1 : decode cX1_kind 1 = .ok (.ireturn, 1) := by decide +kernel
theorem dX1_mayBe_0 : decode cX1_mayBe 0 = .ok (.bipush 9, 2) := by decide +kernel
theorem dX1_mayBe_2 : decode cX1_mayBe 2 = .ok (.ireturn, 1) := by decide +kernel
theorem dX1_reads_0 : decode cX1_reads 0 = .ok (.aload_n 0, 1) := by decide +kernel
theorem dX1_reads_1 : decode cX1_reads 1 = .ok (.getfield 9, 3) := by decide +kernel
theorem dX1_reads_4 : decode cX1_reads 4 = .ok (.bipush 21, 2) := by decide +kernel
theorem dX1_reads_6 : decode cX1_reads 6 = .ok (.invokevirtual 15, 3) := by decide +kernel
theorem dX1_reads_9 : decode cX1_reads 9 = .ok (.aload_n 0, 1) := by decide +kernel
theorem dX1_reads_10 : decode cX1_reads 10 = .ok (.iload_n 1, 1) := by decide +kernel
theorem dX1_reads_11 : decode cX1_reads 11 = .ok (.invokespecial 21, 3) := by decide +kernel
theorem dX1_reads_14 : decode cX1_reads 14 = .ok (.ineg, 1) := by decide +kernel
theorem dX1_reads_15 : decode cX1_reads 15 = .ok (.ireturn, 1) := by decide +kernel
theorem dX2_init_0 : decode cX2_init 0 = .ok (.aload_n 0, 1) := by decide +kernel
theorem dX2_init_1 : decode cX2_init 1 = .ok (.aload_n 1, 1) := by decide +kernel
theorem dX2_init_2 : decode cX2_init 2 = .ok (.iload_n 2, 1) := by decide +kernel
theorem dX2_init_3 : decode cX2_init 3 = .ok (.iload_n 3, 1) := by decide +kernel
theorem dX2_init_4 : decode cX2_init 4 = .ok (.iload 4, 2) := by decide +kernel
theorem dX2_init_6 : decode cX2_init 6 = .ok (.iload 5, 2) := by decide +kernel
theorem dX2_init_8 : decode cX2_init 8 = .ok (.iload 6, 2) := by decide +kernel
theorem dX2_init_10 : decode cX2_init 10 = .ok (.invokespecial 3, 3) := by decide +kernel
theorem dX2_init_13 : decode cX2_init 13 = .ok (.return_, 1) := by decide +kernel
theorem dX2_kind_0 : decode cX2_kind 0 = .ok (.iconst 5, 1) := by decide +kernel
theorem dX2_kind_1 : decode cX2_kind 1 = .ok (.ireturn, 1) := by decide +kernel
theorem dX2_mayBe_0 : decode cX2_mayBe 0 = .ok (.iconst 1, 1) := by decide +kernel
theorem dX2_mayBe_1 : decode cX2_mayBe 1 = .ok (.ireturn, 1) := by decide +kernel
theorem dX2_lies_0 : decode cX2_lies 0 = .ok (.aload_n 0, 1) := by decide +kernel
theorem dX2_lies_1 : decode cX2_lies 1 = .ok (.getfield 9, 3) := by decide +kernel
theorem dX2_lies_4 : decode cX2_lies 4 = .ok (.bipush 51, 2) := by decide +kernel
theorem dX2_lies_6 : decode cX2_lies 6 = .ok (.invokevirtual 15, 3) := by decide +kernel
theorem dX2_lies_9 : decode cX2_lies 9 = .ok (.aload_n 0, 1) := by decide +kernel
theorem dX2_lies_10 : decode cX2_lies 10 = .ok (.iload_n 1, 1) := by decide +kernel
theorem dX2_lies_11 : decode cX2_lies 11 = .ok (.invokespecial 21, 3) := by decide +kernel
theorem dX2_lies_14 : decode cX2_lies 14 = .ok (.aload_n 0, 1) := by decide +kernel
theorem dX2_lies_15 : decode cX2_lies 15 = .ok (.getfield 25, 3) := by decide +kernel
theorem dX2_lies_18 : decode cX2_lies 18 = .ok (.ixor, 1) := by decide +kernel
theorem dX2_lies_19 : decode cX2_lies 19 = .ok (.ireturn, 1) := by decide +kernel
theorem dX3_init_0 : decode cX3_init 0 = .ok (.aload_n 0, 1) := by decide +kernel
theorem dX3_init_1 : decode cX3_init 1 = .ok (.aload_n 1, 1) := by decide +kernel
theorem dX3_init_2 : decode cX3_init 2 = .ok (.iload_n 2, 1) := by decide +kernel
theorem dX3_init_3 : decode cX3_init 3 = .ok (.iload_n 3, 1) := by decide +kernel
theorem dX3_init_4 : decode cX3_init 4 = .ok (.iload 4, 2) := by decide +kernel
theorem dX3_init_6 : decode cX3_init 6 = .ok (.iload 5, 2) := by decide +kernel
theorem dX3_init_8 : decode cX3_init 8 = .ok (.iload 6, 2) := by decide +kernel
theorem dX3_init_10 : decode cX3_init 10 = .ok (.invokespecial 3, 3) := by decide +kernel
theorem dX3_init_13 : decode cX3_init 13 = .ok (.return_, 1) := by decide +kernel
theorem dX3_kind_0 : decode cX3_kind 0 = .ok (.iconst 1, 1) := by decide +kernel
theorem dX3_kind_1 : decode cX3_kind 1 = .ok (.ireturn, 1) := by decide +kernel
theorem dX3_length_0 : decode cX3_length 0 = .ok (.aload_n 0, 1) := by decide +kernel
theorem dX3_length_1 : decode cX3_length 1 = .ok (.getfield 9, 3) := by decide +kernel
theorem dX3_length_4 : decode cX3_length 4 = .ok (.aload_n 0, 1) := by decide +kernel
theorem dX3_length_5 : decode cX3_length 5 = .ok (.getfield 9, 3) := by decide +kernel
theorem dX3_length_8 : decode cX3_length 8 = .ok (.iconst 2, 1) := by decide +kernel
theorem dX3_length_9 : decode cX3_length 9 = .ok (.idiv, 1) := by decide +kernel
theorem dX3_length_10 : decode cX3_length 10 = .ok (.iadd, 1) := by decide +kernel
theorem dX3_length_11 : decode cX3_length 11 = .ok (.ireturn, 1) := by decide +kernel
theorem dX3_mayBe_0 : decode cX3_mayBe 0 = .ok (.iconst 3, 1) := by decide +kernel
theorem dX3_mayBe_1 : decode cX3_mayBe 1 = .ok (.ireturn, 1) := by decide +kernel
theorem dX3_lies_0 : decode cX3_lies 0 = .ok (.aload_n 0, 1) := by decide +kernel
theorem dX3_lies_1 : decode cX3_lies 1 = .ok (.getfield 15, 3) := by decide +kernel
theorem dX3_lies_4 : decode cX3_lies 4 = .ok (.bipush 11, 2) := by decide +kernel
theorem dX3_lies_6 : decode cX3_lies 6 = .ok (.invokevirtual 19, 3) := by decide +kernel
theorem dX3_lies_9 : decode cX3_lies 9 = .ok (.aload_n 0, 1) := by decide +kernel
theorem dX3_lies_10 : decode cX3_lies 10 = .ok (.iload_n 1, 1) := by decide +kernel
theorem dX3_lies_11 : decode cX3_lies 11 = .ok (.iconst 3, 1) := by decide +kernel
theorem dX3_lies_12 : decode cX3_lies 12 = .ok (.imul, 1) := by decide +kernel
theorem dX3_lies_13 : decode cX3_lies 13 = .ok (.invokespecial 25, 3) := by decide +kernel
theorem dX3_lies_16 : decode cX3_lies 16 = .ok (.ireturn, 1) := by decide +kernel
theorem dX4_init_0 : decode cX4_init 0 = .ok (.aload_n 0, 1) := by decide +kernel
theorem dX4_init_1 : decode cX4_init 1 = .ok (.invokespecial 3, 3) := by decide +kernel
theorem dX4_init_4 : decode cX4_init 4 = .ok (.aload_n 0, 1) := by decide +kernel
theorem dX4_init_5 : decode cX4_init 5 = .ok (.aload_n 1, 1) := by decide +kernel
theorem dX4_init_6 : decode cX4_init 6 = .ok (.putfield 9, 3) := by decide +kernel
theorem dX4_init_9 : decode cX4_init 9 = .ok (.aload_n 0, 1) := by decide +kernel
theorem dX4_init_10 : decode cX4_init 10 = .ok (.iload_n 2, 1) := by decide +kernel
theorem dX4_init_11 : decode cX4_init 11 = .ok (.putfield 15, 3) := by decide +kernel
theorem dX4_init_14 : decode cX4_init 14 = .ok (.aload_n 0, 1) := by decide +kernel
theorem dX4_init_15 : decode cX4_init 15 = .ok (.iload_n 3, 1) := by decide +kernel
theorem dX4_init_16 : decode cX4_init 16 = .ok (.putfield 19, 3) := by decide +kernel
theorem dX4_init_19 : decode cX4_init 19 = .ok (.aload_n 0, 1) := by decide +kernel
theorem dX4_init_20 : decode cX4_init 20 = .ok (.iload 4, 2) := by decide +kernel
theorem dX4_init_22 : decode cX4_init 22 = .ok (.putfield 22, 3) := by decide +kernel
theorem dX4_init_25 : decode cX4_init 25 = .ok (.aload_n 0, 1) := by decide +kernel
theorem dX4_init_26 : decode cX4_init 26 = .ok (.iload 5, 2) := by decide +kernel
theorem dX4_init_28 : decode cX4_init 28 = .ok (.putfield 25, 3) := by decide +kernel
theorem dX4_init_31 : decode cX4_init 31 = .ok (.aload_n 0, 1) := by decide +kernel
theorem dX4_init_32 : decode cX4_init 32 = .ok (.iload 6, 2) := by decide +kernel
theorem dX4_init_34 : decode cX4_init 34 = .ok (.putfield 28, 3) := by decide +kernel
theorem dX4_init_37 : decode cX4_init 37 = .ok (.return_, 1) := by decide +kernel
theorem dX4_kind_0 : decode cX4_kind 0 = .ok (.iconst 0, 1) := by decide +kernel
theorem dX4_kind_1 : decode cX4_kind 1 = .ok (.ireturn, 1) := by decide +kernel
theorem dX4_length_0 : decode cX4_length 0 = .ok (.aload_n 0, 1) := by decide +kernel
theorem dX4_length_1 : decode cX4_length 1 = .ok (.getfield 22, 3) := by decide +kernel
theorem dX4_length_4 : decode cX4_length 4 = .ok (.ireturn, 1) := by decide +kernel
theorem dX4_mayBe_0 : decode cX4_mayBe 0 = .ok (.bipush 15, 2) := by decide +kernel
theorem dX4_mayBe_2 : decode cX4_mayBe 2 = .ok (.ireturn, 1) := by decide +kernel
theorem dX4_lies_0 : decode cX4_lies 0 = .ok (.aload_n 0, 1) := by decide +kernel
theorem dX4_lies_1 : decode cX4_lies 1 = .ok (.getfield 9, 3) := by decide +kernel
theorem dX4_lies_4 : decode cX4_lies 4 = .ok (.iconst 1, 1) := by decide +kernel
theorem dX4_lies_5 : decode cX4_lies 5 = .ok (.invokevirtual 31, 3) := by decide +kernel
theorem dX4_lies_8 : decode cX4_lies 8 = .ok (.iload_n 1, 1) := by decide +kernel
theorem dX4_lies_9 : decode cX4_lies 9 = .ok (.aload_n 0, 1) := by decide +kernel
theorem dX4_lies_10 : decode cX4_lies 10 = .ok (.getfield 15, 3) := by decide +kernel
theorem dX4_lies_13 : decode cX4_lies 13 = .ok (.iadd, 1) := by decide +kernel
theorem dX4_lies_14 : decode cX4_lies 14 = .ok (.ireturn, 1) := by decide +kernel
theorem dX4_reads_0 : decode cX4_reads 0 = .ok (.aload_n 0, 1) := by decide +kernel
theorem dX4_reads_1 : decode cX4_reads 1 = .ok (.getfield 9, 3) := by decide +kernel
theorem dX4_reads_4 : decode cX4_reads 4 = .ok (.iconst 2, 1) := by decide +kernel
theorem dX4_reads_5 : decode cX4_reads 5 = .ok (.invokevirtual 31, 3) := by decide +kernel
theorem dX4_reads_8 : decode cX4_reads 8 = .ok (.aload_n 0, 1) := by decide +kernel
theorem dX4_reads_9 : decode cX4_reads 9 = .ok (.iload_n 1, 1) := by decide +kernel
theorem dX4_reads_10 : decode cX4_reads 10 = .ok (.invokevirtual 37, 3) := by decide +kernel
theorem dX4_reads_13 : decode cX4_reads 13 = .ok (.aload_n 0, 1) := by decide +kernel
theorem dX4_reads_14 : decode cX4_reads 14 = .ok (.getfield 19, 3) := by decide +kernel
theorem dX4_reads_17 : decode cX4_reads 17 = .ok (.isub, 1) := by decide +kernel
theorem dX4_reads_18 : decode cX4_reads 18 = .ok (.ireturn, 1) := by decide +kernel
theorem dX4_tells_0 : decode cX4_tells 0 = .ok (.aload_n 0, 1) := by decide +kernel
theorem dX4_tells_1 : decode cX4_tells 1 = .ok (.getfield 9, 3) := by decide +kernel
theorem dX4_tells_4 : decode cX4_tells 4 = .ok (.iconst 3, 1) := by decide +kernel
theorem dX4_tells_5 : decode cX4_tells 5 = .ok (.invokevirtual 31, 3) := by decide +kernel
theorem dX4_tells_8 : decode cX4_tells 8 = .ok (.aload_n 0, 1) := by decide +kernel
theorem dX4_tells_9 : decode cX4_tells 9 = .ok (.iload_n 1, 1) := by decide +kernel
theorem dX4_tells_10 : decode cX4_tells 10 = .ok (.invokevirtual 41, 3) := by decide +kernel
theorem dX4_tells_13 : decode cX4_tells 13 = .ok (.iconst 2, 1) := by decide +kernel
theorem dX4_tells_14 : decode cX4_tells 14 = .ok (.imul, 1) := by decide +kernel
theorem dX4_tells_15 : decode cX4_tells 15 = .ok (.ireturn, 1) := by decide +kernel
theorem dX4_lineAt_0 : decode cX4_lineAt 0 = .ok (.iload_n 1, 1) := by decide +kernel
theorem dX4_lineAt_1 : decode cX4_lineAt 1 = .ok (.iconst 2, 1) := by decide +kernel
theorem dX4_lineAt_2 : decode cX4_lineAt 2 = .ok (.if_icmp .ne 10, 3) := by decide +kernel
theorem dX4_lineAt_5 : decode cX4_lineAt 5 = .ok (.aload_n 0, 1) := by decide +kernel
theorem dX4_lineAt_6 : decode cX4_lineAt 6 = .ok (.getfield 28, 3) := by decide +kernel
theorem dX4_lineAt_9 : decode cX4_lineAt 9 = .ok (.iconst 1, 1) := by decide +kernel
theorem dX4_lineAt_10 : decode cX4_lineAt 10 = .ok (.isub, 1) := by decide +kernel
theorem dX4_lineAt_11 : decode cX4_lineAt 11 = .ok (.ireturn, 1) := by decide +kernel
theorem dX4_lineAt_12 : decode cX4_lineAt 12 = .ok (.iload_n 1, 1) := by decide +kernel
theorem dX4_lineAt_13 : decode cX4_lineAt 13 = .ok (.iconst 3, 1) := by decide +kernel
theorem dX4_lineAt_14 : decode cX4_lineAt 14 = .ok (.if_icmp .ne 12, 3) := by decide +kernel
theorem dX4_lineAt_17 : decode cX4_lineAt 17 = .ok (.aload_n 0, 1) := by decide +kernel
theorem dX4_lineAt_18 : decode cX4_lineAt 18 = .ok (.getfield 28, 3) := by decide +kernel
theorem dX4_lineAt_21 : decode cX4_lineAt 21 = .ok (.iconst 1, 1) := by decide +kernel
theorem dX4_lineAt_22 : decode cX4_lineAt 22 = .ok (.iadd, 1) := by decide +kernel
theorem dX4_lineAt_23 : decode cX4_lineAt 23 = .ok (.goto 7, 3) := by decide +kernel
theorem dX4_lineAt_26 : decode cX4_lineAt 26 = .ok (.aload_n 0, 1) := by decide +kernel
theorem dX4_lineAt_27 : decode cX4_lineAt 27 = .ok (.getfield 28, 3) := by decide +kernel
theorem dX4_lineAt_30 : decode cX4_lineAt 30 = .ok (.ireturn, 1) := by decide +kernel
theorem dX4_startAt_0 : decode cX4_startAt 0 = .ok (.iload_n 1, 1) := by decide +kernel
theorem dX4_startAt_1 : decode cX4_startAt 1 = .ok (.ifCond .ne 10, 3) := by decide +kernel
theorem dX4_startAt_4 : decode cX4_startAt 4 = .ok (.aload_n 0, 1) := by decide +kernel
theorem dX4_startAt_5 : decode cX4_startAt 5 = .ok (.getfield 25, 3) := by decide +kernel
theorem dX4_startAt_8 : decode cX4_startAt 8 = .ok (.iconst 1, 1) := by decide +kernel
theorem dX4_startAt_9 : decode cX4_startAt 9 = .ok (.iadd, 1) := by decide +kernel
theorem dX4_startAt_10 : decode cX4_startAt 10 = .ok (.ireturn, 1) := by decide +kernel
theorem dX4_startAt_11 : decode cX4_startAt 11 = .ok (.iload_n 1, 1) := by decide +kernel
theorem dX4_startAt_12 : decode cX4_startAt 12 = .ok (.iconst 1, 1) := by decide +kernel
theorem dX4_startAt_13 : decode cX4_startAt 13 = .ok (.if_icmp .ne 12, 3) := by decide +kernel
theorem dX4_startAt_16 : decode cX4_startAt 16 = .ok (.aload_n 0, 1) := by decide +kernel
theorem dX4_startAt_17 : decode cX4_startAt 17 = .ok (.getfield 25, 3) := by decide +kernel
theorem dX4_startAt_20 : decode cX4_startAt 20 = .ok (.iload_n 2, 1) := by decide +kernel
theorem dX4_startAt_21 : decode cX4_startAt 21 = .ok (.isub, 1) := by decide +kernel
theorem dX4_startAt_22 : decode cX4_startAt 22 = .ok (.goto 7, 3) := by decide +kernel
theorem dX4_startAt_25 : decode cX4_startAt 25 = .ok (.aload_n 0, 1) := by decide +kernel
theorem dX4_startAt_26 : decode cX4_startAt 26 = .ok (.getfield 25, 3) := by decide +kernel
theorem dX4_startAt_29 : decode cX4_startAt 29 = .ok (.ireturn, 1) := by decide +kernel
theorem dX4_cells_0 : decode cX4_cells 0 = .ok (.aload_n 0, 1) := by decide +kernel
theorem dX4_cells_1 : decode cX4_cells 1 = .ok (.iload_n 2, 1) := by decide +kernel
theorem dX4_cells_2 : decode cX4_cells 2 = .ok (.invokevirtual 44, 3) := by decide +kernel
theorem dX4_cells_5 : decode cX4_cells 5 = .ok (.istore_n 3, 1) := by decide +kernel
theorem dX4_cells_6 : decode cX4_cells 6 = .ok (.lconst 1, 1) := by decide +kernel
theorem dX4_cells_7 : decode cX4_cells 7 = .ok (.iload_n 3, 1) := by decide +kernel
theorem dX4_cells_8 : decode cX4_cells 8 = .ok (.lshl, 1) := by decide +kernel
theorem dX4_cells_9 : decode cX4_cells 9 = .ok (.lconst 1, 1) := by decide +kernel
theorem dX4_cells_10 : decode cX4_cells 10 = .ok (.lsub, 1) := by decide +kernel
theorem dX4_cells_11 : decode cX4_cells 11 = .ok (.aload_n 0, 1) := by decide +kernel
theorem dX4_cells_12 : decode cX4_cells 12 = .ok (.iload_n 1, 1) := by decide +kernel
theorem dX4_cells_13 : decode cX4_cells 13 = .ok (.iload_n 3, 1) := by decide +kernel
theorem dX4_cells_14 : decode cX4_cells 14 = .ok (.invokevirtual 47, 3) := by decide +kernel
theorem dX4_cells_17 : decode cX4_cells 17 = .ok (.bipush (-14), 2) := by decide +kernel
theorem dX4_cells_19 : decode cX4_cells 19 = .ok (.isub, 1) := by decide +kernel
theorem dX4_cells_20 : decode cX4_cells 20 = .ok (.lshl, 1) := by decide +kernel
theorem dX4_cells_21 : decode cX4_cells 21 = .ok (.lreturn, 1) := by decide +kernel
theorem dX4_covers_0 : decode cX4_covers 0 = .ok (.aload_n 0, 1) := by decide +kernel
theorem dX4_covers_1 : decode cX4_covers 1 = .ok (.iload_n 1, 1) := by decide +kernel
theorem dX4_covers_2 : decode cX4_covers 2 = .ok (.invokevirtual 51, 3) := by decide +kernel
theorem dX4_covers_5 : decode cX4_covers 5 = .ok (.iload 4, 2) := by decide +kernel
theorem dX4_covers_7 : decode cX4_covers 7 = .ok (.if_icmp .ne 25, 3) := by decide +kernel
theorem dX4_covers_10 : decode cX4_covers 10 = .ok (.aload_n 0, 1) := by decide +kernel
theorem dX4_covers_11 : decode cX4_covers 11 = .ok (.iload_n 1, 1) := by decide +kernel
theorem dX4_covers_12 : decode cX4_covers 12 = .ok (.iload_n 2, 1) := by decide +kernel
theorem dX4_covers_13 : decode cX4_covers 13 = .ok (.invokevirtual 54, 3) := by decide +kernel
theorem dX4_covers_16 : decode cX4_covers 16 = .ok (.iload_n 3, 1) := by decide +kernel
theorem dX4_covers_17 : decode cX4_covers 17 = .ok (.bipush (-14), 2) := by decide +kernel
theorem dX4_covers_19 : decode cX4_covers 19 = .ok (.isub, 1) := by decide +kernel
theorem dX4_covers_20 : decode cX4_covers 20 = .ok (.lshr, 1) := by decide +kernel
theorem dX4_covers_21 : decode cX4_covers 21 = .ok (.lconst 1, 1) := by decide +kernel
theorem dX4_covers_22 : decode cX4_covers 22 = .ok (.land, 1) := by decide +kernel
theorem dX4_covers_23 : decode cX4_covers 23 = .ok (.lconst 0, 1) := by decide +kernel
theorem dX4_covers_24 : decode cX4_covers 24 = .ok (.lcmp, 1) := by decide +kernel
theorem dX4_covers_25 : decode cX4_covers 25 = .ok (.ifCond .eq 7, 3) := by decide +kernel
theorem dX4_covers_28 : decode cX4_covers 28 = .ok (.iconst 1, 1) := by decide +kernel
theorem dX4_covers_29 : decode cX4_covers 29 = .ok (.goto 4, 3) := by decide +kernel
theorem dX4_covers_32 : decode cX4_covers 32 = .ok (.iconst 0, 1) := by decide +kernel
theorem dX4_covers_33 : decode cX4_covers 33 = .ok (.ireturn, 1) := by decide +kernel
theorem dX5_init_0 : decode cX5_init 0 = .ok (.aload_n 0, 1) := by decide +kernel
theorem dX5_init_1 : decode cX5_init 1 = .ok (.invokespecial 3, 3) := by decide +kernel
theorem dX5_init_4 : decode cX5_init 4 = .ok (.aload_n 0, 1) := by decide +kernel
theorem dX5_init_5 : decode cX5_init 5 = .ok (.new 9, 3) := by decide +kernel
theorem dX5_init_8 : decode cX5_init 8 = .ok (.dup, 1) := by decide +kernel
theorem dX5_init_9 : decode cX5_init 9 = .ok (.bipush 100, 2) := by decide +kernel
theorem dX5_init_11 : decode cX5_init 11 = .ok (.invokespecial 11, 3) := by decide +kernel
theorem dX5_init_14 : decode cX5_init 14 = .ok (.putfield 14, 3) := by decide +kernel
theorem dX5_init_17 : decode cX5_init 17 = .ok (.aload_n 0, 1) := by decide +kernel
theorem dX5_init_18 : decode cX5_init 18 = .ok (.aload_n 1, 1) := by decide +kernel
theorem dX5_init_19 : decode cX5_init 19 = .ok (.putfield 20, 3) := by decide +kernel
theorem dX5_init_22 : decode cX5_init 22 = .ok (.return_, 1) := by decide +kernel
theorem dX5_read_0 : decode cX5_read 0 = .ok (.aload_n 0, 1) := by decide +kernel
theorem dX5_read_1 : decode cX5_read 1 = .ok (.iconst 0, 1) := by decide +kernel
theorem dX5_read_2 : decode cX5_read 2 = .ok (.putfield 23, 3) := by decide +kernel
theorem dX5_read_5 : decode cX5_read 5 = .ok (.aload_n 0, 1) := by decide +kernel
theorem dX5_read_6 : decode cX5_read 6 = .ok (.bipush 24, 2) := by decide +kernel
theorem dX5_read_8 : decode cX5_read 8 = .ok (.putfield 27, 3) := by decide +kernel
theorem dX5_read_11 : decode cX5_read 11 = .ok (.aload_n 0, 1) := by decide +kernel
theorem dX5_read_12 : decode cX5_read 12 = .ok (.bipush 99, 2) := by decide +kernel
theorem dX5_read_14 : decode cX5_read 14 = .ok (.putfield 30, 3) := by decide +kernel
theorem dX5_read_17 : decode cX5_read 17 = .ok (.aload_n 0, 1) := by decide +kernel
theorem dX5_read_18 : decode cX5_read 18 = .ok (.getfield 14, 3) := by decide +kernel
theorem dX5_read_21 : decode cX5_read 21 = .ok (.invokevirtual 33, 3) := by decide +kernel
theorem dX5_read_24 : decode cX5_read 24 = .ok (.iconst 1, 1) := by decide +kernel
theorem dX5_read_25 : decode cX5_read 25 = .ok (.istore_n 1, 1) := by decide +kernel
theorem dX5_read_26 : decode cX5_read 26 = .ok (.iload_n 1, 1) := by decide +kernel
theorem dX5_read_27 : decode cX5_read 27 = .ok (.bipush 10, 2) := by decide +kernel
theorem dX5_read_29 : decode cX5_read 29 = .ok (.if_icmp .gt 51, 3) := by decide +kernel
theorem dX5_read_32 : decode cX5_read 32 = .ok (.aload_n 0, 1) := by decide +kernel
theorem dX5_read_33 : decode cX5_read 33 = .ok (.invokevirtual 36, 3) := by decide +kernel
theorem dX5_read_36 : decode cX5_read 36 = .ok (.ifCond .ne 5, 3) := by decide +kernel
theorem dX5_read_39 : decode cX5_read 39 = .ok (.iconst 0, 1) := by decide +kernel
theorem dX5_read_40 : decode cX5_read 40 = .ok (.ireturn, 1) := by decide +kernel
theorem dX5_read_41 : decode cX5_read 41 = .ok (.aload_n 0, 1) := by decide +kernel
theorem dX5_read_42 : decode cX5_read 42 = .ok (.getfield 23, 3) := by decide +kernel
theorem dX5_read_45 : decode cX5_read 45 = .ok (.aload_n 0, 1) := by decide +kernel
theorem dX5_read_46 : decode cX5_read 46 = .ok (.getfield 20, 3) := by decide +kernel
theorem dX5_read_49 : decode cX5_read 49 = .ok (.invokevirtual 40, 3) := by decide +kernel
theorem dX5_read_52 : decode cX5_read 52 = .ok (.if_icmp .lt 5, 3) := by decide +kernel
theorem dX5_read_55 : decode cX5_read 55 = .ok (.iconst 1, 1) := by decide +kernel
theorem dX5_read_56 : decode cX5_read 56 = .ok (.ireturn, 1) := by decide +kernel
theorem dX5_read_57 : decode cX5_read 57 = .ok (.iload_n 1, 1) := by decide +kernel
theorem dX5_read_58 : decode cX5_read 58 = .ok (.bipush 10, 2) := by decide +kernel
theorem dX5_read_60 : decode cX5_read 60 = .ok (.if_icmp .eq 12, 3) := by decide +kernel
theorem dX5_read_63 : decode cX5_read 63 = .ok (.aload_n 0, 1) := by decide +kernel
theorem dX5_read_64 : decode cX5_read 64 = .ok (.bipush 59, 2) := by decide +kernel
theorem dX5_read_66 : decode cX5_read 66 = .ok (.invokevirtual 44, 3) := by decide +kernel
theorem dX5_read_69 : decode cX5_read 69 = .ok (.ifCond .ne 5, 3) := by decide +kernel
theorem dX5_read_72 : decode cX5_read 72 = .ok (.iconst 0, 1) := by decide +kernel
theorem dX5_read_73 : decode cX5_read 73 = .ok (.ireturn, 1) := by decide +kernel
theorem dX5_read_74 : decode cX5_read 74 = .ok (.iinc 1 1, 3) := by decide +kernel
theorem dX5_read_77 : decode cX5_read 77 = .ok (.goto (-51), 3) := by decide +kernel
theorem dX5_read_80 : decode cX5_read 80 = .ok (.iconst 0, 1) := by decide +kernel
theorem dX5_read_81 : decode cX5_read 81 = .ok (.ireturn, 1) := by decide +kernel
theorem dX5_readsClause_0 : decode cX5_readsClause 0 = .ok (.aload_n 0, 1) := by decide +kernel
theorem dX5_readsClause_1 : decode cX5_readsClause 1 = .ok (.invokevirtual 48, 3) := by decide +kernel
theorem dX5_readsClause_4 : decode cX5_readsClause 4 = .ok (.istore_n 1, 1) := by decide +kernel
theorem dX5_readsClause_5 : decode cX5_readsClause 5 = .ok (.iload_n 1, 1) := by decide +kernel
theorem dX5_readsClause_6 : decode cX5_readsClause 6 = .ok (.bipush 119, 2) := by decide +kernel
theorem dX5_readsClause_8 : decode cX5_readsClause 8 = .ok (.if_icmp .eq 9, 3) := by decide +kernel
theorem dX5_readsClause_11 : decode cX5_readsClause 11 = .ok (.iload_n 1, 1) := by decide +kernel
theorem dX5_readsClause_12 : decode cX5_readsClause 12 = .ok (.bipush 114, 2) := by decide +kernel
theorem dX5_readsClause_14 : decode cX5_readsClause 14 = .ok (.if_icmp .ne 19, 3) := by decide +kernel
theorem dX5_readsClause_17 : decode cX5_readsClause 17 = .ok (.aload_n 0, 1) := by decide +kernel
theorem dX5_readsClause_18 : decode cX5_readsClause 18 = .ok (.iload_n 1, 1) := by decide +kernel
theorem dX5_readsClause_19 : decode cX5_readsClause 19 = .ok (.bipush 119, 2) := by decide +kernel
theorem dX5_readsClause_21 : decode cX5_readsClause 21 = .ok (.if_icmp .ne 7, 3) := by decide +kernel
theorem dX5_readsClause_24 : decode cX5_readsClause 24 = .ok (.iconst 1, 1) := by decide +kernel
theorem dX5_readsClause_25 : decode cX5_readsClause 25 = .ok (.goto 4, 3) := by decide +kernel
theorem dX5_readsClause_28 : decode cX5_readsClause 28 = .ok (.iconst 0, 1) := by decide +kernel
theorem dX5_readsClause_29 : decode cX5_readsClause 29 = .ok (.invokevirtual 51, 3) := by decide +kernel
theorem dX5_readsClause_32 : decode cX5_readsClause 32 = .ok (.ireturn, 1) := by decide +kernel
theorem dX5_readsClause_33 : decode cX5_readsClause 33 = .ok (.iload_n 1, 1) := by decide +kernel
theorem dX5_readsClause_34 : decode cX5_readsClause 34 = .ok (.bipush 108, 2) := by decide +kernel
theorem dX5_readsClause_36 : decode cX5_readsClause 36 = .ok (.if_icmp .ne 7, 3) := by decide +kernel
theorem dX5_readsClause_39 : decode cX5_readsClause 39 = .ok (.iconst 1, 1) := by decide +kernel
theorem dX5_readsClause_40 : decode cX5_readsClause 40 = .ok (.goto 4, 3) := by decide +kernel
theorem dX5_readsClause_43 : decode cX5_readsClause 43 = .ok (.iconst 0, 1) := by decide +kernel
theorem dX5_readsClause_44 : decode cX5_readsClause 44 = .ok (.istore_n 2, 1) := by decide +kernel
theorem dX5_readsClause_45 : decode cX5_readsClause 45 = .ok (.aload_n 0, 1) := by decide +kernel
theorem dX5_readsClause_46 : decode cX5_readsClause 46 = .ok (.iload_n 2, 1) := by decide +kernel
theorem dX5_readsClause_47 : decode cX5_readsClause 47 = .ok (.ifCond .eq 8, 3) := by decide +kernel
theorem dX5_readsClause_50 : decode cX5_readsClause 50 = .ok (.ldc 55, 2) := by decide +kernel
theorem dX5_readsClause_52 : decode cX5_readsClause 52 = .ok (.goto 5, 3) := by decide +kernel
theorem dX5_readsClause_55 : decode cX5_readsClause 55 = .ok (.ldc 57, 2) := by decide +kernel
theorem dX5_readsClause_57 : decode cX5_readsClause 57 = .ok (.invokevirtual 59, 3) := by decide +kernel
theorem dX5_readsClause_60 : decode cX5_readsClause 60 = .ok (.ifCond .eq 10, 3) := by decide +kernel
theorem dX5_readsClause_63 : decode cX5_readsClause 63 = .ok (.aload_n 0, 1) := by decide +kernel
theorem dX5_readsClause_64 : decode cX5_readsClause 64 = .ok (.invokevirtual 63, 3) := by decide +kernel
theorem dX5_readsClause_67 : decode cX5_readsClause 67 = .ok (.ifCond .ne 5, 3) := by decide +kernel
theorem dX5_readsClause_70 : decode cX5_readsClause 70 = .ok (.iconst 0, 1) := by decide +kernel
theorem dX5_readsClause_71 : decode cX5_readsClause 71 = .ok (.ireturn, 1) := by decide +kernel
theorem dX5_readsClause_72 : decode cX5_readsClause 72 = .ok (.iload_n 2, 1) := by decide +kernel
theorem dX5_readsClause_73 : decode cX5_readsClause 73 = .ok (.ifCond .eq 9, 3) := by decide +kernel
theorem dX5_readsClause_76 : decode cX5_readsClause 76 = .ok (.sipush 10000, 3) := by decide +kernel
theorem dX5_readsClause_79 : decode cX5_readsClause 79 = .ok (.goto 6, 3) := by decide +kernel
theorem dX5_readsClause_82 : decode cX5_readsClause 82 = .ok (.sipush 20000, 3) := by decide +kernel
theorem dX5_readsClause_85 : decode cX5_readsClause 85 = .ok (.aload_n 0, 1) := by decide +kernel
theorem dX5_readsClause_86 : decode cX5_readsClause 86 = .ok (.getfield 66, 3) := by decide +kernel
theorem dX5_readsClause_89 : decode cX5_readsClause 89 = .ok (.iadd, 1) := by decide +kernel
theorem dX5_readsClause_90 : decode cX5_readsClause 90 = .ok (.istore_n 3, 1) := by decide +kernel
theorem dX5_readsClause_91 : decode cX5_readsClause 91 = .ok (.aload_n 0, 1) := by decide +kernel
theorem dX5_readsClause_92 : decode cX5_readsClause 92 = .ok (.bipush 32, 2) := by decide +kernel
theorem dX5_readsClause_94 : decode cX5_readsClause 94 = .ok (.invokevirtual 44, 3) := by decide +kernel
theorem dX5_readsClause_97 : decode cX5_readsClause 97 = .ok (.ifCond .eq 11, 3) := by decide +kernel
theorem dX5_readsClause_100 : decode cX5_readsClause 100 = .ok (.aload_n 0, 1) := by decide +kernel
theorem dX5_readsClause_101 : decode cX5_readsClause 101 = .ok (.iconst 0, 1) := by decide +kernel
theorem dX5_readsClause_102 : decode cX5_readsClause 102 = .ok (.invokevirtual 69, 3) := by decide +kernel
theorem dX5_readsClause_105 : decode cX5_readsClause 105 = .ok (.ifCond .ne 5, 3) := by decide +kernel
theorem dX5_readsClause_108 : decode cX5_readsClause 108 = .ok (.iconst 0, 1) := by decide +kernel
theorem dX5_readsClause_109 : decode cX5_readsClause 109 = .ok (.ireturn, 1) := by decide +kernel
theorem dX5_readsClause_110 : decode cX5_readsClause 110 = .ok (.aload_n 0, 1) := by decide +kernel
theorem dX5_readsClause_111 : decode cX5_readsClause 111 = .ok (.getfield 14, 3) := by decide +kernel
theorem dX5_readsClause_114 : decode cX5_readsClause 114 = .ok (.iload_n 3, 1) := by decide +kernel
theorem dX5_readsClause_115 : decode cX5_readsClause 115 = .ok (.invokevirtual 72, 3) := by decide +kernel
theorem dX5_readsClause_118 : decode cX5_readsClause 118 = .ok (.iconst 1, 1) := by decide +kernel
theorem dX5_readsClause_119 : decode cX5_readsClause 119 = .ok (.ireturn, 1) := by decide +kernel
theorem dX5_readsMeasure_0 : decode cX5_readsMeasure 0 = .ok (.aload_n 0, 1) := by decide +kernel
theorem dX5_readsMeasure_1 : decode cX5_readsMeasure 1 = .ok (.iload_n 1, 1) := by decide +kernel
theorem dX5_readsMeasure_2 : decode cX5_readsMeasure 2 = .ok (.ifCond .eq 8, 3) := by decide +kernel
theorem dX5_readsMeasure_5 : decode cX5_readsMeasure 5 = .ok (.ldc 75, 2) := by decide +kernel
theorem dX5_readsMeasure_7 : decode cX5_readsMeasure 7 = .ok (.goto 5, 3) := by decide +kernel
theorem dX5_readsMeasure_10 : decode cX5_readsMeasure 10 = .ok (.ldc 77, 2) := by decide +kernel
theorem dX5_readsMeasure_12 : decode cX5_readsMeasure 12 = .ok (.invokevirtual 59, 3) := by decide +kernel
theorem dX5_readsMeasure_15 : decode cX5_readsMeasure 15 = .ok (.ifCond .eq 10, 3) := by decide +kernel
theorem dX5_readsMeasure_18 : decode cX5_readsMeasure 18 = .ok (.aload_n 0, 1) := by decide +kernel
theorem dX5_readsMeasure_19 : decode cX5_readsMeasure 19 = .ok (.invokevirtual 63, 3) := by decide +kernel
theorem dX5_readsMeasure_22 : decode cX5_readsMeasure 22 = .ok (.ifCond .ne 5, 3) := by decide +kernel
theorem dX5_readsMeasure_25 : decode cX5_readsMeasure 25 = .ok (.iconst 0, 1) := by decide +kernel
theorem dX5_readsMeasure_26 : decode cX5_readsMeasure 26 = .ok (.ireturn, 1) := by decide +kernel
theorem dX5_readsMeasure_27 : decode cX5_readsMeasure 27 = .ok (.iload_n 1, 1) := by decide +kernel
theorem dX5_readsMeasure_28 : decode cX5_readsMeasure 28 = .ok (.ifCond .eq 24, 3) := by decide +kernel
theorem dX5_readsMeasure_31 : decode cX5_readsMeasure 31 = .ok (.aload_n 0, 1) := by decide +kernel
theorem dX5_readsMeasure_32 : decode cX5_readsMeasure 32 = .ok (.bipush 10, 2) := by decide +kernel
theorem dX5_readsMeasure_34 : decode cX5_readsMeasure 34 = .ok (.bipush 30, 2) := by decide +kernel
theorem dX5_readsMeasure_36 : decode cX5_readsMeasure 36 = .ok (.aload_n 0, 1) := by decide +kernel
theorem dX5_readsMeasure_37 : decode cX5_readsMeasure 37 = .ok (.getfield 66, 3) := by decide +kernel
theorem dX5_readsMeasure_40 : decode cX5_readsMeasure 40 = .ok (.invokestatic 79, 3) := by decide +kernel
theorem dX5_readsMeasure_43 : decode cX5_readsMeasure 43 = .ok (.invokestatic 85, 3) := by decide +kernel
theorem dX5_readsMeasure_46 : decode cX5_readsMeasure 46 = .ok (.putfield 27, 3) := by decide +kernel
theorem dX5_readsMeasure_49 : decode cX5_readsMeasure 49 = .ok (.goto 11, 3) := by decide +kernel
theorem dX5_readsMeasure_52 : decode cX5_readsMeasure 52 = .ok (.aload_n 0, 1) := by decide +kernel
theorem dX5_readsMeasure_53 : decode cX5_readsMeasure 53 = .ok (.aload_n 0, 1) := by decide +kernel
theorem dX5_readsMeasure_54 : decode cX5_readsMeasure 54 = .ok (.getfield 66, 3) := by decide +kernel
theorem dX5_readsMeasure_57 : decode cX5_readsMeasure 57 = .ok (.putfield 30, 3) := by decide +kernel
theorem dX5_readsMeasure_60 : decode cX5_readsMeasure 60 = .ok (.iconst 1, 1) := by decide +kernel
theorem dX5_readsMeasure_61 : decode cX5_readsMeasure 61 = .ok (.ireturn, 1) := by decide +kernel
theorem dX5_readsEither_0 : decode cX5_readsEither 0 = .ok (.aload_n 0, 1) := by decide +kernel
theorem dX5_readsEither_1 : decode cX5_readsEither 1 = .ok (.iload_n 1, 1) := by decide +kernel
theorem dX5_readsEither_2 : decode cX5_readsEither 2 = .ok (.invokevirtual 88, 3) := by decide +kernel
theorem dX5_readsEither_5 : decode cX5_readsEither 5 = .ok (.ifCond .ne 5, 3) := by decide +kernel
theorem dX5_readsEither_8 : decode cX5_readsEither 8 = .ok (.iconst 0, 1) := by decide +kernel
theorem dX5_readsEither_9 : decode cX5_readsEither 9 = .ok (.ireturn, 1) := by decide +kernel
theorem dX5_readsEither_10 : decode cX5_readsEither 10 = .ok (.iconst 0, 1) := by decide +kernel
theorem dX5_readsEither_11 : decode cX5_readsEither 11 = .ok (.istore_n 2, 1) := by decide +kernel
theorem dX5_readsEither_12 : decode cX5_readsEither 12 = .ok (.iload_n 2, 1) := by decide +kernel
theorem dX5_readsEither_13 : decode cX5_readsEither 13 = .ok (.bipush 100, 2) := by decide +kernel
theorem dX5_readsEither_15 : decode cX5_readsEither 15 = .ok (.if_icmp .ge 36, 3) := by decide +kernel
theorem dX5_readsEither_18 : decode cX5_readsEither 18 = .ok (.aload_n 0, 1) := by decide +kernel
theorem dX5_readsEither_19 : decode cX5_readsEither 19 = .ok (.bipush 124, 2) := by decide +kernel
theorem dX5_readsEither_21 : decode cX5_readsEither 21 = .ok (.invokevirtual 44, 3) := by decide +kernel
theorem dX5_readsEither_24 : decode cX5_readsEither 24 = .ok (.ifCond .eq 27, 3) := by decide +kernel
theorem dX5_readsEither_27 : decode cX5_readsEither 27 = .ok (.aload_n 0, 1) := by decide +kernel
theorem dX5_readsEither_28 : decode cX5_readsEither 28 = .ok (.iload_n 1, 1) := by decide +kernel
theorem dX5_readsEither_29 : decode cX5_readsEither 29 = .ok (.invokevirtual 88, 3) := by decide +kernel
theorem dX5_readsEither_32 : decode cX5_readsEither 32 = .ok (.ifCond .ne 5, 3) := by decide +kernel
theorem dX5_readsEither_35 : decode cX5_readsEither 35 = .ok (.iconst 0, 1) := by decide +kernel
theorem dX5_readsEither_36 : decode cX5_readsEither 36 = .ok (.ireturn, 1) := by decide +kernel
theorem dX5_readsEither_37 : decode cX5_readsEither 37 = .ok (.aload_n 0, 1) := by decide +kernel
theorem dX5_readsEither_38 : decode cX5_readsEither 38 = .ok (.getfield 14, 3) := by decide +kernel
theorem dX5_readsEither_41 : decode cX5_readsEither 41 = .ok (.iconst 3, 1) := by decide +kernel
theorem dX5_readsEither_42 : decode cX5_readsEither 42 = .ok (.invokevirtual 72, 3) := by decide +kernel
theorem dX5_readsEither_45 : decode cX5_readsEither 45 = .ok (.iinc 2 1, 3) := by decide +kernel
theorem dX5_readsEither_48 : decode cX5_readsEither 48 = .ok (.goto (-36), 3) := by decide +kernel
theorem dX5_readsEither_51 : decode cX5_readsEither 51 = .ok (.iconst 1, 1) := by decide +kernel
theorem dX5_readsEither_52 : decode cX5_readsEither 52 = .ok (.ireturn, 1) := by decide +kernel
theorem dX5_readsBoth_0 : decode cX5_readsBoth 0 = .ok (.aload_n 0, 1) := by decide +kernel
theorem dX5_readsBoth_1 : decode cX5_readsBoth 1 = .ok (.iload_n 1, 1) := by decide +kernel
theorem dX5_readsBoth_2 : decode cX5_readsBoth 2 = .ok (.invokevirtual 91, 3) := by decide +kernel
theorem dX5_readsBoth_5 : decode cX5_readsBoth 5 = .ok (.ifCond .ne 5, 3) := by decide +kernel
theorem dX5_readsBoth_8 : decode cX5_readsBoth 8 = .ok (.iconst 0, 1) := by decide +kernel
theorem dX5_readsBoth_9 : decode cX5_readsBoth 9 = .ok (.ireturn, 1) := by decide +kernel
theorem dX5_readsBoth_10 : decode cX5_readsBoth 10 = .ok (.iconst 0, 1) := by decide +kernel
theorem dX5_readsBoth_11 : decode cX5_readsBoth 11 = .ok (.istore_n 2, 1) := by decide +kernel
theorem dX5_readsBoth_12 : decode cX5_readsBoth 12 = .ok (.iload_n 2, 1) := by decide +kernel
theorem dX5_readsBoth_13 : decode cX5_readsBoth 13 = .ok (.bipush 100, 2) := by decide +kernel
theorem dX5_readsBoth_15 : decode cX5_readsBoth 15 = .ok (.if_icmp .ge 36, 3) := by decide +kernel
theorem dX5_readsBoth_18 : decode cX5_readsBoth 18 = .ok (.aload_n 0, 1) := by decide +kernel
theorem dX5_readsBoth_19 : decode cX5_readsBoth 19 = .ok (.bipush 38, 2) := by decide +kernel
theorem dX5_readsBoth_21 : decode cX5_readsBoth 21 = .ok (.invokevirtual 44, 3) := by decide +kernel
theorem dX5_readsBoth_24 : decode cX5_readsBoth 24 = .ok (.ifCond .eq 27, 3) := by decide +kernel
theorem dX5_readsBoth_27 : decode cX5_readsBoth 27 = .ok (.aload_n 0, 1) := by decide +kernel
theorem dX5_readsBoth_28 : decode cX5_readsBoth 28 = .ok (.iload_n 1, 1) := by decide +kernel
theorem dX5_readsBoth_29 : decode cX5_readsBoth 29 = .ok (.invokevirtual 91, 3) := by decide +kernel
theorem dX5_readsBoth_32 : decode cX5_readsBoth 32 = .ok (.ifCond .ne 5, 3) := by decide +kernel
theorem dX5_readsBoth_35 : decode cX5_readsBoth 35 = .ok (.iconst 0, 1) := by decide +kernel
theorem dX5_readsBoth_36 : decode cX5_readsBoth 36 = .ok (.ireturn, 1) := by decide +kernel
theorem dX5_readsBoth_37 : decode cX5_readsBoth 37 = .ok (.aload_n 0, 1) := by decide +kernel
theorem dX5_readsBoth_38 : decode cX5_readsBoth 38 = .ok (.getfield 14, 3) := by decide +kernel
theorem dX5_readsBoth_41 : decode cX5_readsBoth 41 = .ok (.iconst 2, 1) := by decide +kernel
theorem dX5_readsBoth_42 : decode cX5_readsBoth 42 = .ok (.invokevirtual 72, 3) := by decide +kernel
theorem dX5_readsBoth_45 : decode cX5_readsBoth 45 = .ok (.iinc 2 1, 3) := by decide +kernel
theorem dX5_readsBoth_48 : decode cX5_readsBoth 48 = .ok (.goto (-36), 3) := by decide +kernel
theorem dX5_readsBoth_51 : decode cX5_readsBoth 51 = .ok (.iconst 1, 1) := by decide +kernel
theorem dX5_readsBoth_52 : decode cX5_readsBoth 52 = .ok (.ireturn, 1) := by decide +kernel
theorem dX5_readsOne_0 : decode cX5_readsOne 0 = .ok (.aload_n 0, 1) := by decide +kernel
theorem dX5_readsOne_1 : decode cX5_readsOne 1 = .ok (.invokevirtual 48, 3) := by decide +kernel
theorem dX5_readsOne_4 : decode cX5_readsOne 4 = .ok (.istore_n 2, 1) := by decide +kernel
theorem dX5_readsOne_5 : decode cX5_readsOne 5 = .ok (.iload_n 2, 1) := by decide +kernel
theorem dX5_readsOne_6 : decode cX5_readsOne 6 = .ok (.bipush 33, 2) := by decide +kernel
theorem dX5_readsOne_8 : decode cX5_readsOne 8 = .ok (.if_icmp .eq 14, 3) := by decide +kernel
theorem dX5_readsOne_11 : decode cX5_readsOne 11 = .ok (.iload_n 2, 1) := by decide +kernel
theorem dX5_readsOne_12 : decode cX5_readsOne 12 = .ok (.bipush 40, 2) := by decide +kernel
theorem dX5_readsOne_14 : decode cX5_readsOne 14 = .ok (.if_icmp .eq 8, 3) := by decide +kernel
theorem dX5_readsOne_17 : decode cX5_readsOne 17 = .ok (.aload_n 0, 1) := by decide +kernel
theorem dX5_readsOne_18 : decode cX5_readsOne 18 = .ok (.invokevirtual 94, 3) := by decide +kernel
theorem dX5_readsOne_21 : decode cX5_readsOne 21 = .ok (.ireturn, 1) := by decide +kernel
theorem dX5_readsOne_22 : decode cX5_readsOne 22 = .ok (.iload_n 1, 1) := by decide +kernel
theorem dX5_readsOne_23 : decode cX5_readsOne 23 = .ok (.iconst 5, 1) := by decide +kernel
theorem dX5_readsOne_24 : decode cX5_readsOne 24 = .ok (.if_icmp .lt 5, 3) := by decide +kernel
theorem dX5_readsOne_27 : decode cX5_readsOne 27 = .ok (.iconst 0, 1) := by decide +kernel
theorem dX5_readsOne_28 : decode cX5_readsOne 28 = .ok (.ireturn, 1) := by decide +kernel
theorem dX5_readsOne_29 : decode cX5_readsOne 29 = .ok (.aload_n 0, 1) := by decide +kernel
theorem dX5_readsOne_30 : decode cX5_readsOne 30 = .ok (.dup, 1) := by decide +kernel
theorem dX5_readsOne_31 : decode cX5_readsOne 31 = .ok (.getfield 23, 3) := by decide +kernel
theorem dX5_readsOne_34 : decode cX5_readsOne 34 = .ok (.iconst 1, 1) := by decide +kernel
theorem dX5_readsOne_35 : decode cX5_readsOne 35 = .ok (.iadd, 1) := by decide +kernel
theorem dX5_readsOne_36 : decode cX5_readsOne 36 = .ok (.putfield 23, 3) := by decide +kernel
theorem dX5_readsOne_39 : decode cX5_readsOne 39 = .ok (.iload_n 2, 1) := by decide +kernel
theorem dX5_readsOne_40 : decode cX5_readsOne 40 = .ok (.bipush 40, 2) := by decide +kernel
theorem dX5_readsOne_42 : decode cX5_readsOne 42 = .ok (.if_icmp .ne 28, 3) := by decide +kernel
theorem dX5_readsOne_45 : decode cX5_readsOne 45 = .ok (.aload_n 0, 1) := by decide +kernel
theorem dX5_readsOne_46 : decode cX5_readsOne 46 = .ok (.iload_n 1, 1) := by decide +kernel
theorem dX5_readsOne_47 : decode cX5_readsOne 47 = .ok (.iconst 1, 1) := by decide +kernel
theorem dX5_readsOne_48 : decode cX5_readsOne 48 = .ok (.iadd, 1) := by decide +kernel
theorem dX5_readsOne_49 : decode cX5_readsOne 49 = .ok (.invokevirtual 69, 3) := by decide +kernel
theorem dX5_readsOne_52 : decode cX5_readsOne 52 = .ok (.ifCond .eq 16, 3) := by decide +kernel
theorem dX5_readsOne_55 : decode cX5_readsOne 55 = .ok (.aload_n 0, 1) := by decide +kernel
theorem dX5_readsOne_56 : decode cX5_readsOne 56 = .ok (.bipush 41, 2) := by decide +kernel
theorem dX5_readsOne_58 : decode cX5_readsOne 58 = .ok (.invokevirtual 44, 3) := by decide +kernel
theorem dX5_readsOne_61 : decode cX5_readsOne 61 = .ok (.ifCond .eq 7, 3) := by decide +kernel
theorem dX5_readsOne_64 : decode cX5_readsOne 64 = .ok (.iconst 1, 1) := by decide +kernel
theorem dX5_readsOne_65 : decode cX5_readsOne 65 = .ok (.goto 4, 3) := by decide +kernel
theorem dX5_readsOne_68 : decode cX5_readsOne 68 = .ok (.iconst 0, 1) := by decide +kernel
theorem dX5_readsOne_69 : decode cX5_readsOne 69 = .ok (.ireturn, 1) := by decide +kernel
theorem dX5_readsOne_70 : decode cX5_readsOne 70 = .ok (.aload_n 0, 1) := by decide +kernel
theorem dX5_readsOne_71 : decode cX5_readsOne 71 = .ok (.iload_n 1, 1) := by decide +kernel
theorem dX5_readsOne_72 : decode cX5_readsOne 72 = .ok (.iconst 1, 1) := by decide +kernel
theorem dX5_readsOne_73 : decode cX5_readsOne 73 = .ok (.iadd, 1) := by decide +kernel
theorem dX5_readsOne_74 : decode cX5_readsOne 74 = .ok (.invokevirtual 91, 3) := by decide +kernel
theorem dX5_readsOne_77 : decode cX5_readsOne 77 = .ok (.ifCond .ne 5, 3) := by decide +kernel
theorem dX5_readsOne_80 : decode cX5_readsOne 80 = .ok (.iconst 0, 1) := by decide +kernel
theorem dX5_readsOne_81 : decode cX5_readsOne 81 = .ok (.ireturn, 1) := by decide +kernel
theorem dX5_readsOne_82 : decode cX5_readsOne 82 = .ok (.aload_n 0, 1) := by decide +kernel
theorem dX5_readsOne_83 : decode cX5_readsOne 83 = .ok (.getfield 14, 3) := by decide +kernel
theorem dX5_readsOne_86 : decode cX5_readsOne 86 = .ok (.iconst 1, 1) := by decide +kernel
theorem dX5_readsOne_87 : decode cX5_readsOne 87 = .ok (.invokevirtual 72, 3) := by decide +kernel
theorem dX5_readsOne_90 : decode cX5_readsOne 90 = .ok (.iconst 1, 1) := by decide +kernel
theorem dX5_readsOne_91 : decode cX5_readsOne 91 = .ok (.ireturn, 1) := by decide +kernel
theorem dX5_readsTest_0 : decode cX5_readsTest 0 = .ok (.aload_n 0, 1) := by decide +kernel
theorem dX5_readsTest_1 : decode cX5_readsTest 1 = .ok (.ldc 97, 2) := by decide +kernel
theorem dX5_readsTest_3 : decode cX5_readsTest 3 = .ok (.invokevirtual 99, 3) := by decide +kernel
theorem dX5_readsTest_6 : decode cX5_readsTest 6 = .ok (.istore_n 1, 1) := by decide +kernel
theorem dX5_readsTest_7 : decode cX5_readsTest 7 = .ok (.iload_n 1, 1) := by decide +kernel
theorem dX5_readsTest_8 : decode cX5_readsTest 8 = .ok (.ifCond .ge 5, 3) := by decide +kernel
theorem dX5_readsTest_11 : decode cX5_readsTest 11 = .ok (.iconst 0, 1) := by decide +kernel
theorem dX5_readsTest_12 : decode cX5_readsTest 12 = .ok (.ireturn, 1) := by decide +kernel
theorem dX5_readsTest_13 : decode cX5_readsTest 13 = .ok (.aload_n 0, 1) := by decide +kernel
theorem dX5_readsTest_14 : decode cX5_readsTest 14 = .ok (.ldc 103, 2) := by decide +kernel
theorem dX5_readsTest_16 : decode cX5_readsTest 16 = .ok (.invokevirtual 99, 3) := by decide +kernel
theorem dX5_readsTest_19 : decode cX5_readsTest 19 = .ok (.istore_n 2, 1) := by decide +kernel
theorem dX5_readsTest_20 : decode cX5_readsTest 20 = .ok (.iload_n 2, 1) := by decide +kernel
theorem dX5_readsTest_21 : decode cX5_readsTest 21 = .ok (.ifCond .lt 10, 3) := by decide +kernel
theorem dX5_readsTest_24 : decode cX5_readsTest 24 = .ok (.aload_n 0, 1) := by decide +kernel
theorem dX5_readsTest_25 : decode cX5_readsTest 25 = .ok (.invokevirtual 63, 3) := by decide +kernel
theorem dX5_readsTest_28 : decode cX5_readsTest 28 = .ok (.ifCond .ne 5, 3) := by decide +kernel
theorem dX5_readsTest_31 : decode cX5_readsTest 31 = .ok (.iconst 0, 1) := by decide +kernel
theorem dX5_readsTest_32 : decode cX5_readsTest 32 = .ok (.ireturn, 1) := by decide +kernel
theorem dX5_readsTest_33 : decode cX5_readsTest 33 = .ok (.aload_n 0, 1) := by decide +kernel
theorem dX5_readsTest_34 : decode cX5_readsTest 34 = .ok (.getfield 14, 3) := by decide +kernel
theorem dX5_readsTest_37 : decode cX5_readsTest 37 = .ok (.sipush 1000, 3) := by decide +kernel
theorem dX5_readsTest_40 : decode cX5_readsTest 40 = .ok (.iload_n 1, 1) := by decide +kernel
theorem dX5_readsTest_41 : decode cX5_readsTest 41 = .ok (.iconst 3, 1) := by decide +kernel
theorem dX5_readsTest_42 : decode cX5_readsTest 42 = .ok (.imul, 1) := by decide +kernel
theorem dX5_readsTest_43 : decode cX5_readsTest 43 = .ok (.iload_n 2, 1) := by decide +kernel
theorem dX5_readsTest_44 : decode cX5_readsTest 44 = .ok (.iadd, 1) := by decide +kernel
theorem dX5_readsTest_45 : decode cX5_readsTest 45 = .ok (.bipush 100, 2) := by decide +kernel
theorem dX5_readsTest_47 : decode cX5_readsTest 47 = .ok (.imul, 1) := by decide +kernel
theorem dX5_readsTest_48 : decode cX5_readsTest 48 = .ok (.iadd, 1) := by decide +kernel
theorem dX5_readsTest_49 : decode cX5_readsTest 49 = .ok (.aload_n 0, 1) := by decide +kernel
theorem dX5_readsTest_50 : decode cX5_readsTest 50 = .ok (.getfield 66, 3) := by decide +kernel
theorem dX5_readsTest_53 : decode cX5_readsTest 53 = .ok (.iadd, 1) := by decide +kernel
theorem dX5_readsTest_54 : decode cX5_readsTest 54 = .ok (.invokevirtual 72, 3) := by decide +kernel
theorem dX5_readsTest_57 : decode cX5_readsTest 57 = .ok (.iconst 1, 1) := by decide +kernel
theorem dX5_readsTest_58 : decode cX5_readsTest 58 = .ok (.ireturn, 1) := by decide +kernel
theorem dX5_takesNumber_0 : decode cX5_takesNumber 0 = .ok (.aload_n 0, 1) := by decide +kernel
theorem dX5_takesNumber_1 : decode cX5_takesNumber 1 = .ok (.invokevirtual 48, 3) := by decide +kernel
theorem dX5_takesNumber_4 : decode cX5_takesNumber 4 = .ok (.istore_n 1, 1) := by decide +kernel
theorem dX5_takesNumber_5 : decode cX5_takesNumber 5 = .ok (.iload_n 1, 1) := by decide +kernel
theorem dX5_takesNumber_6 : decode cX5_takesNumber 6 = .ok (.bipush 48, 2) := by decide +kernel
theorem dX5_takesNumber_8 : decode cX5_takesNumber 8 = .ok (.if_icmp .lt 9, 3) := by decide +kernel
theorem dX5_takesNumber_11 : decode cX5_takesNumber 11 = .ok (.iload_n 1, 1) := by decide +kernel
theorem dX5_takesNumber_12 : decode cX5_takesNumber 12 = .ok (.bipush 57, 2) := by decide +kernel
theorem dX5_takesNumber_14 : decode cX5_takesNumber 14 = .ok (.if_icmp .le 5, 3) := by decide +kernel
theorem dX5_takesNumber_17 : decode cX5_takesNumber 17 = .ok (.iconst 0, 1) := by decide +kernel
theorem dX5_takesNumber_18 : decode cX5_takesNumber 18 = .ok (.ireturn, 1) := by decide +kernel
theorem dX5_takesNumber_19 : decode cX5_takesNumber 19 = .ok (.aload_n 0, 1) := by decide +kernel
theorem dX5_takesNumber_20 : decode cX5_takesNumber 20 = .ok (.dup, 1) := by decide +kernel
theorem dX5_takesNumber_21 : decode cX5_takesNumber 21 = .ok (.getfield 23, 3) := by decide +kernel
theorem dX5_takesNumber_24 : decode cX5_takesNumber 24 = .ok (.iconst 1, 1) := by decide +kernel
theorem dX5_takesNumber_25 : decode cX5_takesNumber 25 = .ok (.iadd, 1) := by decide +kernel
theorem dX5_takesNumber_26 : decode cX5_takesNumber 26 = .ok (.putfield 23, 3) := by decide +kernel
theorem dX5_takesNumber_29 : decode cX5_takesNumber 29 = .ok (.aload_n 0, 1) := by decide +kernel
theorem dX5_takesNumber_30 : decode cX5_takesNumber 30 = .ok (.iload_n 1, 1) := by decide +kernel
theorem dX5_takesNumber_31 : decode cX5_takesNumber 31 = .ok (.bipush 48, 2) := by decide +kernel
theorem dX5_takesNumber_33 : decode cX5_takesNumber 33 = .ok (.isub, 1) := by decide +kernel
theorem dX5_takesNumber_34 : decode cX5_takesNumber 34 = .ok (.putfield 66, 3) := by decide +kernel
theorem dX5_takesNumber_37 : decode cX5_takesNumber 37 = .ok (.aload_n 0, 1) := by decide +kernel
theorem dX5_takesNumber_38 : decode cX5_takesNumber 38 = .ok (.invokevirtual 48, 3) := by decide +kernel
theorem dX5_takesNumber_41 : decode cX5_takesNumber 41 = .ok (.istore_n 1, 1) := by decide +kernel
theorem dX5_takesNumber_42 : decode cX5_takesNumber 42 = .ok (.aload_n 0, 1) := by decide +kernel
theorem dX5_takesNumber_43 : decode cX5_takesNumber 43 = .ok (.getfield 66, 3) := by decide +kernel
theorem dX5_takesNumber_46 : decode cX5_takesNumber 46 = .ok (.ifCond .le 41, 3) := by decide +kernel
theorem dX5_takesNumber_49 : decode cX5_takesNumber 49 = .ok (.iload_n 1, 1) := by decide +kernel
theorem dX5_takesNumber_50 : decode cX5_takesNumber 50 = .ok (.bipush 48, 2) := by decide +kernel
theorem dX5_takesNumber_52 : decode cX5_takesNumber 52 = .ok (.if_icmp .lt 35, 3) := by decide +kernel
theorem dX5_takesNumber_55 : decode cX5_takesNumber 55 = .ok (.iload_n 1, 1) := by decide +kernel
theorem dX5_takesNumber_56 : decode cX5_takesNumber 56 = .ok (.bipush 57, 2) := by decide +kernel
theorem dX5_takesNumber_58 : decode cX5_takesNumber 58 = .ok (.if_icmp .gt 29, 3) := by decide +kernel
theorem dX5_takesNumber_61 : decode cX5_takesNumber 61 = .ok (.aload_n 0, 1) := by decide +kernel
theorem dX5_takesNumber_62 : decode cX5_takesNumber 62 = .ok (.dup, 1) := by decide +kernel
theorem dX5_takesNumber_63 : decode cX5_takesNumber 63 = .ok (.getfield 23, 3) := by decide +kernel
theorem dX5_takesNumber_66 : decode cX5_takesNumber 66 = .ok (.iconst 1, 1) := by decide +kernel
theorem dX5_takesNumber_67 : decode cX5_takesNumber 67 = .ok (.iadd, 1) := by decide +kernel
theorem dX5_takesNumber_68 : decode cX5_takesNumber 68 = .ok (.putfield 23, 3) := by decide +kernel
theorem dX5_takesNumber_71 : decode cX5_takesNumber 71 = .ok (.aload_n 0, 1) := by decide +kernel
theorem dX5_takesNumber_72 : decode cX5_takesNumber 72 = .ok (.aload_n 0, 1) := by decide +kernel
theorem dX5_takesNumber_73 : decode cX5_takesNumber 73 = .ok (.getfield 66, 3) := by decide +kernel
theorem dX5_takesNumber_76 : decode cX5_takesNumber 76 = .ok (.bipush 10, 2) := by decide +kernel
theorem dX5_takesNumber_78 : decode cX5_takesNumber 78 = .ok (.imul, 1) := by decide +kernel
theorem dX5_takesNumber_79 : decode cX5_takesNumber 79 = .ok (.iload_n 1, 1) := by decide +kernel
theorem dX5_takesNumber_80 : decode cX5_takesNumber 80 = .ok (.iadd, 1) := by decide +kernel
theorem dX5_takesNumber_81 : decode cX5_takesNumber 81 = .ok (.bipush 48, 2) := by decide +kernel
theorem dX5_takesNumber_83 : decode cX5_takesNumber 83 = .ok (.isub, 1) := by decide +kernel
theorem dX5_takesNumber_84 : decode cX5_takesNumber 84 = .ok (.putfield 66, 3) := by decide +kernel
theorem dX5_takesNumber_87 : decode cX5_takesNumber 87 = .ok (.iconst 1, 1) := by decide +kernel
theorem dX5_takesNumber_88 : decode cX5_takesNumber 88 = .ok (.ireturn, 1) := by decide +kernel
theorem dX5_takesWord_0 : decode cX5_takesWord 0 = .ok (.iconst 0, 1) := by decide +kernel
theorem dX5_takesWord_1 : decode cX5_takesWord 1 = .ok (.istore_n 2, 1) := by decide +kernel
theorem dX5_takesWord_2 : decode cX5_takesWord 2 = .ok (.iload_n 2, 1) := by decide +kernel
theorem dX5_takesWord_3 : decode cX5_takesWord 3 = .ok (.aload_n 1, 1) := by decide +kernel
theorem dX5_takesWord_4 : decode cX5_takesWord 4 = .ok (.invokevirtual 105, 3) := by decide +kernel
theorem dX5_takesWord_7 : decode cX5_takesWord 7 = .ok (.if_icmp .ge 23, 3) := by decide +kernel
theorem dX5_takesWord_10 : decode cX5_takesWord 10 = .ok (.aload_n 0, 1) := by decide +kernel
theorem dX5_takesWord_11 : decode cX5_takesWord 11 = .ok (.aload_n 1, 1) := by decide +kernel
theorem dX5_takesWord_12 : decode cX5_takesWord 12 = .ok (.iload_n 2, 1) := by decide +kernel
theorem dX5_takesWord_13 : decode cX5_takesWord 13 = .ok (.invokevirtual 110, 3) := by decide +kernel
theorem dX5_takesWord_16 : decode cX5_takesWord 16 = .ok (.invokevirtual 44, 3) := by decide +kernel
theorem dX5_takesWord_19 : decode cX5_takesWord 19 = .ok (.ifCond .ne 5, 3) := by decide +kernel
theorem dX5_takesWord_22 : decode cX5_takesWord 22 = .ok (.iconst 0, 1) := by decide +kernel
theorem dX5_takesWord_23 : decode cX5_takesWord 23 = .ok (.ireturn, 1) := by decide +kernel
theorem dX5_takesWord_24 : decode cX5_takesWord 24 = .ok (.iinc 2 1, 3) := by decide +kernel
theorem dX5_takesWord_27 : decode cX5_takesWord 27 = .ok (.goto (-25), 3) := by decide +kernel
theorem dX5_takesWord_30 : decode cX5_takesWord 30 = .ok (.iconst 1, 1) := by decide +kernel
theorem dX5_takesWord_31 : decode cX5_takesWord 31 = .ok (.ireturn, 1) := by decide +kernel
theorem dX5_takesOneOf_0 : decode cX5_takesOneOf 0 = .ok (.aload_n 0, 1) := by decide +kernel
theorem dX5_takesOneOf_1 : decode cX5_takesOneOf 1 = .ok (.invokevirtual 48, 3) := by decide +kernel
theorem dX5_takesOneOf_4 : decode cX5_takesOneOf 4 = .ok (.istore_n 2, 1) := by decide +kernel
theorem dX5_takesOneOf_5 : decode cX5_takesOneOf 5 = .ok (.iconst 0, 1) := by decide +kernel
theorem dX5_takesOneOf_6 : decode cX5_takesOneOf 6 = .ok (.istore_n 3, 1) := by decide +kernel
theorem dX5_takesOneOf_7 : decode cX5_takesOneOf 7 = .ok (.iload_n 3, 1) := by decide +kernel
theorem dX5_takesOneOf_8 : decode cX5_takesOneOf 8 = .ok (.aload_n 1, 1) := by decide +kernel
theorem dX5_takesOneOf_9 : decode cX5_takesOneOf 9 = .ok (.invokevirtual 105, 3) := by decide +kernel
theorem dX5_takesOneOf_12 : decode cX5_takesOneOf 12 = .ok (.if_icmp .ge 30, 3) := by decide +kernel
theorem dX5_takesOneOf_15 : decode cX5_takesOneOf 15 = .ok (.aload_n 1, 1) := by decide +kernel
theorem dX5_takesOneOf_16 : decode cX5_takesOneOf 16 = .ok (.iload_n 3, 1) := by decide +kernel
theorem dX5_takesOneOf_17 : decode cX5_takesOneOf 17 = .ok (.invokevirtual 110, 3) := by decide +kernel
theorem dX5_takesOneOf_20 : decode cX5_takesOneOf 20 = .ok (.iload_n 2, 1) := by decide +kernel
theorem dX5_takesOneOf_21 : decode cX5_takesOneOf 21 = .ok (.if_icmp .ne 15, 3) := by decide +kernel
theorem dX5_takesOneOf_24 : decode cX5_takesOneOf 24 = .ok (.aload_n 0, 1) := by decide +kernel
theorem dX5_takesOneOf_25 : decode cX5_takesOneOf 25 = .ok (.dup, 1) := by decide +kernel
theorem dX5_takesOneOf_26 : decode cX5_takesOneOf 26 = .ok (.getfield 23, 3) := by decide +kernel
theorem dX5_takesOneOf_29 : decode cX5_takesOneOf 29 = .ok (.iconst 1, 1) := by decide +kernel
theorem dX5_takesOneOf_30 : decode cX5_takesOneOf 30 = .ok (.iadd, 1) := by decide +kernel
theorem dX5_takesOneOf_31 : decode cX5_takesOneOf 31 = .ok (.putfield 23, 3) := by decide +kernel
theorem dX5_takesOneOf_34 : decode cX5_takesOneOf 34 = .ok (.iload_n 3, 1) := by decide +kernel
theorem dX5_takesOneOf_35 : decode cX5_takesOneOf 35 = .ok (.ireturn, 1) := by decide +kernel
theorem dX5_takesOneOf_36 : decode cX5_takesOneOf 36 = .ok (.iinc 3 1, 3) := by decide +kernel
theorem dX5_takesOneOf_39 : decode cX5_takesOneOf 39 = .ok (.goto (-32), 3) := by decide +kernel
theorem dX5_takesOneOf_42 : decode cX5_takesOneOf 42 = .ok (.iconst (-1), 1) := by decide +kernel
theorem dX5_takesOneOf_43 : decode cX5_takesOneOf 43 = .ok (.ireturn, 1) := by decide +kernel
theorem dX5_takes_0 : decode cX5_takes 0 = .ok (.aload_n 0, 1) := by decide +kernel
theorem dX5_takes_1 : decode cX5_takes 1 = .ok (.invokevirtual 48, 3) := by decide +kernel
theorem dX5_takes_4 : decode cX5_takes 4 = .ok (.iload_n 1, 1) := by decide +kernel
theorem dX5_takes_5 : decode cX5_takes 5 = .ok (.if_icmp .eq 5, 3) := by decide +kernel
theorem dX5_takes_8 : decode cX5_takes 8 = .ok (.iconst 0, 1) := by decide +kernel
theorem dX5_takes_9 : decode cX5_takes 9 = .ok (.ireturn, 1) := by decide +kernel
theorem dX5_takes_10 : decode cX5_takes 10 = .ok (.aload_n 0, 1) := by decide +kernel
theorem dX5_takes_11 : decode cX5_takes 11 = .ok (.dup, 1) := by decide +kernel
theorem dX5_takes_12 : decode cX5_takes 12 = .ok (.getfield 23, 3) := by decide +kernel
theorem dX5_takes_15 : decode cX5_takes 15 = .ok (.iconst 1, 1) := by decide +kernel
theorem dX5_takes_16 : decode cX5_takes 16 = .ok (.iadd, 1) := by decide +kernel
theorem dX5_takes_17 : decode cX5_takes 17 = .ok (.putfield 23, 3) := by decide +kernel
theorem dX5_takes_20 : decode cX5_takes 20 = .ok (.iconst 1, 1) := by decide +kernel
theorem dX5_takes_21 : decode cX5_takes 21 = .ok (.ireturn, 1) := by decide +kernel
theorem dX5_next_0 : decode cX5_next 0 = .ok (.aload_n 0, 1) := by decide +kernel
theorem dX5_next_1 : decode cX5_next 1 = .ok (.getfield 23, 3) := by decide +kernel
theorem dX5_next_4 : decode cX5_next 4 = .ok (.aload_n 0, 1) := by decide +kernel
theorem dX5_next_5 : decode cX5_next 5 = .ok (.getfield 20, 3) := by decide +kernel
theorem dX5_next_8 : decode cX5_next 8 = .ok (.invokevirtual 40, 3) := by decide +kernel
theorem dX5_next_11 : decode cX5_next 11 = .ok (.if_icmp .ge 17, 3) := by decide +kernel
theorem dX5_next_14 : decode cX5_next 14 = .ok (.aload_n 0, 1) := by decide +kernel
theorem dX5_next_15 : decode cX5_next 15 = .ok (.getfield 20, 3) := by decide +kernel
theorem dX5_next_18 : decode cX5_next 18 = .ok (.aload_n 0, 1) := by decide +kernel
theorem dX5_next_19 : decode cX5_next 19 = .ok (.getfield 23, 3) := by decide +kernel
theorem dX5_next_22 : decode cX5_next 22 = .ok (.invokevirtual 114, 3) := by decide +kernel
theorem dX5_next_25 : decode cX5_next 25 = .ok (.goto 4, 3) := by decide +kernel
theorem dX5_next_28 : decode cX5_next 28 = .ok (.iconst (-1), 1) := by decide +kernel
theorem dX5_next_29 : decode cX5_next 29 = .ok (.ireturn, 1) := by decide +kernel
theorem dX6_init_0 : decode cX6_init 0 = .ok (.aload_n 0, 1) := by decide +kernel
theorem dX6_init_1 : decode cX6_init 1 = .ok (.invokespecial 1, 3) := by decide +kernel
theorem dX6_init_4 : decode cX6_init 4 = .ok (.aload_n 0, 1) := by decide +kernel
theorem dX6_init_5 : decode cX6_init 5 = .ok (.iload_n 1, 1) := by decide +kernel
theorem dX6_init_6 : decode cX6_init 6 = .ok (.iconst 0, 1) := by decide +kernel
theorem dX6_init_7 : decode cX6_init 7 = .ok (.invokestatic 7, 3) := by decide +kernel
theorem dX6_init_10 : decode cX6_init 10 = .ok (.newarray .int, 2) := by decide +kernel
theorem dX6_init_12 : decode cX6_init 12 = .ok (.putfield 13, 3) := by decide +kernel
theorem dX6_init_15 : decode cX6_init 15 = .ok (.return_, 1) := by decide +kernel
theorem dX6_size_0 : decode cX6_size 0 = .ok (.aload_n 0, 1) := by decide +kernel
theorem dX6_size_1 : decode cX6_size 1 = .ok (.getfield 19, 3) := by decide +kernel
theorem dX6_size_4 : decode cX6_size 4 = .ok (.ireturn, 1) := by decide +kernel
theorem dX6_get_0 : decode cX6_get 0 = .ok (.iload_n 1, 1) := by decide +kernel
theorem dX6_get_1 : decode cX6_get 1 = .ok (.ifCond .lt 21, 3) := by decide +kernel
theorem dX6_get_4 : decode cX6_get 4 = .ok (.iload_n 1, 1) := by decide +kernel
theorem dX6_get_5 : decode cX6_get 5 = .ok (.aload_n 0, 1) := by decide +kernel
theorem dX6_get_6 : decode cX6_get 6 = .ok (.getfield 13, 3) := by decide +kernel
theorem dX6_get_9 : decode cX6_get 9 = .ok (.arraylength, 1) := by decide +kernel
theorem dX6_get_10 : decode cX6_get 10 = .ok (.if_icmp .ge 12, 3) := by decide +kernel
theorem dX6_get_13 : decode cX6_get 13 = .ok (.aload_n 0, 1) := by decide +kernel
theorem dX6_get_14 : decode cX6_get 14 = .ok (.getfield 13, 3) := by decide +kernel
theorem dX6_get_17 : decode cX6_get 17 = .ok (.iload_n 1, 1) := by decide +kernel
theorem dX6_get_18 : decode cX6_get 18 = .ok (.iaload, 1) := by decide +kernel
theorem dX6_get_19 : decode cX6_get 19 = .ok (.goto 4, 3) := by decide +kernel
theorem dX6_get_22 : decode cX6_get 22 = .ok (.iconst 0, 1) := by decide +kernel
theorem dX6_get_23 : decode cX6_get 23 = .ok (.ireturn, 1) := by decide +kernel
theorem dX6_set_0 : decode cX6_set 0 = .ok (.iload_n 1, 1) := by decide +kernel
theorem dX6_set_1 : decode cX6_set 1 = .ok (.ifCond .lt 19, 3) := by decide +kernel
theorem dX6_set_4 : decode cX6_set 4 = .ok (.iload_n 1, 1) := by decide +kernel
theorem dX6_set_5 : decode cX6_set 5 = .ok (.aload_n 0, 1) := by decide +kernel
theorem dX6_set_6 : decode cX6_set 6 = .ok (.getfield 13, 3) := by decide +kernel
theorem dX6_set_9 : decode cX6_set 9 = .ok (.arraylength, 1) := by decide +kernel
theorem dX6_set_10 : decode cX6_set 10 = .ok (.if_icmp .ge 10, 3) := by decide +kernel
theorem dX6_set_13 : decode cX6_set 13 = .ok (.aload_n 0, 1) := by decide +kernel
theorem dX6_set_14 : decode cX6_set 14 = .ok (.getfield 13, 3) := by decide +kernel
theorem dX6_set_17 : decode cX6_set 17 = .ok (.iload_n 1, 1) := by decide +kernel
theorem dX6_set_18 : decode cX6_set 18 = .ok (.iload_n 2, 1) := by decide +kernel
theorem dX6_set_19 : decode cX6_set 19 = .ok (.iastore, 1) := by decide +kernel
theorem dX6_set_20 : decode cX6_set 20 = .ok (.return_, 1) := by decide +kernel
theorem dX6_add_0 : decode cX6_add 0 = .ok (.aload_n 0, 1) := by decide +kernel
theorem dX6_add_1 : decode cX6_add 1 = .ok (.getfield 19, 3) := by decide +kernel
theorem dX6_add_4 : decode cX6_add 4 = .ok (.ifCond .lt 25, 3) := by decide +kernel
theorem dX6_add_7 : decode cX6_add 7 = .ok (.aload_n 0, 1) := by decide +kernel
theorem dX6_add_8 : decode cX6_add 8 = .ok (.getfield 19, 3) := by decide +kernel
theorem dX6_add_11 : decode cX6_add 11 = .ok (.aload_n 0, 1) := by decide +kernel
theorem dX6_add_12 : decode cX6_add 12 = .ok (.getfield 13, 3) := by decide +kernel
theorem dX6_add_15 : decode cX6_add 15 = .ok (.arraylength, 1) := by decide +kernel
theorem dX6_add_16 : decode cX6_add 16 = .ok (.if_icmp .ge 13, 3) := by decide +kernel
theorem dX6_add_19 : decode cX6_add 19 = .ok (.aload_n 0, 1) := by decide +kernel
theorem dX6_add_20 : decode cX6_add 20 = .ok (.getfield 13, 3) := by decide +kernel
theorem dX6_add_23 : decode cX6_add 23 = .ok (.aload_n 0, 1) := by decide +kernel
theorem dX6_add_24 : decode cX6_add 24 = .ok (.getfield 19, 3) := by decide +kernel
theorem dX6_add_27 : decode cX6_add 27 = .ok (.iload_n 1, 1) := by decide +kernel
theorem dX6_add_28 : decode cX6_add 28 = .ok (.iastore, 1) := by decide +kernel
theorem dX6_add_29 : decode cX6_add 29 = .ok (.aload_n 0, 1) := by decide +kernel
theorem dX6_add_30 : decode cX6_add 30 = .ok (.dup, 1) := by decide +kernel
theorem dX6_add_31 : decode cX6_add 31 = .ok (.getfield 19, 3) := by decide +kernel
theorem dX6_add_34 : decode cX6_add 34 = .ok (.iconst 1, 1) := by decide +kernel
theorem dX6_add_35 : decode cX6_add 35 = .ok (.iadd, 1) := by decide +kernel
theorem dX6_add_36 : decode cX6_add 36 = .ok (.putfield 19, 3) := by decide +kernel
theorem dX6_add_39 : decode cX6_add 39 = .ok (.return_, 1) := by decide +kernel
theorem dX6_clear_0 : decode cX6_clear 0 = .ok (.aload_n 0, 1) := by decide +kernel
theorem dX6_clear_1 : decode cX6_clear 1 = .ok (.iconst 0, 1) := by decide +kernel
theorem dX6_clear_2 : decode cX6_clear 2 = .ok (.putfield 19, 3) := by decide +kernel
theorem dX6_clear_5 : decode cX6_clear 5 = .ok (.return_, 1) := by decide +kernel
theorem dX6_become_0 : decode cX6_become 0 = .ok (.iconst 0, 1) := by decide +kernel
theorem dX6_become_1 : decode cX6_become 1 = .ok (.istore_n 2, 1) := by decide +kernel
theorem dX6_become_2 : decode cX6_become 2 = .ok (.iload_n 2, 1) := by decide +kernel
theorem dX6_become_3 : decode cX6_become 3 = .ok (.aload_n 0, 1) := by decide +kernel
theorem dX6_become_4 : decode cX6_become 4 = .ok (.getfield 13, 3) := by decide +kernel
theorem dX6_become_7 : decode cX6_become 7 = .ok (.arraylength, 1) := by decide +kernel
theorem dX6_become_8 : decode cX6_become 8 = .ok (.if_icmp .ge 20, 3) := by decide +kernel
theorem dX6_become_11 : decode cX6_become 11 = .ok (.aload_n 0, 1) := by decide +kernel
theorem dX6_become_12 : decode cX6_become 12 = .ok (.getfield 13, 3) := by decide +kernel
theorem dX6_become_15 : decode cX6_become 15 = .ok (.iload_n 2, 1) := by decide +kernel
theorem dX6_become_16 : decode cX6_become 16 = .ok (.aload_n 1, 1) := by decide +kernel
theorem dX6_become_17 : decode cX6_become 17 = .ok (.iload_n 2, 1) := by decide +kernel
theorem dX6_become_18 : decode cX6_become 18 = .ok (.invokevirtual 23, 3) := by decide +kernel
theorem dX6_become_21 : decode cX6_become 21 = .ok (.iastore, 1) := by decide +kernel
theorem dX6_become_22 : decode cX6_become 22 = .ok (.iinc 2 1, 3) := by decide +kernel
theorem dX6_become_25 : decode cX6_become 25 = .ok (.goto (-23), 3) := by decide +kernel
theorem dX6_become_28 : decode cX6_become 28 = .ok (.aload_n 0, 1) := by decide +kernel
theorem dX6_become_29 : decode cX6_become 29 = .ok (.aload_n 1, 1) := by decide +kernel
theorem dX6_become_30 : decode cX6_become 30 = .ok (.getfield 19, 3) := by decide +kernel
theorem dX6_become_33 : decode cX6_become 33 = .ok (.putfield 19, 3) := by decide +kernel
theorem dX6_become_36 : decode cX6_become 36 = .ok (.return_, 1) := by decide +kernel
theorem dX7_init_0 : decode cX7_init 0 = .ok (.aload_n 0, 1) := by decide +kernel
theorem dX7_init_1 : decode cX7_init 1 = .ok (.invokespecial 3, 3) := by decide +kernel
theorem dX7_init_4 : decode cX7_init 4 = .ok (.aload_n 0, 1) := by decide +kernel
theorem dX7_init_5 : decode cX7_init 5 = .ok (.new 9, 3) := by decide +kernel
theorem dX7_init_8 : decode cX7_init 8 = .ok (.dup, 1) := by decide +kernel
theorem dX7_init_9 : decode cX7_init 9 = .ok (.bipush 7, 2) := by decide +kernel
theorem dX7_init_11 : decode cX7_init 11 = .ok (.invokespecial 11, 3) := by decide +kernel
theorem dX7_init_14 : decode cX7_init 14 = .ok (.putfield 14, 3) := by decide +kernel
theorem dX7_init_17 : decode cX7_init 17 = .ok (.aload_n 0, 1) := by decide +kernel
theorem dX7_init_18 : decode cX7_init 18 = .ok (.new 9, 3) := by decide +kernel
theorem dX7_init_21 : decode cX7_init 21 = .ok (.dup, 1) := by decide +kernel
theorem dX7_init_22 : decode cX7_init 22 = .ok (.bipush 28, 2) := by decide +kernel
theorem dX7_init_24 : decode cX7_init 24 = .ok (.invokespecial 11, 3) := by decide +kernel
theorem dX7_init_27 : decode cX7_init 27 = .ok (.putfield 20, 3) := by decide +kernel
theorem dX7_init_30 : decode cX7_init 30 = .ok (.aload_n 0, 1) := by decide +kernel
theorem dX7_init_31 : decode cX7_init 31 = .ok (.new 9, 3) := by decide +kernel
theorem dX7_init_34 : decode cX7_init 34 = .ok (.dup, 1) := by decide +kernel
theorem dX7_init_35 : decode cX7_init 35 = .ok (.bipush 28, 2) := by decide +kernel
theorem dX7_init_37 : decode cX7_init 37 = .ok (.invokespecial 11, 3) := by decide +kernel
theorem dX7_init_40 : decode cX7_init 40 = .ok (.putfield 23, 3) := by decide +kernel
theorem dX7_init_43 : decode cX7_init 43 = .ok (.aload_n 0, 1) := by decide +kernel
theorem dX7_init_44 : decode cX7_init 44 = .ok (.new 9, 3) := by decide +kernel
theorem dX7_init_47 : decode cX7_init 47 = .ok (.dup, 1) := by decide +kernel
theorem dX7_init_48 : decode cX7_init 48 = .ok (.bipush 7, 2) := by decide +kernel
theorem dX7_init_50 : decode cX7_init 50 = .ok (.invokespecial 11, 3) := by decide +kernel
theorem dX7_init_53 : decode cX7_init 53 = .ok (.putfield 26, 3) := by decide +kernel
theorem dX7_init_56 : decode cX7_init 56 = .ok (.aload_n 0, 1) := by decide +kernel
theorem dX7_init_57 : decode cX7_init 57 = .ok (.new 9, 3) := by decide +kernel
theorem dX7_init_60 : decode cX7_init 60 = .ok (.dup, 1) := by decide +kernel
theorem dX7_init_61 : decode cX7_init 61 = .ok (.bipush 7, 2) := by decide +kernel
theorem dX7_init_63 : decode cX7_init 63 = .ok (.invokespecial 11, 3) := by decide +kernel
theorem dX7_init_66 : decode cX7_init 66 = .ok (.putfield 29, 3) := by decide +kernel
theorem dX7_init_69 : decode cX7_init 69 = .ok (.aload_n 0, 1) := by decide +kernel
theorem dX7_init_70 : decode cX7_init 70 = .ok (.new 9, 3) := by decide +kernel
theorem dX7_init_73 : decode cX7_init 73 = .ok (.dup, 1) := by decide +kernel
theorem dX7_init_74 : decode cX7_init 74 = .ok (.bipush 7, 2) := by decide +kernel
theorem dX7_init_76 : decode cX7_init 76 = .ok (.invokespecial 11, 3) := by decide +kernel
theorem dX7_init_79 : decode cX7_init 79 = .ok (.putfield 32, 3) := by decide +kernel
theorem dX7_init_82 : decode cX7_init 82 = .ok (.aload_n 0, 1) := by decide +kernel
theorem dX7_init_83 : decode cX7_init 83 = .ok (.aload_n 1, 1) := by decide +kernel
theorem dX7_init_84 : decode cX7_init 84 = .ok (.putfield 35, 3) := by decide +kernel
theorem dX7_init_87 : decode cX7_init 87 = .ok (.return_, 1) := by decide +kernel
theorem dX7_found_0 : decode cX7_found 0 = .ok (.aload_n 0, 1) := by decide +kernel
theorem dX7_found_1 : decode cX7_found 1 = .ok (.getfield 32, 3) := by decide +kernel
theorem dX7_found_4 : decode cX7_found 4 = .ok (.iload_n 1, 1) := by decide +kernel
theorem dX7_found_5 : decode cX7_found 5 = .ok (.invokevirtual 39, 3) := by decide +kernel
theorem dX7_found_8 : decode cX7_found 8 = .ok (.ireturn, 1) := by decide +kernel
theorem dX7_howMany_0 : decode cX7_howMany 0 = .ok (.aload_n 0, 1) := by decide +kernel
theorem dX7_howMany_1 : decode cX7_howMany 1 = .ok (.getfield 43, 3) := by decide +kernel
theorem dX7_howMany_4 : decode cX7_howMany 4 = .ok (.ifCond .le 24, 3) := by decide +kernel
theorem dX7_howMany_7 : decode cX7_howMany 7 = .ok (.aload_n 0, 1) := by decide +kernel
theorem dX7_howMany_8 : decode cX7_howMany 8 = .ok (.getfield 47, 3) := by decide +kernel
theorem dX7_howMany_11 : decode cX7_howMany 11 = .ok (.aload_n 0, 1) := by decide +kernel
theorem dX7_howMany_12 : decode cX7_howMany 12 = .ok (.getfield 43, 3) := by decide +kernel
theorem dX7_howMany_15 : decode cX7_howMany 15 = .ok (.iconst 2, 1) := by decide +kernel
theorem dX7_howMany_16 : decode cX7_howMany 16 = .ok (.idiv, 1) := by decide +kernel
theorem dX7_howMany_17 : decode cX7_howMany 17 = .ok (.iadd, 1) := by decide +kernel
theorem dX7_howMany_18 : decode cX7_howMany 18 = .ok (.aload_n 0, 1) := by decide +kernel
theorem dX7_howMany_19 : decode cX7_howMany 19 = .ok (.getfield 43, 3) := by decide +kernel
theorem dX7_howMany_22 : decode cX7_howMany 22 = .ok (.invokestatic 50, 3) := by decide +kernel
theorem dX7_howMany_25 : decode cX7_howMany 25 = .ok (.goto 4, 3) := by decide +kernel
theorem dX7_howMany_28 : decode cX7_howMany 28 = .ok (.iconst 0, 1) := by decide +kernel
theorem dX7_howMany_29 : decode cX7_howMany 29 = .ok (.ireturn, 1) := by decide +kernel
theorem dX7_score_0 : decode cX7_score 0 = .ok (.aload_n 0, 1) := by decide +kernel
theorem dX7_score_1 : decode cX7_score 1 = .ok (.getfield 47, 3) := by decide +kernel
theorem dX7_score_4 : decode cX7_score 4 = .ok (.aload_n 0, 1) := by decide +kernel
theorem dX7_score_5 : decode cX7_score 5 = .ok (.invokevirtual 56, 3) := by decide +kernel
theorem dX7_score_8 : decode cX7_score 8 = .ok (.aload_n 0, 1) := by decide +kernel
theorem dX7_score_9 : decode cX7_score 9 = .ok (.getfield 43, 3) := by decide +kernel
theorem dX7_score_12 : decode cX7_score 12 = .ok (.imul, 1) := by decide +kernel
theorem dX7_score_13 : decode cX7_score 13 = .ok (.isub, 1) := by decide +kernel
theorem dX7_score_14 : decode cX7_score 14 = .ok (.ireturn, 1) := by decide +kernel
theorem dX7_bestWay_0 : decode cX7_bestWay 0 = .ok (.aload_n 0, 1) := by decide +kernel
theorem dX7_bestWay_1 : decode cX7_bestWay 1 = .ok (.aload_n 0, 1) := by decide +kernel
theorem dX7_bestWay_2 : decode cX7_bestWay 2 = .ok (.getfield 35, 3) := by decide +kernel
theorem dX7_bestWay_5 : decode cX7_bestWay 5 = .ok (.getfield 60, 3) := by decide +kernel
theorem dX7_bestWay_8 : decode cX7_bestWay 8 = .ok (.invokevirtual 65, 3) := by decide +kernel
theorem dX7_bestWay_11 : decode cX7_bestWay 11 = .ok (.aload_n 0, 1) := by decide +kernel
theorem dX7_bestWay_12 : decode cX7_bestWay 12 = .ok (.iload_n 1, 1) := by decide +kernel
theorem dX7_bestWay_13 : decode cX7_bestWay 13 = .ok (.invokevirtual 68, 3) := by decide +kernel
theorem dX7_bestWay_16 : decode cX7_bestWay 16 = .ok (.iconst 0, 1) := by decide +kernel
theorem dX7_bestWay_17 : decode cX7_bestWay 17 = .ok (.istore_n 2, 1) := by decide +kernel
theorem dX7_bestWay_18 : decode cX7_bestWay 18 = .ok (.iload_n 2, 1) := by decide +kernel
theorem dX7_bestWay_19 : decode cX7_bestWay 19 = .ok (.aload_n 0, 1) := by decide +kernel
theorem dX7_bestWay_20 : decode cX7_bestWay 20 = .ok (.getfield 71, 3) := by decide +kernel
theorem dX7_bestWay_23 : decode cX7_bestWay 23 = .ok (.if_icmp .ge 28, 3) := by decide +kernel
theorem dX7_bestWay_26 : decode cX7_bestWay 26 = .ok (.aload_n 0, 1) := by decide +kernel
theorem dX7_bestWay_27 : decode cX7_bestWay 27 = .ok (.getfield 14, 3) := by decide +kernel
theorem dX7_bestWay_30 : decode cX7_bestWay 30 = .ok (.iload_n 2, 1) := by decide +kernel
theorem dX7_bestWay_31 : decode cX7_bestWay 31 = .ok (.aload_n 0, 1) := by decide +kernel
theorem dX7_bestWay_32 : decode cX7_bestWay 32 = .ok (.getfield 14, 3) := by decide +kernel
theorem dX7_bestWay_35 : decode cX7_bestWay 35 = .ok (.iload_n 2, 1) := by decide +kernel
theorem dX7_bestWay_36 : decode cX7_bestWay 36 = .ok (.invokevirtual 39, 3) := by decide +kernel
theorem dX7_bestWay_39 : decode cX7_bestWay 39 = .ok (.bipush 16, 2) := by decide +kernel
theorem dX7_bestWay_41 : decode cX7_bestWay 41 = .ok (.ior, 1) := by decide +kernel
theorem dX7_bestWay_42 : decode cX7_bestWay 42 = .ok (.invokevirtual 74, 3) := by decide +kernel
theorem dX7_bestWay_45 : decode cX7_bestWay 45 = .ok (.iinc 2 1, 3) := by decide +kernel
theorem dX7_bestWay_48 : decode cX7_bestWay 48 = .ok (.goto (-30), 3) := by decide +kernel
theorem dX7_bestWay_51 : decode cX7_bestWay 51 = .ok (.aload_n 0, 1) := by decide +kernel
theorem dX7_bestWay_52 : decode cX7_bestWay 52 = .ok (.invokevirtual 78, 3) := by decide +kernel
theorem dX7_bestWay_55 : decode cX7_bestWay 55 = .ok (.return_, 1) := by decide +kernel
theorem dX7_canAllBeIn_0 : decode cX7_canAllBeIn 0 = .ok (.aload_n 0, 1) := by decide +kernel
theorem dX7_canAllBeIn_1 : decode cX7_canAllBeIn 1 = .ok (.iload_n 1, 1) := by decide +kernel
theorem dX7_canAllBeIn_2 : decode cX7_canAllBeIn 2 = .ok (.invokevirtual 65, 3) := by decide +kernel
theorem dX7_canAllBeIn_5 : decode cX7_canAllBeIn 5 = .ok (.iconst 0, 1) := by decide +kernel
theorem dX7_canAllBeIn_6 : decode cX7_canAllBeIn 6 = .ok (.istore_n 3, 1) := by decide +kernel
theorem dX7_canAllBeIn_7 : decode cX7_canAllBeIn 7 = .ok (.iload_n 3, 1) := by decide +kernel
theorem dX7_canAllBeIn_8 : decode cX7_canAllBeIn 8 = .ok (.aload_n 0, 1) := by decide +kernel
theorem dX7_canAllBeIn_9 : decode cX7_canAllBeIn 9 = .ok (.getfield 71, 3) := by decide +kernel
theorem dX7_canAllBeIn_12 : decode cX7_canAllBeIn 12 = .ok (.if_icmp .ge 27, 3) := by decide +kernel
theorem dX7_canAllBeIn_15 : decode cX7_canAllBeIn 15 = .ok (.aload_n 0, 1) := by decide +kernel
theorem dX7_canAllBeIn_16 : decode cX7_canAllBeIn 16 = .ok (.getfield 14, 3) := by decide +kernel
theorem dX7_canAllBeIn_19 : decode cX7_canAllBeIn 19 = .ok (.iload_n 3, 1) := by decide +kernel
theorem dX7_canAllBeIn_20 : decode cX7_canAllBeIn 20 = .ok (.aload_n 0, 1) := by decide +kernel
theorem dX7_canAllBeIn_21 : decode cX7_canAllBeIn 21 = .ok (.getfield 14, 3) := by decide +kernel
theorem dX7_canAllBeIn_24 : decode cX7_canAllBeIn 24 = .ok (.iload_n 3, 1) := by decide +kernel
theorem dX7_canAllBeIn_25 : decode cX7_canAllBeIn 25 = .ok (.invokevirtual 39, 3) := by decide +kernel
theorem dX7_canAllBeIn_28 : decode cX7_canAllBeIn 28 = .ok (.iload_n 2, 1) := by decide +kernel
theorem dX7_canAllBeIn_29 : decode cX7_canAllBeIn 29 = .ok (.iand, 1) := by decide +kernel
theorem dX7_canAllBeIn_30 : decode cX7_canAllBeIn 30 = .ok (.invokevirtual 74, 3) := by decide +kernel
theorem dX7_canAllBeIn_33 : decode cX7_canAllBeIn 33 = .ok (.iinc 3 1, 3) := by decide +kernel
theorem dX7_canAllBeIn_36 : decode cX7_canAllBeIn 36 = .ok (.goto (-29), 3) := by decide +kernel
theorem dX7_canAllBeIn_39 : decode cX7_canAllBeIn 39 = .ok (.aload_n 0, 1) := by decide +kernel
theorem dX7_canAllBeIn_40 : decode cX7_canAllBeIn 40 = .ok (.invokevirtual 78, 3) := by decide +kernel
theorem dX7_canAllBeIn_43 : decode cX7_canAllBeIn 43 = .ok (.aload_n 0, 1) := by decide +kernel
theorem dX7_canAllBeIn_44 : decode cX7_canAllBeIn 44 = .ok (.getfield 81, 3) := by decide +kernel
theorem dX7_canAllBeIn_47 : decode cX7_canAllBeIn 47 = .ok (.ireturn, 1) := by decide +kernel
theorem dX7_fewestMoves_0 : decode cX7_fewestMoves 0 = .ok (.aload_n 0, 1) := by decide +kernel
theorem dX7_fewestMoves_1 : decode cX7_fewestMoves 1 = .ok (.aload_n 0, 1) := by decide +kernel
theorem dX7_fewestMoves_2 : decode cX7_fewestMoves 2 = .ok (.getfield 35, 3) := by decide +kernel
theorem dX7_fewestMoves_5 : decode cX7_fewestMoves 5 = .ok (.getfield 60, 3) := by decide +kernel
theorem dX7_fewestMoves_8 : decode cX7_fewestMoves 8 = .ok (.invokevirtual 65, 3) := by decide +kernel
theorem dX7_fewestMoves_11 : decode cX7_fewestMoves 11 = .ok (.iconst 0, 1) := by decide +kernel
theorem dX7_fewestMoves_12 : decode cX7_fewestMoves 12 = .ok (.istore_n 2, 1) := by decide +kernel
theorem dX7_fewestMoves_13 : decode cX7_fewestMoves 13 = .ok (.iload_n 2, 1) := by decide +kernel
theorem dX7_fewestMoves_14 : decode cX7_fewestMoves 14 = .ok (.aload_n 0, 1) := by decide +kernel
theorem dX7_fewestMoves_15 : decode cX7_fewestMoves 15 = .ok (.getfield 71, 3) := by decide +kernel
theorem dX7_fewestMoves_18 : decode cX7_fewestMoves 18 = .ok (.if_icmp .ge 55, 3) := by decide +kernel
theorem dX7_fewestMoves_21 : decode cX7_fewestMoves 21 = .ok (.aload_n 0, 1) := by decide +kernel
theorem dX7_fewestMoves_22 : decode cX7_fewestMoves 22 = .ok (.getfield 35, 3) := by decide +kernel
theorem dX7_fewestMoves_25 : decode cX7_fewestMoves 25 = .ok (.getfield 85, 3) := by decide +kernel
theorem dX7_fewestMoves_28 : decode cX7_fewestMoves 28 = .ok (.iload_n 2, 1) := by decide +kernel
theorem dX7_fewestMoves_29 : decode cX7_fewestMoves 29 = .ok (.invokevirtual 39, 3) := by decide +kernel
theorem dX7_fewestMoves_32 : decode cX7_fewestMoves 32 = .ok (.istore_n 3, 1) := by decide +kernel
theorem dX7_fewestMoves_33 : decode cX7_fewestMoves 33 = .ok (.iload_n 2, 1) := by decide +kernel
theorem dX7_fewestMoves_34 : decode cX7_fewestMoves 34 = .ok (.iload_n 1, 1) := by decide +kernel
theorem dX7_fewestMoves_35 : decode cX7_fewestMoves 35 = .ok (.if_icmp .eq 21, 3) := by decide +kernel
theorem dX7_fewestMoves_38 : decode cX7_fewestMoves 38 = .ok (.iload_n 3, 1) := by decide +kernel
theorem dX7_fewestMoves_39 : decode cX7_fewestMoves 39 = .ok (.iconst 4, 1) := by decide +kernel
theorem dX7_fewestMoves_40 : decode cX7_fewestMoves 40 = .ok (.if_icmp .ne 16, 3) := by decide +kernel
theorem dX7_fewestMoves_43 : decode cX7_fewestMoves 43 = .ok (.aload_n 0, 1) := by decide +kernel
theorem dX7_fewestMoves_44 : decode cX7_fewestMoves 44 = .ok (.getfield 14, 3) := by decide +kernel
theorem dX7_fewestMoves_47 : decode cX7_fewestMoves 47 = .ok (.iload_n 2, 1) := by decide +kernel
theorem dX7_fewestMoves_48 : decode cX7_fewestMoves 48 = .ok (.bipush 16, 2) := by decide +kernel
theorem dX7_fewestMoves_50 : decode cX7_fewestMoves 50 = .ok (.invokevirtual 74, 3) := by decide +kernel
theorem dX7_fewestMoves_53 : decode cX7_fewestMoves 53 = .ok (.goto 14, 3) := by decide +kernel
theorem dX7_fewestMoves_56 : decode cX7_fewestMoves 56 = .ok (.iload_n 2, 1) := by decide +kernel
theorem dX7_fewestMoves_57 : decode cX7_fewestMoves 57 = .ok (.iload_n 1, 1) := by decide +kernel
theorem dX7_fewestMoves_58 : decode cX7_fewestMoves 58 = .ok (.if_icmp .eq 9, 3) := by decide +kernel
theorem dX7_fewestMoves_61 : decode cX7_fewestMoves 61 = .ok (.aload_n 0, 1) := by decide +kernel
theorem dX7_fewestMoves_62 : decode cX7_fewestMoves 62 = .ok (.iload_n 2, 1) := by decide +kernel
theorem dX7_fewestMoves_63 : decode cX7_fewestMoves 63 = .ok (.iload_n 3, 1) := by decide +kernel
theorem dX7_fewestMoves_64 : decode cX7_fewestMoves 64 = .ok (.invokevirtual 88, 3) := by decide +kernel
theorem dX7_fewestMoves_67 : decode cX7_fewestMoves 67 = .ok (.iinc 2 1, 3) := by decide +kernel
theorem dX7_fewestMoves_70 : decode cX7_fewestMoves 70 = .ok (.goto (-57), 3) := by decide +kernel
theorem dX7_fewestMoves_73 : decode cX7_fewestMoves 73 = .ok (.aload_n 0, 1) := by decide +kernel
theorem dX7_fewestMoves_74 : decode cX7_fewestMoves 74 = .ok (.invokevirtual 78, 3) := by decide +kernel
theorem dX7_fewestMoves_77 : decode cX7_fewestMoves 77 = .ok (.aload_n 0, 1) := by decide +kernel
theorem dX7_fewestMoves_78 : decode cX7_fewestMoves 78 = .ok (.getfield 81, 3) := by decide +kernel
theorem dX7_fewestMoves_81 : decode cX7_fewestMoves 81 = .ok (.ifCond .eq 11, 3) := by decide +kernel
theorem dX7_fewestMoves_84 : decode cX7_fewestMoves 84 = .ok (.aload_n 0, 1) := by decide +kernel
theorem dX7_fewestMoves_85 : decode cX7_fewestMoves 85 = .ok (.getfield 47, 3) := by decide +kernel
theorem dX7_fewestMoves_88 : decode cX7_fewestMoves 88 = .ok (.ineg, 1) := by decide +kernel
theorem dX7_fewestMoves_89 : decode cX7_fewestMoves 89 = .ok (.goto 4, 3) := by decide +kernel
theorem dX7_fewestMoves_92 : decode cX7_fewestMoves 92 = .ok (.iconst (-1), 1) := by decide +kernel
theorem dX7_fewestMoves_93 : decode cX7_fewestMoves 93 = .ok (.ireturn, 1) := by decide +kernel
theorem dX7_setMoves_0 : decode cX7_setMoves 0 = .ok (.iconst 0, 1) := by decide +kernel
theorem dX7_setMoves_1 : decode cX7_setMoves 1 = .ok (.istore_n 3, 1) := by decide +kernel
theorem dX7_setMoves_2 : decode cX7_setMoves 2 = .ok (.iload_n 3, 1) := by decide +kernel
theorem dX7_setMoves_3 : decode cX7_setMoves 3 = .ok (.iconst 4, 1) := by decide +kernel
theorem dX7_setMoves_4 : decode cX7_setMoves 4 = .ok (.if_icmp .ge 31, 3) := by decide +kernel
theorem dX7_setMoves_7 : decode cX7_setMoves 7 = .ok (.aload_n 0, 1) := by decide +kernel
theorem dX7_setMoves_8 : decode cX7_setMoves 8 = .ok (.getfield 20, 3) := by decide +kernel
theorem dX7_setMoves_11 : decode cX7_setMoves 11 = .ok (.iload_n 1, 1) := by decide +kernel
theorem dX7_setMoves_12 : decode cX7_setMoves 12 = .ok (.iconst 4, 1) := by decide +kernel
theorem dX7_setMoves_13 : decode cX7_setMoves 13 = .ok (.imul, 1) := by decide +kernel
theorem dX7_setMoves_14 : decode cX7_setMoves 14 = .ok (.iload_n 3, 1) := by decide +kernel
theorem dX7_setMoves_15 : decode cX7_setMoves 15 = .ok (.iadd, 1) := by decide +kernel
theorem dX7_setMoves_16 : decode cX7_setMoves 16 = .ok (.iload_n 3, 1) := by decide +kernel
theorem dX7_setMoves_17 : decode cX7_setMoves 17 = .ok (.iload_n 2, 1) := by decide +kernel
theorem dX7_setMoves_18 : decode cX7_setMoves 18 = .ok (.if_icmp .ne 7, 3) := by decide +kernel
theorem dX7_setMoves_21 : decode cX7_setMoves 21 = .ok (.iconst 0, 1) := by decide +kernel
theorem dX7_setMoves_22 : decode cX7_setMoves 22 = .ok (.goto 4, 3) := by decide +kernel
theorem dX7_setMoves_25 : decode cX7_setMoves 25 = .ok (.iconst (-1), 1) := by decide +kernel
theorem dX7_setMoves_26 : decode cX7_setMoves 26 = .ok (.invokevirtual 74, 3) := by decide +kernel
theorem dX7_setMoves_29 : decode cX7_setMoves 29 = .ok (.iinc 3 1, 3) := by decide +kernel
theorem dX7_setMoves_32 : decode cX7_setMoves 32 = .ok (.goto (-30), 3) := by decide +kernel
theorem dX7_setMoves_35 : decode cX7_setMoves 35 = .ok (.return_, 1) := by decide +kernel
theorem dX7_takeInLine_0 : decode cX7_takeInLine 0 = .ok (.aload_n 0, 1) := by decide +kernel
theorem dX7_takeInLine_1 : decode cX7_takeInLine 1 = .ok (.aload_n 0, 1) := by decide +kernel
theorem dX7_takeInLine_2 : decode cX7_takeInLine 2 = .ok (.getfield 35, 3) := by decide +kernel
theorem dX7_takeInLine_5 : decode cX7_takeInLine 5 = .ok (.getfield 60, 3) := by decide +kernel
theorem dX7_takeInLine_8 : decode cX7_takeInLine 8 = .ok (.invokevirtual 65, 3) := by decide +kernel
theorem dX7_takeInLine_11 : decode cX7_takeInLine 11 = .ok (.aload_n 0, 1) := by decide +kernel
theorem dX7_takeInLine_12 : decode cX7_takeInLine 12 = .ok (.ldc 91, 2) := by decide +kernel
theorem dX7_takeInLine_14 : decode cX7_takeInLine 14 = .ok (.invokevirtual 68, 3) := by decide +kernel
theorem dX7_takeInLine_17 : decode cX7_takeInLine 17 = .ok (.iconst 0, 1) := by decide +kernel
theorem dX7_takeInLine_18 : decode cX7_takeInLine 18 = .ok (.istore_n 1, 1) := by decide +kernel
theorem dX7_takeInLine_19 : decode cX7_takeInLine 19 = .ok (.iconst 0, 1) := by decide +kernel
theorem dX7_takeInLine_20 : decode cX7_takeInLine 20 = .ok (.istore_n 2, 1) := by decide +kernel
theorem dX7_takeInLine_21 : decode cX7_takeInLine 21 = .ok (.iload_n 2, 1) := by decide +kernel
theorem dX7_takeInLine_22 : decode cX7_takeInLine 22 = .ok (.aload_n 0, 1) := by decide +kernel
theorem dX7_takeInLine_23 : decode cX7_takeInLine 23 = .ok (.getfield 71, 3) := by decide +kernel
theorem dX7_takeInLine_26 : decode cX7_takeInLine 26 = .ok (.if_icmp .ge 40, 3) := by decide +kernel
theorem dX7_takeInLine_29 : decode cX7_takeInLine 29 = .ok (.aload_n 0, 1) := by decide +kernel
theorem dX7_takeInLine_30 : decode cX7_takeInLine 30 = .ok (.iload_n 2, 1) := by decide +kernel
theorem dX7_takeInLine_31 : decode cX7_takeInLine 31 = .ok (.iload_n 1, 1) := by decide +kernel
theorem dX7_takeInLine_32 : decode cX7_takeInLine 32 = .ok (.invokevirtual 92, 3) := by decide +kernel
theorem dX7_takeInLine_35 : decode cX7_takeInLine 35 = .ok (.istore_n 3, 1) := by decide +kernel
theorem dX7_takeInLine_36 : decode cX7_takeInLine 36 = .ok (.iload_n 1, 1) := by decide +kernel
theorem dX7_takeInLine_37 : decode cX7_takeInLine 37 = .ok (.aload_n 0, 1) := by decide +kernel
theorem dX7_takeInLine_38 : decode cX7_takeInLine 38 = .ok (.iload_n 2, 1) := by decide +kernel
theorem dX7_takeInLine_39 : decode cX7_takeInLine 39 = .ok (.iload_n 3, 1) := by decide +kernel
theorem dX7_takeInLine_40 : decode cX7_takeInLine 40 = .ok (.invokevirtual 95, 3) := by decide +kernel
theorem dX7_takeInLine_43 : decode cX7_takeInLine 43 = .ok (.ior, 1) := by decide +kernel
theorem dX7_takeInLine_44 : decode cX7_takeInLine 44 = .ok (.istore_n 1, 1) := by decide +kernel
theorem dX7_takeInLine_45 : decode cX7_takeInLine 45 = .ok (.aload_n 0, 1) := by decide +kernel
theorem dX7_takeInLine_46 : decode cX7_takeInLine 46 = .ok (.dup, 1) := by decide +kernel
theorem dX7_takeInLine_47 : decode cX7_takeInLine 47 = .ok (.getfield 47, 3) := by decide +kernel
theorem dX7_takeInLine_50 : decode cX7_takeInLine 50 = .ok (.aload_n 0, 1) := by decide +kernel
theorem dX7_takeInLine_51 : decode cX7_takeInLine 51 = .ok (.iload_n 2, 1) := by decide +kernel
theorem dX7_takeInLine_52 : decode cX7_takeInLine 52 = .ok (.iload_n 3, 1) := by decide +kernel
theorem dX7_takeInLine_53 : decode cX7_takeInLine 53 = .ok (.invokevirtual 98, 3) := by decide +kernel
theorem dX7_takeInLine_56 : decode cX7_takeInLine 56 = .ok (.iadd, 1) := by decide +kernel
theorem dX7_takeInLine_57 : decode cX7_takeInLine 57 = .ok (.putfield 47, 3) := by decide +kernel
theorem dX7_takeInLine_60 : decode cX7_takeInLine 60 = .ok (.iinc 2 1, 3) := by decide +kernel
theorem dX7_takeInLine_63 : decode cX7_takeInLine 63 = .ok (.goto (-42), 3) := by decide +kernel
theorem dX7_takeInLine_66 : decode cX7_takeInLine 66 = .ok (.return_, 1) := by decide +kernel
theorem dX7_bestOrder_0 : decode cX7_bestOrder 0 = .ok (.aload_n 0, 1) := by decide +kernel
theorem dX7_bestOrder_1 : decode cX7_bestOrder 1 = .ok (.aload_n 0, 1) := by decide +kernel
theorem dX7_bestOrder_2 : decode cX7_bestOrder 2 = .ok (.getfield 35, 3) := by decide +kernel
theorem dX7_bestOrder_5 : decode cX7_bestOrder 5 = .ok (.getfield 60, 3) := by decide +kernel
theorem dX7_bestOrder_8 : decode cX7_bestOrder 8 = .ok (.invokevirtual 65, 3) := by decide +kernel
theorem dX7_bestOrder_11 : decode cX7_bestOrder 11 = .ok (.aload_n 0, 1) := by decide +kernel
theorem dX7_bestOrder_12 : decode cX7_bestOrder 12 = .ok (.ldc 91, 2) := by decide +kernel
theorem dX7_bestOrder_14 : decode cX7_bestOrder 14 = .ok (.invokevirtual 68, 3) := by decide +kernel
theorem dX7_bestOrder_17 : decode cX7_bestOrder 17 = .ok (.aload_n 0, 1) := by decide +kernel
theorem dX7_bestOrder_18 : decode cX7_bestOrder 18 = .ok (.iconst 0, 1) := by decide +kernel
theorem dX7_bestOrder_19 : decode cX7_bestOrder 19 = .ok (.iconst 0, 1) := by decide +kernel
theorem dX7_bestOrder_20 : decode cX7_bestOrder 20 = .ok (.iconst 0, 1) := by decide +kernel
theorem dX7_bestOrder_21 : decode cX7_bestOrder 21 = .ok (.iconst 0, 1) := by decide +kernel
theorem dX7_bestOrder_22 : decode cX7_bestOrder 22 = .ok (.aload_n 0, 1) := by decide +kernel
theorem dX7_bestOrder_23 : decode cX7_bestOrder 23 = .ok (.invokevirtual 101, 3) := by decide +kernel
theorem dX7_bestOrder_26 : decode cX7_bestOrder 26 = .ok (.invokevirtual 104, 3) := by decide +kernel
theorem dX7_bestOrder_29 : decode cX7_bestOrder 29 = .ok (.return_, 1) := by decide +kernel
theorem dX7_begin_0 : decode cX7_begin 0 = .ok (.aload_n 0, 1) := by decide +kernel
theorem dX7_begin_1 : decode cX7_begin 1 = .ok (.aload_n 0, 1) := by decide +kernel
theorem dX7_begin_2 : decode cX7_begin 2 = .ok (.getfield 35, 3) := by decide +kernel
theorem dX7_begin_5 : decode cX7_begin 5 = .ok (.invokevirtual 108, 3) := by decide +kernel
theorem dX7_begin_8 : decode cX7_begin 8 = .ok (.bipush 7, 2) := by decide +kernel
theorem dX7_begin_10 : decode cX7_begin 10 = .ok (.invokestatic 110, 3) := by decide +kernel
theorem dX7_begin_13 : decode cX7_begin 13 = .ok (.putfield 71, 3) := by decide +kernel
theorem dX7_begin_16 : decode cX7_begin 16 = .ok (.aload_n 0, 1) := by decide +kernel
theorem dX7_begin_17 : decode cX7_begin 17 = .ok (.iconst 0, 1) := by decide +kernel
theorem dX7_begin_18 : decode cX7_begin 18 = .ok (.putfield 81, 3) := by decide +kernel
theorem dX7_begin_21 : decode cX7_begin 21 = .ok (.aload_n 0, 1) := by decide +kernel
theorem dX7_begin_22 : decode cX7_begin 22 = .ok (.iconst 0, 1) := by decide +kernel
theorem dX7_begin_23 : decode cX7_begin 23 = .ok (.putfield 47, 3) := by decide +kernel
theorem dX7_begin_26 : decode cX7_begin 26 = .ok (.aload_n 0, 1) := by decide +kernel
theorem dX7_begin_27 : decode cX7_begin 27 = .ok (.iconst 0, 1) := by decide +kernel
theorem dX7_begin_28 : decode cX7_begin 28 = .ok (.putfield 43, 3) := by decide +kernel
theorem dX7_begin_31 : decode cX7_begin 31 = .ok (.iconst 0, 1) := by decide +kernel
theorem dX7_begin_32 : decode cX7_begin 32 = .ok (.istore_n 2, 1) := by decide +kernel
theorem dX7_begin_33 : decode cX7_begin 33 = .ok (.iload_n 2, 1) := by decide +kernel
theorem dX7_begin_34 : decode cX7_begin 34 = .ok (.aload_n 0, 1) := by decide +kernel
theorem dX7_begin_35 : decode cX7_begin 35 = .ok (.getfield 71, 3) := by decide +kernel
theorem dX7_begin_38 : decode cX7_begin 38 = .ok (.if_icmp .ge 70, 3) := by decide +kernel
theorem dX7_begin_41 : decode cX7_begin 41 = .ok (.aload_n 0, 1) := by decide +kernel
theorem dX7_begin_42 : decode cX7_begin 42 = .ok (.getfield 14, 3) := by decide +kernel
theorem dX7_begin_45 : decode cX7_begin 45 = .ok (.iload_n 2, 1) := by decide +kernel
theorem dX7_begin_46 : decode cX7_begin 46 = .ok (.aload_n 0, 1) := by decide +kernel
theorem dX7_begin_47 : decode cX7_begin 47 = .ok (.getfield 35, 3) := by decide +kernel
theorem dX7_begin_50 : decode cX7_begin 50 = .ok (.iload_n 2, 1) := by decide +kernel
theorem dX7_begin_51 : decode cX7_begin 51 = .ok (.iload_n 1, 1) := by decide +kernel
theorem dX7_begin_52 : decode cX7_begin 52 = .ok (.invokevirtual 113, 3) := by decide +kernel
theorem dX7_begin_55 : decode cX7_begin 55 = .ok (.invokevirtual 74, 3) := by decide +kernel
theorem dX7_begin_58 : decode cX7_begin 58 = .ok (.iconst 0, 1) := by decide +kernel
theorem dX7_begin_59 : decode cX7_begin 59 = .ok (.istore_n 3, 1) := by decide +kernel
theorem dX7_begin_60 : decode cX7_begin 60 = .ok (.iload_n 3, 1) := by decide +kernel
theorem dX7_begin_61 : decode cX7_begin 61 = .ok (.iconst 4, 1) := by decide +kernel
theorem dX7_begin_62 : decode cX7_begin 62 = .ok (.if_icmp .ge 40, 3) := by decide +kernel
theorem dX7_begin_65 : decode cX7_begin 65 = .ok (.aload_n 0, 1) := by decide +kernel
theorem dX7_begin_66 : decode cX7_begin 66 = .ok (.getfield 20, 3) := by decide +kernel
theorem dX7_begin_69 : decode cX7_begin 69 = .ok (.iload_n 2, 1) := by decide +kernel
theorem dX7_begin_70 : decode cX7_begin 70 = .ok (.iconst 4, 1) := by decide +kernel
theorem dX7_begin_71 : decode cX7_begin 71 = .ok (.imul, 1) := by decide +kernel
theorem dX7_begin_72 : decode cX7_begin 72 = .ok (.iload_n 3, 1) := by decide +kernel
theorem dX7_begin_73 : decode cX7_begin 73 = .ok (.iadd, 1) := by decide +kernel
theorem dX7_begin_74 : decode cX7_begin 74 = .ok (.iconst 0, 1) := by decide +kernel
theorem dX7_begin_75 : decode cX7_begin 75 = .ok (.invokevirtual 74, 3) := by decide +kernel
theorem dX7_begin_78 : decode cX7_begin 78 = .ok (.aload_n 0, 1) := by decide +kernel
theorem dX7_begin_79 : decode cX7_begin 79 = .ok (.getfield 23, 3) := by decide +kernel
theorem dX7_begin_82 : decode cX7_begin 82 = .ok (.iload_n 2, 1) := by decide +kernel
theorem dX7_begin_83 : decode cX7_begin 83 = .ok (.iconst 4, 1) := by decide +kernel
theorem dX7_begin_84 : decode cX7_begin 84 = .ok (.imul, 1) := by decide +kernel
theorem dX7_begin_85 : decode cX7_begin 85 = .ok (.iload_n 3, 1) := by decide +kernel
theorem dX7_begin_86 : decode cX7_begin 86 = .ok (.iadd, 1) := by decide +kernel
theorem dX7_begin_87 : decode cX7_begin 87 = .ok (.aload_n 0, 1) := by decide +kernel
theorem dX7_begin_88 : decode cX7_begin 88 = .ok (.iload_n 2, 1) := by decide +kernel
theorem dX7_begin_89 : decode cX7_begin 89 = .ok (.iload_n 3, 1) := by decide +kernel
theorem dX7_begin_90 : decode cX7_begin 90 = .ok (.invokevirtual 116, 3) := by decide +kernel
theorem dX7_begin_93 : decode cX7_begin 93 = .ok (.invokevirtual 74, 3) := by decide +kernel
theorem dX7_begin_96 : decode cX7_begin 96 = .ok (.iinc 3 1, 3) := by decide +kernel
theorem dX7_begin_99 : decode cX7_begin 99 = .ok (.goto (-39), 3) := by decide +kernel
theorem dX7_begin_102 : decode cX7_begin 102 = .ok (.iinc 2 1, 3) := by decide +kernel
theorem dX7_begin_105 : decode cX7_begin 105 = .ok (.goto (-72), 3) := by decide +kernel
theorem dX7_begin_108 : decode cX7_begin 108 = .ok (.return_, 1) := by decide +kernel
theorem dX7_clashing_0 : decode cX7_clashing 0 = .ok (.iconst 0, 1) := by decide +kernel
theorem dX7_clashing_1 : decode cX7_clashing 1 = .ok (.istore_n 3, 1) := by decide +kernel
theorem dX7_clashing_2 : decode cX7_clashing 2 = .ok (.iconst 0, 1) := by decide +kernel
theorem dX7_clashing_3 : decode cX7_clashing 3 = .ok (.istore 4, 2) := by decide +kernel
theorem dX7_clashing_5 : decode cX7_clashing 5 = .ok (.iload 4, 2) := by decide +kernel
theorem dX7_clashing_7 : decode cX7_clashing 7 = .ok (.aload_n 0, 1) := by decide +kernel
theorem dX7_clashing_8 : decode cX7_clashing 8 = .ok (.getfield 71, 3) := by decide +kernel
theorem dX7_clashing_11 : decode cX7_clashing 11 = .ok (.if_icmp .ge 58, 3) := by decide +kernel
theorem dX7_clashing_14 : decode cX7_clashing 14 = .ok (.iconst 0, 1) := by decide +kernel
theorem dX7_clashing_15 : decode cX7_clashing 15 = .ok (.istore 5, 2) := by decide +kernel
theorem dX7_clashing_17 : decode cX7_clashing 17 = .ok (.iload 5, 2) := by decide +kernel
theorem dX7_clashing_19 : decode cX7_clashing 19 = .ok (.iconst 4, 1) := by decide +kernel
theorem dX7_clashing_20 : decode cX7_clashing 20 = .ok (.if_icmp .ge 43, 3) := by decide +kernel
theorem dX7_clashing_23 : decode cX7_clashing 23 = .ok (.iload 4, 2) := by decide +kernel
theorem dX7_clashing_25 : decode cX7_clashing 25 = .ok (.iload_n 1, 1) := by decide +kernel
theorem dX7_clashing_26 : decode cX7_clashing 26 = .ok (.if_icmp .eq 31, 3) := by decide +kernel
theorem dX7_clashing_29 : decode cX7_clashing 29 = .ok (.aload_n 0, 1) := by decide +kernel
theorem dX7_clashing_30 : decode cX7_clashing 30 = .ok (.getfield 35, 3) := by decide +kernel
theorem dX7_clashing_33 : decode cX7_clashing 33 = .ok (.iload_n 1, 1) := by decide +kernel
theorem dX7_clashing_34 : decode cX7_clashing 34 = .ok (.iload_n 2, 1) := by decide +kernel
theorem dX7_clashing_35 : decode cX7_clashing 35 = .ok (.iload 4, 2) := by decide +kernel
theorem dX7_clashing_37 : decode cX7_clashing 37 = .ok (.iload 5, 2) := by decide +kernel
theorem dX7_clashing_39 : decode cX7_clashing 39 = .ok (.invokevirtual 119, 3) := by decide +kernel
theorem dX7_clashing_42 : decode cX7_clashing 42 = .ok (.ifCond .le 15, 3) := by decide +kernel
theorem dX7_clashing_45 : decode cX7_clashing 45 = .ok (.iload_n 3, 1) := by decide +kernel
theorem dX7_clashing_46 : decode cX7_clashing 46 = .ok (.iconst 1, 1) := by decide +kernel
theorem dX7_clashing_47 : decode cX7_clashing 47 = .ok (.iload 4, 2) := by decide +kernel
theorem dX7_clashing_49 : decode cX7_clashing 49 = .ok (.iconst 4, 1) := by decide +kernel
theorem dX7_clashing_50 : decode cX7_clashing 50 = .ok (.imul, 1) := by decide +kernel
theorem dX7_clashing_51 : decode cX7_clashing 51 = .ok (.iload 5, 2) := by decide +kernel
theorem dX7_clashing_53 : decode cX7_clashing 53 = .ok (.iadd, 1) := by decide +kernel
theorem dX7_clashing_54 : decode cX7_clashing 54 = .ok (.ishl, 1) := by decide +kernel
theorem dX7_clashing_55 : decode cX7_clashing 55 = .ok (.ior, 1) := by decide +kernel
theorem dX7_clashing_56 : decode cX7_clashing 56 = .ok (.istore_n 3, 1) := by decide +kernel
theorem dX7_clashing_57 : decode cX7_clashing 57 = .ok (.iinc 5 1, 3) := by decide +kernel
theorem dX7_clashing_60 : decode cX7_clashing 60 = .ok (.goto (-43), 3) := by decide +kernel
theorem dX7_clashing_63 : decode cX7_clashing 63 = .ok (.iinc 4 1, 3) := by decide +kernel
theorem dX7_clashing_66 : decode cX7_clashing 66 = .ok (.goto (-61), 3) := by decide +kernel
theorem dX7_clashing_69 : decode cX7_clashing 69 = .ok (.iload_n 3, 1) := by decide +kernel
theorem dX7_clashing_70 : decode cX7_clashing 70 = .ok (.ireturn, 1) := by decide +kernel
theorem dX7_value_0 : decode cX7_value 0 = .ok (.aload_n 0, 1) := by decide +kernel
theorem dX7_value_1 : decode cX7_value 1 = .ok (.iload_n 1, 1) := by decide +kernel
theorem dX7_value_2 : decode cX7_value 2 = .ok (.putfield 43, 3) := by decide +kernel
theorem dX7_value_5 : decode cX7_value 5 = .ok (.iconst 0, 1) := by decide +kernel
theorem dX7_value_6 : decode cX7_value 6 = .ok (.istore_n 2, 1) := by decide +kernel
theorem dX7_value_7 : decode cX7_value 7 = .ok (.iload_n 2, 1) := by decide +kernel
theorem dX7_value_8 : decode cX7_value 8 = .ok (.aload_n 0, 1) := by decide +kernel
theorem dX7_value_9 : decode cX7_value 9 = .ok (.getfield 71, 3) := by decide +kernel
theorem dX7_value_12 : decode cX7_value 12 = .ok (.if_icmp .ge 45, 3) := by decide +kernel
theorem dX7_value_15 : decode cX7_value 15 = .ok (.iconst 0, 1) := by decide +kernel
theorem dX7_value_16 : decode cX7_value 16 = .ok (.istore_n 3, 1) := by decide +kernel
theorem dX7_value_17 : decode cX7_value 17 = .ok (.iload_n 3, 1) := by decide +kernel
theorem dX7_value_18 : decode cX7_value 18 = .ok (.iconst 4, 1) := by decide +kernel
theorem dX7_value_19 : decode cX7_value 19 = .ok (.if_icmp .ge 32, 3) := by decide +kernel
theorem dX7_value_22 : decode cX7_value 22 = .ok (.aload_n 0, 1) := by decide +kernel
theorem dX7_value_23 : decode cX7_value 23 = .ok (.getfield 20, 3) := by decide +kernel
theorem dX7_value_26 : decode cX7_value 26 = .ok (.iload_n 2, 1) := by decide +kernel
theorem dX7_value_27 : decode cX7_value 27 = .ok (.iconst 4, 1) := by decide +kernel
theorem dX7_value_28 : decode cX7_value 28 = .ok (.imul, 1) := by decide +kernel
theorem dX7_value_29 : decode cX7_value 29 = .ok (.iload_n 3, 1) := by decide +kernel
theorem dX7_value_30 : decode cX7_value 30 = .ok (.iadd, 1) := by decide +kernel
theorem dX7_value_31 : decode cX7_value 31 = .ok (.iload_n 1, 1) := by decide +kernel
theorem dX7_value_32 : decode cX7_value 32 = .ok (.aload_n 0, 1) := by decide +kernel
theorem dX7_value_33 : decode cX7_value 33 = .ok (.getfield 35, 3) := by decide +kernel
theorem dX7_value_36 : decode cX7_value 36 = .ok (.iload_n 2, 1) := by decide +kernel
theorem dX7_value_37 : decode cX7_value 37 = .ok (.iload_n 3, 1) := by decide +kernel
theorem dX7_value_38 : decode cX7_value 38 = .ok (.invokevirtual 123, 3) := by decide +kernel
theorem dX7_value_41 : decode cX7_value 41 = .ok (.iadd, 1) := by decide +kernel
theorem dX7_value_42 : decode cX7_value 42 = .ok (.invokevirtual 74, 3) := by decide +kernel
theorem dX7_value_45 : decode cX7_value 45 = .ok (.iinc 3 1, 3) := by decide +kernel
theorem dX7_value_48 : decode cX7_value 48 = .ok (.goto (-31), 3) := by decide +kernel
theorem dX7_value_51 : decode cX7_value 51 = .ok (.iinc 2 1, 3) := by decide +kernel
theorem dX7_value_54 : decode cX7_value 54 = .ok (.goto (-47), 3) := by decide +kernel
theorem dX7_value_57 : decode cX7_value 57 = .ok (.return_, 1) := by decide +kernel
theorem dX7_clashesOf_0 : decode cX7_clashesOf 0 = .ok (.iload_n 2, 1) := by decide +kernel
theorem dX7_clashesOf_1 : decode cX7_clashesOf 1 = .ok (.iconst 4, 1) := by decide +kernel
theorem dX7_clashesOf_2 : decode cX7_clashesOf 2 = .ok (.if_icmp .ne 7, 3) := by decide +kernel
theorem dX7_clashesOf_5 : decode cX7_clashesOf 5 = .ok (.iconst 0, 1) := by decide +kernel
theorem dX7_clashesOf_6 : decode cX7_clashesOf 6 = .ok (.goto 15, 3) := by decide +kernel
theorem dX7_clashesOf_9 : decode cX7_clashesOf 9 = .ok (.aload_n 0, 1) := by decide +kernel
theorem dX7_clashesOf_10 : decode cX7_clashesOf 10 = .ok (.getfield 23, 3) := by decide +kernel
theorem dX7_clashesOf_13 : decode cX7_clashesOf 13 = .ok (.iload_n 1, 1) := by decide +kernel
theorem dX7_clashesOf_14 : decode cX7_clashesOf 14 = .ok (.iconst 4, 1) := by decide +kernel
theorem dX7_clashesOf_15 : decode cX7_clashesOf 15 = .ok (.imul, 1) := by decide +kernel
theorem dX7_clashesOf_16 : decode cX7_clashesOf 16 = .ok (.iload_n 2, 1) := by decide +kernel
theorem dX7_clashesOf_17 : decode cX7_clashesOf 17 = .ok (.iadd, 1) := by decide +kernel
theorem dX7_clashesOf_18 : decode cX7_clashesOf 18 = .ok (.invokevirtual 39, 3) := by decide +kernel
theorem dX7_clashesOf_21 : decode cX7_clashesOf 21 = .ok (.ireturn, 1) := by decide +kernel
theorem dX7_valueOf_0 : decode cX7_valueOf 0 = .ok (.iload_n 2, 1) := by decide +kernel
theorem dX7_valueOf_1 : decode cX7_valueOf 1 = .ok (.iconst 4, 1) := by decide +kernel
theorem dX7_valueOf_2 : decode cX7_valueOf 2 = .ok (.if_icmp .ne 7, 3) := by decide +kernel
theorem dX7_valueOf_5 : decode cX7_valueOf 5 = .ok (.iconst 0, 1) := by decide +kernel
theorem dX7_valueOf_6 : decode cX7_valueOf 6 = .ok (.goto 15, 3) := by decide +kernel
theorem dX7_valueOf_9 : decode cX7_valueOf 9 = .ok (.aload_n 0, 1) := by decide +kernel
theorem dX7_valueOf_10 : decode cX7_valueOf 10 = .ok (.getfield 20, 3) := by decide +kernel
theorem dX7_valueOf_13 : decode cX7_valueOf 13 = .ok (.iload_n 1, 1) := by decide +kernel
theorem dX7_valueOf_14 : decode cX7_valueOf 14 = .ok (.iconst 4, 1) := by decide +kernel
theorem dX7_valueOf_15 : decode cX7_valueOf 15 = .ok (.imul, 1) := by decide +kernel
theorem dX7_valueOf_16 : decode cX7_valueOf 16 = .ok (.iload_n 2, 1) := by decide +kernel
theorem dX7_valueOf_17 : decode cX7_valueOf 17 = .ok (.iadd, 1) := by decide +kernel
theorem dX7_valueOf_18 : decode cX7_valueOf 18 = .ok (.invokevirtual 39, 3) := by decide +kernel
theorem dX7_valueOf_21 : decode cX7_valueOf 21 = .ok (.ireturn, 1) := by decide +kernel
theorem dX7_dearest_0 : decode cX7_dearest 0 = .ok (.iconst 4, 1) := by decide +kernel
theorem dX7_dearest_1 : decode cX7_dearest 1 = .ok (.istore_n 3, 1) := by decide +kernel
theorem dX7_dearest_2 : decode cX7_dearest 2 = .ok (.iconst 0, 1) := by decide +kernel
theorem dX7_dearest_3 : decode cX7_dearest 3 = .ok (.istore 4, 2) := by decide +kernel
theorem dX7_dearest_5 : decode cX7_dearest 5 = .ok (.iload 4, 2) := by decide +kernel
theorem dX7_dearest_7 : decode cX7_dearest 7 = .ok (.iconst 4, 1) := by decide +kernel
theorem dX7_dearest_8 : decode cX7_dearest 8 = .ok (.if_icmp .ge 44, 3) := by decide +kernel
theorem dX7_dearest_11 : decode cX7_dearest 11 = .ok (.aload_n 0, 1) := by decide +kernel
theorem dX7_dearest_12 : decode cX7_dearest 12 = .ok (.iload_n 1, 1) := by decide +kernel
theorem dX7_dearest_13 : decode cX7_dearest 13 = .ok (.iload 4, 2) := by decide +kernel
theorem dX7_dearest_15 : decode cX7_dearest 15 = .ok (.iload_n 2, 1) := by decide +kernel
theorem dX7_dearest_16 : decode cX7_dearest 16 = .ok (.invokevirtual 126, 3) := by decide +kernel
theorem dX7_dearest_19 : decode cX7_dearest 19 = .ok (.ifCond .eq 27, 3) := by decide +kernel
theorem dX7_dearest_22 : decode cX7_dearest 22 = .ok (.iload_n 3, 1) := by decide +kernel
theorem dX7_dearest_23 : decode cX7_dearest 23 = .ok (.iconst 4, 1) := by decide +kernel
theorem dX7_dearest_24 : decode cX7_dearest 24 = .ok (.if_icmp .eq 19, 3) := by decide +kernel
theorem dX7_dearest_27 : decode cX7_dearest 27 = .ok (.aload_n 0, 1) := by decide +kernel
theorem dX7_dearest_28 : decode cX7_dearest 28 = .ok (.iload_n 1, 1) := by decide +kernel
theorem dX7_dearest_29 : decode cX7_dearest 29 = .ok (.iload 4, 2) := by decide +kernel
theorem dX7_dearest_31 : decode cX7_dearest 31 = .ok (.invokevirtual 98, 3) := by decide +kernel
theorem dX7_dearest_34 : decode cX7_dearest 34 = .ok (.aload_n 0, 1) := by decide +kernel
theorem dX7_dearest_35 : decode cX7_dearest 35 = .ok (.iload_n 1, 1) := by decide +kernel
theorem dX7_dearest_36 : decode cX7_dearest 36 = .ok (.iload_n 3, 1) := by decide +kernel
theorem dX7_dearest_37 : decode cX7_dearest 37 = .ok (.invokevirtual 98, 3) := by decide +kernel
theorem dX7_dearest_40 : decode cX7_dearest 40 = .ok (.if_icmp .le 6, 3) := by decide +kernel
theorem dX7_dearest_43 : decode cX7_dearest 43 = .ok (.iload 4, 2) := by decide +kernel
theorem dX7_dearest_45 : decode cX7_dearest 45 = .ok (.istore_n 3, 1) := by decide +kernel
theorem dX7_dearest_46 : decode cX7_dearest 46 = .ok (.iinc 4 1, 3) := by decide +kernel
theorem dX7_dearest_49 : decode cX7_dearest 49 = .ok (.goto (-44), 3) := by decide +kernel
theorem dX7_dearest_52 : decode cX7_dearest 52 = .ok (.iload_n 3, 1) := by decide +kernel
theorem dX7_dearest_53 : decode cX7_dearest 53 = .ok (.ireturn, 1) := by decide +kernel
theorem dX7_isOpen_0 : decode cX7_isOpen 0 = .ok (.aload_n 0, 1) := by decide +kernel
theorem dX7_isOpen_1 : decode cX7_isOpen 1 = .ok (.getfield 14, 3) := by decide +kernel
theorem dX7_isOpen_4 : decode cX7_isOpen 4 = .ok (.iload_n 1, 1) := by decide +kernel
theorem dX7_isOpen_5 : decode cX7_isOpen 5 = .ok (.invokevirtual 39, 3) := by decide +kernel
theorem dX7_isOpen_8 : decode cX7_isOpen 8 = .ok (.iload_n 2, 1) := by decide +kernel
theorem dX7_isOpen_9 : decode cX7_isOpen 9 = .ok (.invokestatic 130, 3) := by decide +kernel
theorem dX7_isOpen_12 : decode cX7_isOpen 12 = .ok (.ifCond .eq 24, 3) := by decide +kernel
theorem dX7_isOpen_15 : decode cX7_isOpen 15 = .ok (.iload_n 2, 1) := by decide +kernel
theorem dX7_isOpen_16 : decode cX7_isOpen 16 = .ok (.iconst 4, 1) := by decide +kernel
theorem dX7_isOpen_17 : decode cX7_isOpen 17 = .ok (.if_icmp .eq 15, 3) := by decide +kernel
theorem dX7_isOpen_20 : decode cX7_isOpen 20 = .ok (.iload_n 3, 1) := by decide +kernel
theorem dX7_isOpen_21 : decode cX7_isOpen 21 = .ok (.iload_n 1, 1) := by decide +kernel
theorem dX7_isOpen_22 : decode cX7_isOpen 22 = .ok (.iconst 4, 1) := by decide +kernel
theorem dX7_isOpen_23 : decode cX7_isOpen 23 = .ok (.imul, 1) := by decide +kernel
theorem dX7_isOpen_24 : decode cX7_isOpen 24 = .ok (.iload_n 2, 1) := by decide +kernel
theorem dX7_isOpen_25 : decode cX7_isOpen 25 = .ok (.iadd, 1) := by decide +kernel
theorem dX7_isOpen_26 : decode cX7_isOpen 26 = .ok (.invokestatic 130, 3) := by decide +kernel
theorem dX7_isOpen_29 : decode cX7_isOpen 29 = .ok (.ifCond .ne 7, 3) := by decide +kernel
theorem dX7_isOpen_32 : decode cX7_isOpen 32 = .ok (.iconst 1, 1) := by decide +kernel
theorem dX7_isOpen_33 : decode cX7_isOpen 33 = .ok (.goto 4, 3) := by decide +kernel
theorem dX7_isOpen_36 : decode cX7_isOpen 36 = .ok (.iconst 0, 1) := by decide +kernel
theorem dX7_isOpen_37 : decode cX7_isOpen 37 = .ok (.ireturn, 1) := by decide +kernel
theorem dX7_hopes_0 : decode cX7_hopes 0 = .ok (.iconst 0, 1) := by decide +kernel
theorem dX7_hopes_1 : decode cX7_hopes 1 = .ok (.istore_n 1, 1) := by decide +kernel
theorem dX7_hopes_2 : decode cX7_hopes 2 = .ok (.iconst 0, 1) := by decide +kernel
theorem dX7_hopes_3 : decode cX7_hopes 3 = .ok (.istore_n 2, 1) := by decide +kernel
theorem dX7_hopes_4 : decode cX7_hopes 4 = .ok (.iload_n 2, 1) := by decide +kernel
theorem dX7_hopes_5 : decode cX7_hopes 5 = .ok (.aload_n 0, 1) := by decide +kernel
theorem dX7_hopes_6 : decode cX7_hopes 6 = .ok (.getfield 71, 3) := by decide +kernel
theorem dX7_hopes_9 : decode cX7_hopes 9 = .ok (.if_icmp .ge 55, 3) := by decide +kernel
theorem dX7_hopes_12 : decode cX7_hopes 12 = .ok (.aload_n 0, 1) := by decide +kernel
theorem dX7_hopes_13 : decode cX7_hopes 13 = .ok (.iload_n 2, 1) := by decide +kernel
theorem dX7_hopes_14 : decode cX7_hopes 14 = .ok (.aload_n 0, 1) := by decide +kernel
theorem dX7_hopes_15 : decode cX7_hopes 15 = .ok (.iload_n 2, 1) := by decide +kernel
theorem dX7_hopes_16 : decode cX7_hopes 16 = .ok (.iconst 0, 1) := by decide +kernel
theorem dX7_hopes_17 : decode cX7_hopes 17 = .ok (.invokevirtual 92, 3) := by decide +kernel
theorem dX7_hopes_20 : decode cX7_hopes 20 = .ok (.invokevirtual 98, 3) := by decide +kernel
theorem dX7_hopes_23 : decode cX7_hopes 23 = .ok (.istore_n 3, 1) := by decide +kernel
theorem dX7_hopes_24 : decode cX7_hopes 24 = .ok (.aload_n 0, 1) := by decide +kernel
theorem dX7_hopes_25 : decode cX7_hopes 25 = .ok (.getfield 14, 3) := by decide +kernel
theorem dX7_hopes_28 : decode cX7_hopes 28 = .ok (.iload_n 2, 1) := by decide +kernel
theorem dX7_hopes_29 : decode cX7_hopes 29 = .ok (.invokevirtual 39, 3) := by decide +kernel
theorem dX7_hopes_32 : decode cX7_hopes 32 = .ok (.iconst 4, 1) := by decide +kernel
theorem dX7_hopes_33 : decode cX7_hopes 33 = .ok (.invokestatic 130, 3) := by decide +kernel
theorem dX7_hopes_36 : decode cX7_hopes 36 = .ok (.ifCond .eq 9, 3) := by decide +kernel
theorem dX7_hopes_39 : decode cX7_hopes 39 = .ok (.iload_n 3, 1) := by decide +kernel
theorem dX7_hopes_40 : decode cX7_hopes 40 = .ok (.iconst 0, 1) := by decide +kernel
theorem dX7_hopes_41 : decode cX7_hopes 41 = .ok (.invokestatic 134, 3) := by decide +kernel
theorem dX7_hopes_44 : decode cX7_hopes 44 = .ok (.istore_n 3, 1) := by decide +kernel
theorem dX7_hopes_45 : decode cX7_hopes 45 = .ok (.aload_n 0, 1) := by decide +kernel
theorem dX7_hopes_46 : decode cX7_hopes 46 = .ok (.getfield 26, 3) := by decide +kernel
theorem dX7_hopes_49 : decode cX7_hopes 49 = .ok (.iload_n 2, 1) := by decide +kernel
theorem dX7_hopes_50 : decode cX7_hopes 50 = .ok (.iload_n 3, 1) := by decide +kernel
theorem dX7_hopes_51 : decode cX7_hopes 51 = .ok (.invokevirtual 74, 3) := by decide +kernel
theorem dX7_hopes_54 : decode cX7_hopes 54 = .ok (.iload_n 1, 1) := by decide +kernel
theorem dX7_hopes_55 : decode cX7_hopes 55 = .ok (.iload_n 3, 1) := by decide +kernel
theorem dX7_hopes_56 : decode cX7_hopes 56 = .ok (.iadd, 1) := by decide +kernel
theorem dX7_hopes_57 : decode cX7_hopes 57 = .ok (.istore_n 1, 1) := by decide +kernel
theorem dX7_hopes_58 : decode cX7_hopes 58 = .ok (.iinc 2 1, 3) := by decide +kernel
theorem dX7_hopes_61 : decode cX7_hopes 61 = .ok (.goto (-57), 3) := by decide +kernel
theorem dX7_hopes_64 : decode cX7_hopes 64 = .ok (.iload_n 1, 1) := by decide +kernel
theorem dX7_hopes_65 : decode cX7_hopes 65 = .ok (.ireturn, 1) := by decide +kernel
theorem dX7_goWays_0 : decode cX7_goWays 0 = .ok (.iconst 0, 1) := by decide +kernel
theorem dX7_goWays_1 : decode cX7_goWays 1 = .ok (.istore_n 1, 1) := by decide +kernel
theorem dX7_goWays_2 : decode cX7_goWays 2 = .ok (.iload_n 1, 1) := by decide +kernel
theorem dX7_goWays_3 : decode cX7_goWays 3 = .ok (.aload_n 0, 1) := by decide +kernel
theorem dX7_goWays_4 : decode cX7_goWays 4 = .ok (.getfield 71, 3) := by decide +kernel
theorem dX7_goWays_7 : decode cX7_goWays 7 = .ok (.if_icmp .ge 21, 3) := by decide +kernel
theorem dX7_goWays_10 : decode cX7_goWays 10 = .ok (.aload_n 0, 1) := by decide +kernel
theorem dX7_goWays_11 : decode cX7_goWays 11 = .ok (.getfield 14, 3) := by decide +kernel
theorem dX7_goWays_14 : decode cX7_goWays 14 = .ok (.iload_n 1, 1) := by decide +kernel
theorem dX7_goWays_15 : decode cX7_goWays 15 = .ok (.invokevirtual 39, 3) := by decide +kernel
theorem dX7_goWays_18 : decode cX7_goWays 18 = .ok (.ifCond .ne 4, 3) := by decide +kernel
theorem dX7_goWays_21 : decode cX7_goWays 21 = .ok (.return_, 1) := by decide +kernel
theorem dX7_goWays_22 : decode cX7_goWays 22 = .ok (.iinc 1 1, 3) := by decide +kernel
theorem dX7_goWays_25 : decode cX7_goWays 25 = .ok (.goto (-23), 3) := by decide +kernel
theorem dX7_goWays_28 : decode cX7_goWays 28 = .ok (.aload_n 0, 1) := by decide +kernel
theorem dX7_goWays_29 : decode cX7_goWays 29 = .ok (.iconst 0, 1) := by decide +kernel
theorem dX7_goWays_30 : decode cX7_goWays 30 = .ok (.iconst 0, 1) := by decide +kernel
theorem dX7_goWays_31 : decode cX7_goWays 31 = .ok (.iconst 0, 1) := by decide +kernel
theorem dX7_goWays_32 : decode cX7_goWays 32 = .ok (.aload_n 0, 1) := by decide +kernel
theorem dX7_goWays_33 : decode cX7_goWays 33 = .ok (.invokevirtual 101, 3) := by decide +kernel
theorem dX7_goWays_36 : decode cX7_goWays 36 = .ok (.invokevirtual 137, 3) := by decide +kernel
theorem dX7_goWays_39 : decode cX7_goWays 39 = .ok (.return_, 1) := by decide +kernel
theorem dX7_goOn_0 : decode cX7_goOn 0 = .ok (.aload_n 0, 1) := by decide +kernel
theorem dX7_goOn_1 : decode cX7_goOn 1 = .ok (.getfield 81, 3) := by decide +kernel
theorem dX7_goOn_4 : decode cX7_goOn 4 = .ok (.ifCond .eq 15, 3) := by decide +kernel
theorem dX7_goOn_7 : decode cX7_goOn 7 = .ok (.iload_n 3, 1) := by decide +kernel
theorem dX7_goOn_8 : decode cX7_goOn 8 = .ok (.iload 4, 2) := by decide +kernel
theorem dX7_goOn_10 : decode cX7_goOn 10 = .ok (.iadd, 1) := by decide +kernel
theorem dX7_goOn_11 : decode cX7_goOn 11 = .ok (.aload_n 0, 1) := by decide +kernel
theorem dX7_goOn_12 : decode cX7_goOn 12 = .ok (.getfield 47, 3) := by decide +kernel
theorem dX7_goOn_15 : decode cX7_goOn 15 = .ok (.if_icmp .gt 4, 3) := by decide +kernel
theorem dX7_goOn_18 : decode cX7_goOn 18 = .ok (.return_, 1) := by decide +kernel
theorem dX7_goOn_19 : decode cX7_goOn 19 = .ok (.iload_n 1, 1) := by decide +kernel
theorem dX7_goOn_20 : decode cX7_goOn 20 = .ok (.aload_n 0, 1) := by decide +kernel
theorem dX7_goOn_21 : decode cX7_goOn 21 = .ok (.getfield 71, 3) := by decide +kernel
theorem dX7_goOn_24 : decode cX7_goOn 24 = .ok (.if_icmp .lt 9, 3) := by decide +kernel
theorem dX7_goOn_27 : decode cX7_goOn 27 = .ok (.aload_n 0, 1) := by decide +kernel
theorem dX7_goOn_28 : decode cX7_goOn 28 = .ok (.iload_n 3, 1) := by decide +kernel
theorem dX7_goOn_29 : decode cX7_goOn 29 = .ok (.invokevirtual 141, 3) := by decide +kernel
theorem dX7_goOn_32 : decode cX7_goOn 32 = .ok (.return_, 1) := by decide +kernel
theorem dX7_goOn_33 : decode cX7_goOn 33 = .ok (.iconst 0, 1) := by decide +kernel
theorem dX7_goOn_34 : decode cX7_goOn 34 = .ok (.istore 5, 2) := by decide +kernel
theorem dX7_goOn_36 : decode cX7_goOn 36 = .ok (.iload 5, 2) := by decide +kernel
theorem dX7_goOn_38 : decode cX7_goOn 38 = .ok (.iconst 4, 1) := by decide +kernel
theorem dX7_goOn_39 : decode cX7_goOn 39 = .ok (.if_icmp .gt 66, 3) := by decide +kernel
theorem dX7_goOn_42 : decode cX7_goOn 42 = .ok (.aload_n 0, 1) := by decide +kernel
theorem dX7_goOn_43 : decode cX7_goOn 43 = .ok (.iload_n 1, 1) := by decide +kernel
theorem dX7_goOn_44 : decode cX7_goOn 44 = .ok (.iload 5, 2) := by decide +kernel
theorem dX7_goOn_46 : decode cX7_goOn 46 = .ok (.iload_n 2, 1) := by decide +kernel
theorem dX7_goOn_47 : decode cX7_goOn 47 = .ok (.invokevirtual 126, 3) := by decide +kernel
theorem dX7_goOn_50 : decode cX7_goOn 50 = .ok (.ifCond .eq 49, 3) := by decide +kernel
theorem dX7_goOn_53 : decode cX7_goOn 53 = .ok (.aload_n 0, 1) := by decide +kernel
theorem dX7_goOn_54 : decode cX7_goOn 54 = .ok (.getfield 29, 3) := by decide +kernel
theorem dX7_goOn_57 : decode cX7_goOn 57 = .ok (.iload_n 1, 1) := by decide +kernel
theorem dX7_goOn_58 : decode cX7_goOn 58 = .ok (.iload 5, 2) := by decide +kernel
theorem dX7_goOn_60 : decode cX7_goOn 60 = .ok (.invokevirtual 74, 3) := by decide +kernel
theorem dX7_goOn_63 : decode cX7_goOn 63 = .ok (.aload_n 0, 1) := by decide +kernel
theorem dX7_goOn_64 : decode cX7_goOn 64 = .ok (.iload_n 1, 1) := by decide +kernel
theorem dX7_goOn_65 : decode cX7_goOn 65 = .ok (.iconst 1, 1) := by decide +kernel
theorem dX7_goOn_66 : decode cX7_goOn 66 = .ok (.iadd, 1) := by decide +kernel
theorem dX7_goOn_67 : decode cX7_goOn 67 = .ok (.iload_n 2, 1) := by decide +kernel
theorem dX7_goOn_68 : decode cX7_goOn 68 = .ok (.aload_n 0, 1) := by decide +kernel
theorem dX7_goOn_69 : decode cX7_goOn 69 = .ok (.iload_n 1, 1) := by decide +kernel
theorem dX7_goOn_70 : decode cX7_goOn 70 = .ok (.iload 5, 2) := by decide +kernel
theorem dX7_goOn_72 : decode cX7_goOn 72 = .ok (.invokevirtual 95, 3) := by decide +kernel
theorem dX7_goOn_75 : decode cX7_goOn 75 = .ok (.ior, 1) := by decide +kernel
theorem dX7_goOn_76 : decode cX7_goOn 76 = .ok (.iload_n 3, 1) := by decide +kernel
theorem dX7_goOn_77 : decode cX7_goOn 77 = .ok (.aload_n 0, 1) := by decide +kernel
theorem dX7_goOn_78 : decode cX7_goOn 78 = .ok (.iload_n 1, 1) := by decide +kernel
theorem dX7_goOn_79 : decode cX7_goOn 79 = .ok (.iload 5, 2) := by decide +kernel
theorem dX7_goOn_81 : decode cX7_goOn 81 = .ok (.invokevirtual 98, 3) := by decide +kernel
theorem dX7_goOn_84 : decode cX7_goOn 84 = .ok (.iadd, 1) := by decide +kernel
theorem dX7_goOn_85 : decode cX7_goOn 85 = .ok (.iload 4, 2) := by decide +kernel
theorem dX7_goOn_87 : decode cX7_goOn 87 = .ok (.aload_n 0, 1) := by decide +kernel
theorem dX7_goOn_88 : decode cX7_goOn 88 = .ok (.getfield 26, 3) := by decide +kernel
theorem dX7_goOn_91 : decode cX7_goOn 91 = .ok (.iload_n 1, 1) := by decide +kernel
theorem dX7_goOn_92 : decode cX7_goOn 92 = .ok (.invokevirtual 39, 3) := by decide +kernel
theorem dX7_goOn_95 : decode cX7_goOn 95 = .ok (.isub, 1) := by decide +kernel
theorem dX7_goOn_96 : decode cX7_goOn 96 = .ok (.invokevirtual 137, 3) := by decide +kernel
theorem dX7_goOn_99 : decode cX7_goOn 99 = .ok (.iinc 5 1, 3) := by decide +kernel
theorem dX7_goOn_102 : decode cX7_goOn 102 = .ok (.goto (-66), 3) := by decide +kernel
theorem dX7_goOn_105 : decode cX7_goOn 105 = .ok (.return_, 1) := by decide +kernel
theorem dX7_lineUp_0 : decode cX7_lineUp 0 = .ok (.aload_n 0, 1) := by decide +kernel
theorem dX7_lineUp_1 : decode cX7_lineUp 1 = .ok (.getfield 81, 3) := by decide +kernel
theorem dX7_lineUp_4 : decode cX7_lineUp 4 = .ok (.ifCond .eq 16, 3) := by decide +kernel
theorem dX7_lineUp_7 : decode cX7_lineUp 7 = .ok (.iload 4, 2) := by decide +kernel
theorem dX7_lineUp_9 : decode cX7_lineUp 9 = .ok (.iload 5, 2) := by decide +kernel
theorem dX7_lineUp_11 : decode cX7_lineUp 11 = .ok (.iadd, 1) := by decide +kernel
theorem dX7_lineUp_12 : decode cX7_lineUp 12 = .ok (.aload_n 0, 1) := by decide +kernel
theorem dX7_lineUp_13 : decode cX7_lineUp 13 = .ok (.getfield 47, 3) := by decide +kernel
theorem dX7_lineUp_16 : decode cX7_lineUp 16 = .ok (.if_icmp .gt 4, 3) := by decide +kernel
theorem dX7_lineUp_19 : decode cX7_lineUp 19 = .ok (.return_, 1) := by decide +kernel
theorem dX7_lineUp_20 : decode cX7_lineUp 20 = .ok (.iload_n 1, 1) := by decide +kernel
theorem dX7_lineUp_21 : decode cX7_lineUp 21 = .ok (.aload_n 0, 1) := by decide +kernel
theorem dX7_lineUp_22 : decode cX7_lineUp 22 = .ok (.getfield 71, 3) := by decide +kernel
theorem dX7_lineUp_25 : decode cX7_lineUp 25 = .ok (.if_icmp .lt 10, 3) := by decide +kernel
theorem dX7_lineUp_28 : decode cX7_lineUp 28 = .ok (.aload_n 0, 1) := by decide +kernel
theorem dX7_lineUp_29 : decode cX7_lineUp 29 = .ok (.iload 4, 2) := by decide +kernel
theorem dX7_lineUp_31 : decode cX7_lineUp 31 = .ok (.invokevirtual 141, 3) := by decide +kernel
theorem dX7_lineUp_34 : decode cX7_lineUp 34 = .ok (.return_, 1) := by decide +kernel
theorem dX7_lineUp_35 : decode cX7_lineUp 35 = .ok (.iconst 0, 1) := by decide +kernel
theorem dX7_lineUp_36 : decode cX7_lineUp 36 = .ok (.istore 6, 2) := by decide +kernel
theorem dX7_lineUp_38 : decode cX7_lineUp 38 = .ok (.iload 6, 2) := by decide +kernel
theorem dX7_lineUp_40 : decode cX7_lineUp 40 = .ok (.aload_n 0, 1) := by decide +kernel
theorem dX7_lineUp_41 : decode cX7_lineUp 41 = .ok (.getfield 71, 3) := by decide +kernel
theorem dX7_lineUp_44 : decode cX7_lineUp 44 = .ok (.if_icmp .ge 83, 3) := by decide +kernel
theorem dX7_lineUp_47 : decode cX7_lineUp 47 = .ok (.iload_n 2, 1) := by decide +kernel
theorem dX7_lineUp_48 : decode cX7_lineUp 48 = .ok (.iload 6, 2) := by decide +kernel
theorem dX7_lineUp_50 : decode cX7_lineUp 50 = .ok (.invokestatic 130, 3) := by decide +kernel
theorem dX7_lineUp_53 : decode cX7_lineUp 53 = .ok (.ifCond .ne 68, 3) := by decide +kernel
theorem dX7_lineUp_56 : decode cX7_lineUp 56 = .ok (.aload_n 0, 1) := by decide +kernel
theorem dX7_lineUp_57 : decode cX7_lineUp 57 = .ok (.iload 6, 2) := by decide +kernel
theorem dX7_lineUp_59 : decode cX7_lineUp 59 = .ok (.iload_n 3, 1) := by decide +kernel
theorem dX7_lineUp_60 : decode cX7_lineUp 60 = .ok (.invokevirtual 92, 3) := by decide +kernel
theorem dX7_lineUp_63 : decode cX7_lineUp 63 = .ok (.istore 7, 2) := by decide +kernel
theorem dX7_lineUp_65 : decode cX7_lineUp 65 = .ok (.aload_n 0, 1) := by decide +kernel
theorem dX7_lineUp_66 : decode cX7_lineUp 66 = .ok (.getfield 29, 3) := by decide +kernel
theorem dX7_lineUp_69 : decode cX7_lineUp 69 = .ok (.iload_n 1, 1) := by decide +kernel
theorem dX7_lineUp_70 : decode cX7_lineUp 70 = .ok (.iload 6, 2) := by decide +kernel
theorem dX7_lineUp_72 : decode cX7_lineUp 72 = .ok (.invokevirtual 74, 3) := by decide +kernel
theorem dX7_lineUp_75 : decode cX7_lineUp 75 = .ok (.aload_n 0, 1) := by decide +kernel
theorem dX7_lineUp_76 : decode cX7_lineUp 76 = .ok (.iload_n 1, 1) := by decide +kernel
theorem dX7_lineUp_77 : decode cX7_lineUp 77 = .ok (.iconst 1, 1) := by decide +kernel
theorem dX7_lineUp_78 : decode cX7_lineUp 78 = .ok (.iadd, 1) := by decide +kernel
theorem dX7_lineUp_79 : decode cX7_lineUp 79 = .ok (.iload_n 2, 1) := by decide +kernel
theorem dX7_lineUp_80 : decode cX7_lineUp 80 = .ok (.iconst 1, 1) := by decide +kernel
theorem dX7_lineUp_81 : decode cX7_lineUp 81 = .ok (.iload 6, 2) := by decide +kernel
theorem dX7_lineUp_83 : decode cX7_lineUp 83 = .ok (.ishl, 1) := by decide +kernel
theorem dX7_lineUp_84 : decode cX7_lineUp 84 = .ok (.ior, 1) := by decide +kernel
theorem dX7_lineUp_85 : decode cX7_lineUp 85 = .ok (.iload_n 3, 1) := by decide +kernel
theorem dX7_lineUp_86 : decode cX7_lineUp 86 = .ok (.aload_n 0, 1) := by decide +kernel
theorem dX7_lineUp_87 : decode cX7_lineUp 87 = .ok (.iload 6, 2) := by decide +kernel
theorem dX7_lineUp_89 : decode cX7_lineUp 89 = .ok (.iload 7, 2) := by decide +kernel
theorem dX7_lineUp_91 : decode cX7_lineUp 91 = .ok (.invokevirtual 95, 3) := by decide +kernel
theorem dX7_lineUp_94 : decode cX7_lineUp 94 = .ok (.ior, 1) := by decide +kernel
theorem dX7_lineUp_95 : decode cX7_lineUp 95 = .ok (.iload 4, 2) := by decide +kernel
theorem dX7_lineUp_97 : decode cX7_lineUp 97 = .ok (.aload_n 0, 1) := by decide +kernel
theorem dX7_lineUp_98 : decode cX7_lineUp 98 = .ok (.iload 6, 2) := by decide +kernel
theorem dX7_lineUp_100 : decode cX7_lineUp 100 = .ok (.iload 7, 2) := by decide +kernel
theorem dX7_lineUp_102 : decode cX7_lineUp 102 = .ok (.invokevirtual 98, 3) := by decide +kernel
theorem dX7_lineUp_105 : decode cX7_lineUp 105 = .ok (.iadd, 1) := by decide +kernel
theorem dX7_lineUp_106 : decode cX7_lineUp 106 = .ok (.iload 5, 2) := by decide +kernel
theorem dX7_lineUp_108 : decode cX7_lineUp 108 = .ok (.aload_n 0, 1) := by decide +kernel
theorem dX7_lineUp_109 : decode cX7_lineUp 109 = .ok (.getfield 26, 3) := by decide +kernel
theorem dX7_lineUp_112 : decode cX7_lineUp 112 = .ok (.iload 6, 2) := by decide +kernel
theorem dX7_lineUp_114 : decode cX7_lineUp 114 = .ok (.invokevirtual 39, 3) := by decide +kernel
theorem dX7_lineUp_117 : decode cX7_lineUp 117 = .ok (.isub, 1) := by decide +kernel
theorem dX7_lineUp_118 : decode cX7_lineUp 118 = .ok (.invokevirtual 104, 3) := by decide +kernel
theorem dX7_lineUp_121 : decode cX7_lineUp 121 = .ok (.iinc 6 1, 3) := by decide +kernel
theorem dX7_lineUp_124 : decode cX7_lineUp 124 = .ok (.goto (-86), 3) := by decide +kernel
theorem dX7_lineUp_127 : decode cX7_lineUp 127 = .ok (.return_, 1) := by decide +kernel
theorem dX7_find_0 : decode cX7_find 0 = .ok (.aload_n 0, 1) := by decide +kernel
theorem dX7_find_1 : decode cX7_find 1 = .ok (.getfield 32, 3) := by decide +kernel
theorem dX7_find_4 : decode cX7_find 4 = .ok (.aload_n 0, 1) := by decide +kernel
theorem dX7_find_5 : decode cX7_find 5 = .ok (.getfield 29, 3) := by decide +kernel
theorem dX7_find_8 : decode cX7_find 8 = .ok (.invokevirtual 144, 3) := by decide +kernel
theorem dX7_find_11 : decode cX7_find 11 = .ok (.aload_n 0, 1) := by decide +kernel
theorem dX7_find_12 : decode cX7_find 12 = .ok (.iconst 1, 1) := by decide +kernel
theorem dX7_find_13 : decode cX7_find 13 = .ok (.putfield 81, 3) := by decide +kernel
theorem dX7_find_16 : decode cX7_find 16 = .ok (.aload_n 0, 1) := by decide +kernel
theorem dX7_find_17 : decode cX7_find 17 = .ok (.iload_n 1, 1) := by decide +kernel
theorem dX7_find_18 : decode cX7_find 18 = .ok (.putfield 47, 3) := by decide +kernel
theorem dX7_find_21 : decode cX7_find 21 = .ok (.return_, 1) := by decide +kernel
theorem dX8_init_0 : decode cX8_init 0 = .ok (.aload_n 0, 1) := by decide +kernel
theorem dX8_init_1 : decode cX8_init 1 = .ok (.invokespecial 3, 3) := by decide +kernel
theorem dX8_init_4 : decode cX8_init 4 = .ok (.aload_n 0, 1) := by decide +kernel
theorem dX8_init_5 : decode cX8_init 5 = .ok (.new 9, 3) := by decide +kernel
theorem dX8_init_8 : decode cX8_init 8 = .ok (.dup, 1) := by decide +kernel
theorem dX8_init_9 : decode cX8_init 9 = .ok (.bipush 100, 2) := by decide +kernel
theorem dX8_init_11 : decode cX8_init 11 = .ok (.invokespecial 11, 3) := by decide +kernel
theorem dX8_init_14 : decode cX8_init 14 = .ok (.putfield 14, 3) := by decide +kernel
theorem dX8_init_17 : decode cX8_init 17 = .ok (.aload_n 0, 1) := by decide +kernel
theorem dX8_init_18 : decode cX8_init 18 = .ok (.new 9, 3) := by decide +kernel
theorem dX8_init_21 : decode cX8_init 21 = .ok (.dup, 1) := by decide +kernel
theorem dX8_init_22 : decode cX8_init 22 = .ok (.bipush 100, 2) := by decide +kernel
theorem dX8_init_24 : decode cX8_init 24 = .ok (.invokespecial 11, 3) := by decide +kernel
theorem dX8_init_27 : decode cX8_init 27 = .ok (.putfield 20, 3) := by decide +kernel
theorem dX8_init_30 : decode cX8_init 30 = .ok (.aload_n 0, 1) := by decide +kernel
theorem dX8_init_31 : decode cX8_init 31 = .ok (.new 23, 3) := by decide +kernel
theorem dX8_init_34 : decode cX8_init 34 = .ok (.dup, 1) := by decide +kernel
theorem dX8_init_35 : decode cX8_init 35 = .ok (.invokespecial 25, 3) := by decide +kernel
theorem dX8_init_38 : decode cX8_init 38 = .ok (.putfield 26, 3) := by decide +kernel
theorem dX8_init_41 : decode cX8_init 41 = .ok (.aload_n 0, 1) := by decide +kernel
theorem dX8_init_42 : decode cX8_init 42 = .ok (.new 9, 3) := by decide +kernel
theorem dX8_init_45 : decode cX8_init 45 = .ok (.dup, 1) := by decide +kernel
theorem dX8_init_46 : decode cX8_init 46 = .ok (.bipush 7, 2) := by decide +kernel
theorem dX8_init_48 : decode cX8_init 48 = .ok (.invokespecial 11, 3) := by decide +kernel
theorem dX8_init_51 : decode cX8_init 51 = .ok (.putfield 30, 3) := by decide +kernel
theorem dX8_init_54 : decode cX8_init 54 = .ok (.aload_n 0, 1) := by decide +kernel
theorem dX8_init_55 : decode cX8_init 55 = .ok (.new 9, 3) := by decide +kernel
theorem dX8_init_58 : decode cX8_init 58 = .ok (.dup, 1) := by decide +kernel
theorem dX8_init_59 : decode cX8_init 59 = .ok (.bipush 28, 2) := by decide +kernel
theorem dX8_init_61 : decode cX8_init 61 = .ok (.invokespecial 11, 3) := by decide +kernel
theorem dX8_init_64 : decode cX8_init 64 = .ok (.putfield 33, 3) := by decide +kernel
theorem dX8_init_67 : decode cX8_init 67 = .ok (.aload_n 0, 1) := by decide +kernel
theorem dX8_init_68 : decode cX8_init 68 = .ok (.new 9, 3) := by decide +kernel
theorem dX8_init_71 : decode cX8_init 71 = .ok (.dup, 1) := by decide +kernel
theorem dX8_init_72 : decode cX8_init 72 = .ok (.bipush 15, 2) := by decide +kernel
theorem dX8_init_74 : decode cX8_init 74 = .ok (.invokespecial 11, 3) := by decide +kernel
theorem dX8_init_77 : decode cX8_init 77 = .ok (.putfield 36, 3) := by decide +kernel
theorem dX8_init_80 : decode cX8_init 80 = .ok (.aload_n 0, 1) := by decide +kernel
theorem dX8_init_81 : decode cX8_init 81 = .ok (.new 9, 3) := by decide +kernel
theorem dX8_init_84 : decode cX8_init 84 = .ok (.dup, 1) := by decide +kernel
theorem dX8_init_85 : decode cX8_init 85 = .ok (.bipush 16, 2) := by decide +kernel
theorem dX8_init_87 : decode cX8_init 87 = .ok (.invokespecial 11, 3) := by decide +kernel
theorem dX8_init_90 : decode cX8_init 90 = .ok (.putfield 39, 3) := by decide +kernel
theorem dX8_init_93 : decode cX8_init 93 = .ok (.aload_n 0, 1) := by decide +kernel
theorem dX8_init_94 : decode cX8_init 94 = .ok (.new 9, 3) := by decide +kernel
theorem dX8_init_97 : decode cX8_init 97 = .ok (.dup, 1) := by decide +kernel
theorem dX8_init_98 : decode cX8_init 98 = .ok (.bipush 16, 2) := by decide +kernel
theorem dX8_init_100 : decode cX8_init 100 = .ok (.invokespecial 11, 3) := by decide +kernel
theorem dX8_init_103 : decode cX8_init 103 = .ok (.putfield 42, 3) := by decide +kernel
theorem dX8_init_106 : decode cX8_init 106 = .ok (.aload_n 0, 1) := by decide +kernel
theorem dX8_init_107 : decode cX8_init 107 = .ok (.new 9, 3) := by decide +kernel
theorem dX8_init_110 : decode cX8_init 110 = .ok (.dup, 1) := by decide +kernel
theorem dX8_init_111 : decode cX8_init 111 = .ok (.bipush 7, 2) := by decide +kernel
theorem dX8_init_113 : decode cX8_init 113 = .ok (.invokespecial 11, 3) := by decide +kernel
theorem dX8_init_116 : decode cX8_init 116 = .ok (.putfield 45, 3) := by decide +kernel
theorem dX8_init_119 : decode cX8_init 119 = .ok (.aload_n 0, 1) := by decide +kernel
theorem dX8_init_120 : decode cX8_init 120 = .ok (.bipush 24, 2) := by decide +kernel
theorem dX8_init_122 : decode cX8_init 122 = .ok (.putfield 48, 3) := by decide +kernel
theorem dX8_init_125 : decode cX8_init 125 = .ok (.aload_n 0, 1) := by decide +kernel
theorem dX8_init_126 : decode cX8_init 126 = .ok (.bipush 99, 2) := by decide +kernel
theorem dX8_init_128 : decode cX8_init 128 = .ok (.putfield 52, 3) := by decide +kernel
theorem dX8_init_131 : decode cX8_init 131 = .ok (.return_, 1) := by decide +kernel
theorem dX8_become_0 : decode cX8_become 0 = .ok (.aload_n 0, 1) := by decide +kernel
theorem dX8_become_1 : decode cX8_become 1 = .ok (.getfield 14, 3) := by decide +kernel
theorem dX8_become_4 : decode cX8_become 4 = .ok (.aload_n 1, 1) := by decide +kernel
theorem dX8_become_5 : decode cX8_become 5 = .ok (.getfield 14, 3) := by decide +kernel
theorem dX8_become_8 : decode cX8_become 8 = .ok (.invokevirtual 55, 3) := by decide +kernel
theorem dX8_become_11 : decode cX8_become 11 = .ok (.aload_n 0, 1) := by decide +kernel
theorem dX8_become_12 : decode cX8_become 12 = .ok (.getfield 20, 3) := by decide +kernel
theorem dX8_become_15 : decode cX8_become 15 = .ok (.aload_n 1, 1) := by decide +kernel
theorem dX8_become_16 : decode cX8_become 16 = .ok (.getfield 20, 3) := by decide +kernel
theorem dX8_become_19 : decode cX8_become 19 = .ok (.invokevirtual 55, 3) := by decide +kernel
theorem dX8_become_22 : decode cX8_become 22 = .ok (.aload_n 0, 1) := by decide +kernel
theorem dX8_become_23 : decode cX8_become 23 = .ok (.getfield 26, 3) := by decide +kernel
theorem dX8_become_26 : decode cX8_become 26 = .ok (.invokevirtual 59, 3) := by decide +kernel
theorem dX8_become_29 : decode cX8_become 29 = .ok (.iconst 0, 1) := by decide +kernel
theorem dX8_become_30 : decode cX8_become 30 = .ok (.istore_n 2, 1) := by decide +kernel
theorem dX8_become_31 : decode cX8_become 31 = .ok (.iload_n 2, 1) := by decide +kernel
theorem dX8_become_32 : decode cX8_become 32 = .ok (.aload_n 1, 1) := by decide +kernel
theorem dX8_become_33 : decode cX8_become 33 = .ok (.getfield 26, 3) := by decide +kernel
theorem dX8_become_36 : decode cX8_become 36 = .ok (.invokevirtual 62, 3) := by decide +kernel
theorem dX8_become_39 : decode cX8_become 39 = .ok (.if_icmp .ge 28, 3) := by decide +kernel
theorem dX8_become_42 : decode cX8_become 42 = .ok (.aload_n 0, 1) := by decide +kernel
theorem dX8_become_43 : decode cX8_become 43 = .ok (.getfield 26, 3) := by decide +kernel
theorem dX8_become_46 : decode cX8_become 46 = .ok (.aload_n 1, 1) := by decide +kernel
theorem dX8_become_47 : decode cX8_become 47 = .ok (.getfield 26, 3) := by decide +kernel
theorem dX8_become_50 : decode cX8_become 50 = .ok (.iload_n 2, 1) := by decide +kernel
theorem dX8_become_51 : decode cX8_become 51 = .ok (.invokevirtual 66, 3) := by decide +kernel
theorem dX8_become_54 : decode cX8_become 54 = .ok (.checkcast 70, 3) := by decide +kernel
theorem dX8_become_57 : decode cX8_become 57 = .ok (.invokevirtual 72, 3) := by decide +kernel
theorem dX8_become_60 : decode cX8_become 60 = .ok (.pop, 1) := by decide +kernel
theorem dX8_become_61 : decode cX8_become 61 = .ok (.iinc 2 1, 3) := by decide +kernel
theorem dX8_become_64 : decode cX8_become 64 = .ok (.goto (-33), 3) := by decide +kernel
theorem dX8_become_67 : decode cX8_become 67 = .ok (.aload_n 0, 1) := by decide +kernel
theorem dX8_become_68 : decode cX8_become 68 = .ok (.getfield 30, 3) := by decide +kernel
theorem dX8_become_71 : decode cX8_become 71 = .ok (.aload_n 1, 1) := by decide +kernel
theorem dX8_become_72 : decode cX8_become 72 = .ok (.getfield 30, 3) := by decide +kernel
theorem dX8_become_75 : decode cX8_become 75 = .ok (.invokevirtual 55, 3) := by decide +kernel
theorem dX8_become_78 : decode cX8_become 78 = .ok (.aload_n 0, 1) := by decide +kernel
theorem dX8_become_79 : decode cX8_become 79 = .ok (.getfield 33, 3) := by decide +kernel
theorem dX8_become_82 : decode cX8_become 82 = .ok (.aload_n 1, 1) := by decide +kernel
theorem dX8_become_83 : decode cX8_become 83 = .ok (.getfield 33, 3) := by decide +kernel
theorem dX8_become_86 : decode cX8_become 86 = .ok (.invokevirtual 55, 3) := by decide +kernel
theorem dX8_become_89 : decode cX8_become 89 = .ok (.aload_n 0, 1) := by decide +kernel
theorem dX8_become_90 : decode cX8_become 90 = .ok (.getfield 36, 3) := by decide +kernel
theorem dX8_become_93 : decode cX8_become 93 = .ok (.aload_n 1, 1) := by decide +kernel
theorem dX8_become_94 : decode cX8_become 94 = .ok (.getfield 36, 3) := by decide +kernel
theorem dX8_become_97 : decode cX8_become 97 = .ok (.invokevirtual 55, 3) := by decide +kernel
theorem dX8_become_100 : decode cX8_become 100 = .ok (.aload_n 0, 1) := by decide +kernel
theorem dX8_become_101 : decode cX8_become 101 = .ok (.getfield 39, 3) := by decide +kernel
theorem dX8_become_104 : decode cX8_become 104 = .ok (.aload_n 1, 1) := by decide +kernel
theorem dX8_become_105 : decode cX8_become 105 = .ok (.getfield 39, 3) := by decide +kernel
theorem dX8_become_108 : decode cX8_become 108 = .ok (.invokevirtual 55, 3) := by decide +kernel
theorem dX8_become_111 : decode cX8_become 111 = .ok (.aload_n 0, 1) := by decide +kernel
theorem dX8_become_112 : decode cX8_become 112 = .ok (.getfield 42, 3) := by decide +kernel
theorem dX8_become_115 : decode cX8_become 115 = .ok (.aload_n 1, 1) := by decide +kernel
theorem dX8_become_116 : decode cX8_become 116 = .ok (.getfield 42, 3) := by decide +kernel
theorem dX8_become_119 : decode cX8_become 119 = .ok (.invokevirtual 55, 3) := by decide +kernel
theorem dX8_become_122 : decode cX8_become 122 = .ok (.aload_n 0, 1) := by decide +kernel
theorem dX8_become_123 : decode cX8_become 123 = .ok (.aload_n 1, 1) := by decide +kernel
theorem dX8_become_124 : decode cX8_become 124 = .ok (.getfield 76, 3) := by decide +kernel
theorem dX8_become_127 : decode cX8_become 127 = .ok (.putfield 76, 3) := by decide +kernel
theorem dX8_become_130 : decode cX8_become 130 = .ok (.aload_n 0, 1) := by decide +kernel
theorem dX8_become_131 : decode cX8_become 131 = .ok (.aload_n 1, 1) := by decide +kernel
theorem dX8_become_132 : decode cX8_become 132 = .ok (.getfield 48, 3) := by decide +kernel
theorem dX8_become_135 : decode cX8_become 135 = .ok (.putfield 48, 3) := by decide +kernel
theorem dX8_become_138 : decode cX8_become 138 = .ok (.aload_n 0, 1) := by decide +kernel
theorem dX8_become_139 : decode cX8_become 139 = .ok (.aload_n 1, 1) := by decide +kernel
theorem dX8_become_140 : decode cX8_become 140 = .ok (.getfield 52, 3) := by decide +kernel
theorem dX8_become_143 : decode cX8_become 143 = .ok (.putfield 52, 3) := by decide +kernel
theorem dX8_become_146 : decode cX8_become 146 = .ok (.return_, 1) := by decide +kernel
theorem dX8_hold_0 : decode cX8_hold 0 = .ok (.aload_n 0, 1) := by decide +kernel
theorem dX8_hold_1 : decode cX8_hold 1 = .ok (.getfield 20, 3) := by decide +kernel
theorem dX8_hold_4 : decode cX8_hold 4 = .ok (.aload_n 1, 1) := by decide +kernel
theorem dX8_hold_5 : decode cX8_hold 5 = .ok (.getfield 79, 3) := by decide +kernel
theorem dX8_hold_8 : decode cX8_hold 8 = .ok (.invokevirtual 55, 3) := by decide +kernel
theorem dX8_hold_11 : decode cX8_hold 11 = .ok (.aload_n 0, 1) := by decide +kernel
theorem dX8_hold_12 : decode cX8_hold 12 = .ok (.aload_n 1, 1) := by decide +kernel
theorem dX8_hold_13 : decode cX8_hold 13 = .ok (.getfield 82, 3) := by decide +kernel
theorem dX8_hold_16 : decode cX8_hold 16 = .ok (.putfield 48, 3) := by decide +kernel
theorem dX8_hold_19 : decode cX8_hold 19 = .ok (.aload_n 0, 1) := by decide +kernel
theorem dX8_hold_20 : decode cX8_hold 20 = .ok (.aload_n 1, 1) := by decide +kernel
theorem dX8_hold_21 : decode cX8_hold 21 = .ok (.getfield 83, 3) := by decide +kernel
theorem dX8_hold_24 : decode cX8_hold 24 = .ok (.putfield 52, 3) := by decide +kernel
theorem dX8_hold_27 : decode cX8_hold 27 = .ok (.aload_n 0, 1) := by decide +kernel
theorem dX8_hold_28 : decode cX8_hold 28 = .ok (.dup, 1) := by decide +kernel
theorem dX8_hold_29 : decode cX8_hold 29 = .ok (.getfield 76, 3) := by decide +kernel
theorem dX8_hold_32 : decode cX8_hold 32 = .ok (.iconst 1, 1) := by decide +kernel
theorem dX8_hold_33 : decode cX8_hold 33 = .ok (.iadd, 1) := by decide +kernel
theorem dX8_hold_34 : decode cX8_hold 34 = .ok (.putfield 76, 3) := by decide +kernel
theorem dX8_hold_37 : decode cX8_hold 37 = .ok (.return_, 1) := by decide +kernel
theorem dX8_dots_0 : decode cX8_dots 0 = .ok (.aload_n 0, 1) := by decide +kernel
theorem dX8_dots_1 : decode cX8_dots 1 = .ok (.getfield 26, 3) := by decide +kernel
theorem dX8_dots_4 : decode cX8_dots 4 = .ok (.invokevirtual 62, 3) := by decide +kernel
theorem dX8_dots_7 : decode cX8_dots 7 = .ok (.ireturn, 1) := by decide +kernel
theorem dX8_has_0 : decode cX8_has 0 = .ok (.iload_n 1, 1) := by decide +kernel
theorem dX8_has_1 : decode cX8_has 1 = .ok (.ifCond .lt 18, 3) := by decide +kernel
theorem dX8_has_4 : decode cX8_has 4 = .ok (.iload_n 1, 1) := by decide +kernel
theorem dX8_has_5 : decode cX8_has 5 = .ok (.aload_n 0, 1) := by decide +kernel
theorem dX8_has_6 : decode cX8_has 6 = .ok (.getfield 26, 3) := by decide +kernel
theorem dX8_has_9 : decode cX8_has 9 = .ok (.invokevirtual 62, 3) := by decide +kernel
theorem dX8_has_12 : decode cX8_has 12 = .ok (.if_icmp .ge 7, 3) := by decide +kernel
theorem dX8_has_15 : decode cX8_has 15 = .ok (.iconst 1, 1) := by decide +kernel
theorem dX8_has_16 : decode cX8_has 16 = .ok (.goto 4, 3) := by decide +kernel
theorem dX8_has_19 : decode cX8_has 19 = .ok (.iconst 0, 1) := by decide +kernel
theorem dX8_has_20 : decode cX8_has 20 = .ok (.ireturn, 1) := by decide +kernel
theorem dX8_name_0 : decode cX8_name 0 = .ok (.aload_n 0, 1) := by decide +kernel
theorem dX8_name_1 : decode cX8_name 1 = .ok (.iload_n 1, 1) := by decide +kernel
theorem dX8_name_2 : decode cX8_name 2 = .ok (.invokevirtual 84, 3) := by decide +kernel
theorem dX8_name_5 : decode cX8_name 5 = .ok (.ifCond .eq 17, 3) := by decide +kernel
theorem dX8_name_8 : decode cX8_name 8 = .ok (.aload_n 0, 1) := by decide +kernel
theorem dX8_name_9 : decode cX8_name 9 = .ok (.getfield 26, 3) := by decide +kernel
theorem dX8_name_12 : decode cX8_name 12 = .ok (.iload_n 1, 1) := by decide +kernel
theorem dX8_name_13 : decode cX8_name 13 = .ok (.invokevirtual 66, 3) := by decide +kernel
theorem dX8_name_16 : decode cX8_name 16 = .ok (.checkcast 70, 3) := by decide +kernel
theorem dX8_name_19 : decode cX8_name 19 = .ok (.goto 4, 3) := by decide +kernel
theorem dX8_name_22 : decode cX8_name 22 = .ok (.aconst_null, 1) := by decide +kernel
theorem dX8_name_23 : decode cX8_name 23 = .ok (.areturn, 1) := by decide +kernel
theorem dX8_hasDot_0 : decode cX8_hasDot 0 = .ok (.iconst 0, 1) := by decide +kernel
theorem dX8_hasDot_1 : decode cX8_hasDot 1 = .ok (.istore_n 3, 1) := by decide +kernel
theorem dX8_hasDot_2 : decode cX8_hasDot 2 = .ok (.iload_n 3, 1) := by decide +kernel
theorem dX8_hasDot_3 : decode cX8_hasDot 3 = .ok (.aload_n 0, 1) := by decide +kernel
theorem dX8_hasDot_4 : decode cX8_hasDot 4 = .ok (.invokevirtual 88, 3) := by decide +kernel
theorem dX8_hasDot_7 : decode cX8_hasDot 7 = .ok (.if_icmp .ge 41, 3) := by decide +kernel
theorem dX8_hasDot_10 : decode cX8_hasDot 10 = .ok (.aload_n 0, 1) := by decide +kernel
theorem dX8_hasDot_11 : decode cX8_hasDot 11 = .ok (.iload_n 3, 1) := by decide +kernel
theorem dX8_hasDot_12 : decode cX8_hasDot 12 = .ok (.invokevirtual 91, 3) := by decide +kernel
theorem dX8_hasDot_15 : decode cX8_hasDot 15 = .ok (.astore 4, 2) := by decide +kernel
theorem dX8_hasDot_17 : decode cX8_hasDot 17 = .ok (.aload 4, 2) := by decide +kernel
theorem dX8_hasDot_19 : decode cX8_hasDot 19 = .ok (.ifnull 23, 3) := by decide +kernel
theorem dX8_hasDot_22 : decode cX8_hasDot 22 = .ok (.aload 4, 2) := by decide +kernel
theorem dX8_hasDot_24 : decode cX8_hasDot 24 = .ok (.getfield 95, 3) := by decide +kernel
theorem dX8_hasDot_27 : decode cX8_hasDot 27 = .ok (.iload_n 1, 1) := by decide +kernel
theorem dX8_hasDot_28 : decode cX8_hasDot 28 = .ok (.if_icmp .ne 14, 3) := by decide +kernel
theorem dX8_hasDot_31 : decode cX8_hasDot 31 = .ok (.aload 4, 2) := by decide +kernel
theorem dX8_hasDot_33 : decode cX8_hasDot 33 = .ok (.getfield 98, 3) := by decide +kernel
theorem dX8_hasDot_36 : decode cX8_hasDot 36 = .ok (.iload_n 2, 1) := by decide +kernel
theorem dX8_hasDot_37 : decode cX8_hasDot 37 = .ok (.if_icmp .ne 5, 3) := by decide +kernel
theorem dX8_hasDot_40 : decode cX8_hasDot 40 = .ok (.iconst 1, 1) := by decide +kernel
theorem dX8_hasDot_41 : decode cX8_hasDot 41 = .ok (.ireturn, 1) := by decide +kernel
theorem dX8_hasDot_42 : decode cX8_hasDot 42 = .ok (.iinc 3 1, 3) := by decide +kernel
theorem dX8_hasDot_45 : decode cX8_hasDot 45 = .ok (.goto (-43), 3) := by decide +kernel
theorem dX8_hasDot_48 : decode cX8_hasDot 48 = .ok (.iconst 0, 1) := by decide +kernel
theorem dX8_hasDot_49 : decode cX8_hasDot 49 = .ok (.ireturn, 1) := by decide +kernel
theorem dX8_mayBe_0 : decode cX8_mayBe 0 = .ok (.aload_n 0, 1) := by decide +kernel
theorem dX8_mayBe_1 : decode cX8_mayBe 1 = .ok (.iload_n 1, 1) := by decide +kernel
theorem dX8_mayBe_2 : decode cX8_mayBe 2 = .ok (.invokevirtual 91, 3) := by decide +kernel
theorem dX8_mayBe_5 : decode cX8_mayBe 5 = .ok (.astore_n 2, 1) := by decide +kernel
theorem dX8_mayBe_6 : decode cX8_mayBe 6 = .ok (.aload_n 2, 1) := by decide +kernel
theorem dX8_mayBe_7 : decode cX8_mayBe 7 = .ok (.ifnonnull 5, 3) := by decide +kernel
theorem dX8_mayBe_10 : decode cX8_mayBe 10 = .ok (.iconst 0, 1) := by decide +kernel
theorem dX8_mayBe_11 : decode cX8_mayBe 11 = .ok (.ireturn, 1) := by decide +kernel
theorem dX8_mayBe_12 : decode cX8_mayBe 12 = .ok (.iconst 0, 1) := by decide +kernel
theorem dX8_mayBe_13 : decode cX8_mayBe 13 = .ok (.istore_n 3, 1) := by decide +kernel
theorem dX8_mayBe_14 : decode cX8_mayBe 14 = .ok (.iconst 0, 1) := by decide +kernel
theorem dX8_mayBe_15 : decode cX8_mayBe 15 = .ok (.istore 4, 2) := by decide +kernel
theorem dX8_mayBe_17 : decode cX8_mayBe 17 = .ok (.iload 4, 2) := by decide +kernel
theorem dX8_mayBe_19 : decode cX8_mayBe 19 = .ok (.iconst 4, 1) := by decide +kernel
theorem dX8_mayBe_20 : decode cX8_mayBe 20 = .ok (.if_icmp .ge 32, 3) := by decide +kernel
theorem dX8_mayBe_23 : decode cX8_mayBe 23 = .ok (.aload_n 0, 1) := by decide +kernel
theorem dX8_mayBe_24 : decode cX8_mayBe 24 = .ok (.getfield 33, 3) := by decide +kernel
theorem dX8_mayBe_27 : decode cX8_mayBe 27 = .ok (.iload_n 1, 1) := by decide +kernel
theorem dX8_mayBe_28 : decode cX8_mayBe 28 = .ok (.iconst 4, 1) := by decide +kernel
theorem dX8_mayBe_29 : decode cX8_mayBe 29 = .ok (.imul, 1) := by decide +kernel
theorem dX8_mayBe_30 : decode cX8_mayBe 30 = .ok (.iload 4, 2) := by decide +kernel
theorem dX8_mayBe_32 : decode cX8_mayBe 32 = .ok (.iadd, 1) := by decide +kernel
theorem dX8_mayBe_33 : decode cX8_mayBe 33 = .ok (.invokevirtual 101, 3) := by decide +kernel
theorem dX8_mayBe_36 : decode cX8_mayBe 36 = .ok (.ifCond .le 10, 3) := by decide +kernel
theorem dX8_mayBe_39 : decode cX8_mayBe 39 = .ok (.iload_n 3, 1) := by decide +kernel
theorem dX8_mayBe_40 : decode cX8_mayBe 40 = .ok (.iconst 1, 1) := by decide +kernel
theorem dX8_mayBe_41 : decode cX8_mayBe 41 = .ok (.iload 4, 2) := by decide +kernel
theorem dX8_mayBe_43 : decode cX8_mayBe 43 = .ok (.ishl, 1) := by decide +kernel
theorem dX8_mayBe_44 : decode cX8_mayBe 44 = .ok (.ior, 1) := by decide +kernel
theorem dX8_mayBe_45 : decode cX8_mayBe 45 = .ok (.istore_n 3, 1) := by decide +kernel
theorem dX8_mayBe_46 : decode cX8_mayBe 46 = .ok (.iinc 4 1, 3) := by decide +kernel
theorem dX8_mayBe_49 : decode cX8_mayBe 49 = .ok (.goto (-32), 3) := by decide +kernel
theorem dX8_mayBe_52 : decode cX8_mayBe 52 = .ok (.aload_n 2, 1) := by decide +kernel
theorem dX8_mayBe_53 : decode cX8_mayBe 53 = .ok (.iload_n 3, 1) := by decide +kernel
theorem dX8_mayBe_54 : decode cX8_mayBe 54 = .ok (.invokevirtual 104, 3) := by decide +kernel
theorem dX8_mayBe_57 : decode cX8_mayBe 57 = .ok (.ireturn, 1) := by decide +kernel
theorem dX8_fitting_0 : decode cX8_fitting 0 = .ok (.aload_n 0, 1) := by decide +kernel
theorem dX8_fitting_1 : decode cX8_fitting 1 = .ok (.iload_n 1, 1) := by decide +kernel
theorem dX8_fitting_2 : decode cX8_fitting 2 = .ok (.invokevirtual 91, 3) := by decide +kernel
theorem dX8_fitting_5 : decode cX8_fitting 5 = .ok (.astore_n 3, 1) := by decide +kernel
theorem dX8_fitting_6 : decode cX8_fitting 6 = .ok (.aload_n 3, 1) := by decide +kernel
theorem dX8_fitting_7 : decode cX8_fitting 7 = .ok (.ifnonnull 5, 3) := by decide +kernel
theorem dX8_fitting_10 : decode cX8_fitting 10 = .ok (.iconst 0, 1) := by decide +kernel
theorem dX8_fitting_11 : decode cX8_fitting 11 = .ok (.ireturn, 1) := by decide +kernel
theorem dX8_fitting_12 : decode cX8_fitting 12 = .ok (.aload_n 0, 1) := by decide +kernel
theorem dX8_fitting_13 : decode cX8_fitting 13 = .ok (.iload_n 1, 1) := by decide +kernel
theorem dX8_fitting_14 : decode cX8_fitting 14 = .ok (.invokevirtual 107, 3) := by decide +kernel
theorem dX8_fitting_17 : decode cX8_fitting 17 = .ok (.istore 4, 2) := by decide +kernel
theorem dX8_fitting_19 : decode cX8_fitting 19 = .ok (.iconst 0, 1) := by decide +kernel
theorem dX8_fitting_20 : decode cX8_fitting 20 = .ok (.istore 5, 2) := by decide +kernel
theorem dX8_fitting_22 : decode cX8_fitting 22 = .ok (.iload 5, 2) := by decide +kernel
theorem dX8_fitting_24 : decode cX8_fitting 24 = .ok (.iconst 4, 1) := by decide +kernel
theorem dX8_fitting_25 : decode cX8_fitting 25 = .ok (.if_icmp .ge 40, 3) := by decide +kernel
theorem dX8_fitting_28 : decode cX8_fitting 28 = .ok (.aload_n 3, 1) := by decide +kernel
theorem dX8_fitting_29 : decode cX8_fitting 29 = .ok (.iload 5, 2) := by decide +kernel
theorem dX8_fitting_31 : decode cX8_fitting 31 = .ok (.iload_n 2, 1) := by decide +kernel
theorem dX8_fitting_32 : decode cX8_fitting 32 = .ok (.invokestatic 108, 3) := by decide +kernel
theorem dX8_fitting_35 : decode cX8_fitting 35 = .ok (.ifCond .eq 13, 3) := by decide +kernel
theorem dX8_fitting_38 : decode cX8_fitting 38 = .ok (.aload_n 0, 1) := by decide +kernel
theorem dX8_fitting_39 : decode cX8_fitting 39 = .ok (.aload_n 3, 1) := by decide +kernel
theorem dX8_fitting_40 : decode cX8_fitting 40 = .ok (.iload 5, 2) := by decide +kernel
theorem dX8_fitting_42 : decode cX8_fitting 42 = .ok (.invokevirtual 112, 3) := by decide +kernel
theorem dX8_fitting_45 : decode cX8_fitting 45 = .ok (.ifCond .eq 14, 3) := by decide +kernel
theorem dX8_fitting_48 : decode cX8_fitting 48 = .ok (.iload 4, 2) := by decide +kernel
theorem dX8_fitting_50 : decode cX8_fitting 50 = .ok (.iconst 1, 1) := by decide +kernel
theorem dX8_fitting_51 : decode cX8_fitting 51 = .ok (.iload 5, 2) := by decide +kernel
theorem dX8_fitting_53 : decode cX8_fitting 53 = .ok (.ishl, 1) := by decide +kernel
theorem dX8_fitting_54 : decode cX8_fitting 54 = .ok (.iconst (-1), 1) := by decide +kernel
theorem dX8_fitting_55 : decode cX8_fitting 55 = .ok (.ixor, 1) := by decide +kernel
theorem dX8_fitting_56 : decode cX8_fitting 56 = .ok (.iand, 1) := by decide +kernel
theorem dX8_fitting_57 : decode cX8_fitting 57 = .ok (.istore 4, 2) := by decide +kernel
theorem dX8_fitting_59 : decode cX8_fitting 59 = .ok (.iinc 5 1, 3) := by decide +kernel
theorem dX8_fitting_62 : decode cX8_fitting 62 = .ok (.goto (-40), 3) := by decide +kernel
theorem dX8_fitting_65 : decode cX8_fitting 65 = .ok (.iload 4, 2) := by decide +kernel
theorem dX8_fitting_67 : decode cX8_fitting 67 = .ok (.ireturn, 1) := by decide +kernel
theorem dX8_isOnSheet_0 : decode cX8_isOnSheet 0 = .ok (.lconst 1, 1) := by decide +kernel
theorem dX8_isOnSheet_1 : decode cX8_isOnSheet 1 = .ok (.iload_n 2, 1) := by decide +kernel
theorem dX8_isOnSheet_2 : decode cX8_isOnSheet 2 = .ok (.lshl, 1) := by decide +kernel
theorem dX8_isOnSheet_3 : decode cX8_isOnSheet 3 = .ok (.lconst 1, 1) := by decide +kernel
theorem dX8_isOnSheet_4 : decode cX8_isOnSheet 4 = .ok (.lsub, 1) := by decide +kernel
theorem dX8_isOnSheet_5 : decode cX8_isOnSheet 5 = .ok (.bipush 14, 2) := by decide +kernel
theorem dX8_isOnSheet_7 : decode cX8_isOnSheet 7 = .ok (.lshl, 1) := by decide +kernel
theorem dX8_isOnSheet_8 : decode cX8_isOnSheet 8 = .ok (.lstore_n 3, 1) := by decide +kernel
theorem dX8_isOnSheet_9 : decode cX8_isOnSheet 9 = .ok (.aload_n 0, 1) := by decide +kernel
theorem dX8_isOnSheet_10 : decode cX8_isOnSheet 10 = .ok (.iload_n 1, 1) := by decide +kernel
theorem dX8_isOnSheet_11 : decode cX8_isOnSheet 11 = .ok (.invokevirtual 116, 3) := by decide +kernel
theorem dX8_isOnSheet_14 : decode cX8_isOnSheet 14 = .ok (.istore 5, 2) := by decide +kernel
theorem dX8_isOnSheet_16 : decode cX8_isOnSheet 16 = .ok (.iload 5, 2) := by decide +kernel
theorem dX8_isOnSheet_18 : decode cX8_isOnSheet 18 = .ok (.ifCond .lt 34, 3) := by decide +kernel
theorem dX8_isOnSheet_21 : decode cX8_isOnSheet 21 = .ok (.iload 5, 2) := by decide +kernel
theorem dX8_isOnSheet_23 : decode cX8_isOnSheet 23 = .ok (.bipush 12, 2) := by decide +kernel
theorem dX8_isOnSheet_25 : decode cX8_isOnSheet 25 = .ok (.if_icmp .ge 27, 3) := by decide +kernel
theorem dX8_isOnSheet_28 : decode cX8_isOnSheet 28 = .ok (.aload_n 0, 1) := by decide +kernel
theorem dX8_isOnSheet_29 : decode cX8_isOnSheet 29 = .ok (.iload_n 1, 1) := by decide +kernel
theorem dX8_isOnSheet_30 : decode cX8_isOnSheet 30 = .ok (.aload_n 0, 1) := by decide +kernel
theorem dX8_isOnSheet_31 : decode cX8_isOnSheet 31 = .ok (.getfield 119, 3) := by decide +kernel
theorem dX8_isOnSheet_34 : decode cX8_isOnSheet 34 = .ok (.invokevirtual 122, 3) := by decide +kernel
theorem dX8_isOnSheet_37 : decode cX8_isOnSheet 37 = .ok (.lload_n 3, 1) := by decide +kernel
theorem dX8_isOnSheet_38 : decode cX8_isOnSheet 38 = .ok (.ldc2_w 126, 3) := by decide +kernel
theorem dX8_isOnSheet_41 : decode cX8_isOnSheet 41 = .ok (.lxor, 1) := by decide +kernel
theorem dX8_isOnSheet_42 : decode cX8_isOnSheet 42 = .ok (.land, 1) := by decide +kernel
theorem dX8_isOnSheet_43 : decode cX8_isOnSheet 43 = .ok (.lconst 0, 1) := by decide +kernel
theorem dX8_isOnSheet_44 : decode cX8_isOnSheet 44 = .ok (.lcmp, 1) := by decide +kernel
theorem dX8_isOnSheet_45 : decode cX8_isOnSheet 45 = .ok (.ifCond .ne 7, 3) := by decide +kernel
theorem dX8_isOnSheet_48 : decode cX8_isOnSheet 48 = .ok (.iconst 1, 1) := by decide +kernel
theorem dX8_isOnSheet_49 : decode cX8_isOnSheet 49 = .ok (.goto 4, 3) := by decide +kernel
theorem dX8_isOnSheet_52 : decode cX8_isOnSheet 52 = .ok (.iconst 0, 1) := by decide +kernel
theorem dX8_isOnSheet_53 : decode cX8_isOnSheet 53 = .ok (.ireturn, 1) := by decide +kernel
theorem dX8_isOverDot_0 : decode cX8_isOverDot 0 = .ok (.iconst 0, 1) := by decide +kernel
theorem dX8_isOverDot_1 : decode cX8_isOverDot 1 = .ok (.istore_n 3, 1) := by decide +kernel
theorem dX8_isOverDot_2 : decode cX8_isOverDot 2 = .ok (.iload_n 3, 1) := by decide +kernel
theorem dX8_isOverDot_3 : decode cX8_isOverDot 3 = .ok (.aload_n 0, 1) := by decide +kernel
theorem dX8_isOverDot_4 : decode cX8_isOverDot 4 = .ok (.invokevirtual 88, 3) := by decide +kernel
theorem dX8_isOverDot_7 : decode cX8_isOverDot 7 = .ok (.if_icmp .ge 45, 3) := by decide +kernel
theorem dX8_isOverDot_10 : decode cX8_isOverDot 10 = .ok (.aload_n 0, 1) := by decide +kernel
theorem dX8_isOverDot_11 : decode cX8_isOverDot 11 = .ok (.iload_n 3, 1) := by decide +kernel
theorem dX8_isOverDot_12 : decode cX8_isOverDot 12 = .ok (.invokevirtual 91, 3) := by decide +kernel
theorem dX8_isOverDot_15 : decode cX8_isOverDot 15 = .ok (.astore 4, 2) := by decide +kernel
theorem dX8_isOverDot_17 : decode cX8_isOverDot 17 = .ok (.aload 4, 2) := by decide +kernel
theorem dX8_isOverDot_19 : decode cX8_isOverDot 19 = .ok (.ifnull 27, 3) := by decide +kernel
theorem dX8_isOverDot_22 : decode cX8_isOverDot 22 = .ok (.aload_n 1, 1) := by decide +kernel
theorem dX8_isOverDot_23 : decode cX8_isOverDot 23 = .ok (.iload_n 2, 1) := by decide +kernel
theorem dX8_isOverDot_24 : decode cX8_isOverDot 24 = .ok (.aload_n 1, 1) := by decide +kernel
theorem dX8_isOverDot_25 : decode cX8_isOverDot 25 = .ok (.getfield 119, 3) := by decide +kernel
theorem dX8_isOverDot_28 : decode cX8_isOverDot 28 = .ok (.aload 4, 2) := by decide +kernel
theorem dX8_isOverDot_30 : decode cX8_isOverDot 30 = .ok (.getfield 95, 3) := by decide +kernel
theorem dX8_isOverDot_33 : decode cX8_isOverDot 33 = .ok (.aload 4, 2) := by decide +kernel
theorem dX8_isOverDot_35 : decode cX8_isOverDot 35 = .ok (.getfield 98, 3) := by decide +kernel
theorem dX8_isOverDot_38 : decode cX8_isOverDot 38 = .ok (.invokevirtual 128, 3) := by decide +kernel
theorem dX8_isOverDot_41 : decode cX8_isOverDot 41 = .ok (.ifCond .eq 5, 3) := by decide +kernel
theorem dX8_isOverDot_44 : decode cX8_isOverDot 44 = .ok (.iconst 1, 1) := by decide +kernel
theorem dX8_isOverDot_45 : decode cX8_isOverDot 45 = .ok (.ireturn, 1) := by decide +kernel
theorem dX8_isOverDot_46 : decode cX8_isOverDot 46 = .ok (.iinc 3 1, 3) := by decide +kernel
theorem dX8_isOverDot_49 : decode cX8_isOverDot 49 = .ok (.goto (-47), 3) := by decide +kernel
theorem dX8_isOverDot_52 : decode cX8_isOverDot 52 = .ok (.iconst 0, 1) := by decide +kernel
theorem dX8_isOverDot_53 : decode cX8_isOverDot 53 = .ok (.ireturn, 1) := by decide +kernel
theorem dX8_free_0 : decode cX8_free 0 = .ok (.aload_n 0, 1) := by decide +kernel
theorem dX8_free_1 : decode cX8_free 1 = .ok (.iload_n 1, 1) := by decide +kernel
theorem dX8_free_2 : decode cX8_free 2 = .ok (.aload_n 0, 1) := by decide +kernel
theorem dX8_free_3 : decode cX8_free 3 = .ok (.getfield 48, 3) := by decide +kernel
theorem dX8_free_6 : decode cX8_free 6 = .ok (.invokevirtual 132, 3) := by decide +kernel
theorem dX8_free_9 : decode cX8_free 9 = .ok (.istore_n 3, 1) := by decide +kernel
theorem dX8_free_10 : decode cX8_free 10 = .ok (.iconst 0, 1) := by decide +kernel
theorem dX8_free_11 : decode cX8_free 11 = .ok (.istore 4, 2) := by decide +kernel
theorem dX8_free_13 : decode cX8_free 13 = .ok (.iload 4, 2) := by decide +kernel
theorem dX8_free_15 : decode cX8_free 15 = .ok (.iconst 4, 1) := by decide +kernel
theorem dX8_free_16 : decode cX8_free 16 = .ok (.if_icmp .ge 38, 3) := by decide +kernel
theorem dX8_free_19 : decode cX8_free 19 = .ok (.iload_n 3, 1) := by decide +kernel
theorem dX8_free_20 : decode cX8_free 20 = .ok (.iload 4, 2) := by decide +kernel
theorem dX8_free_22 : decode cX8_free 22 = .ok (.invokestatic 136, 3) := by decide +kernel
theorem dX8_free_25 : decode cX8_free 25 = .ok (.ifCond .eq 23, 3) := by decide +kernel
theorem dX8_free_28 : decode cX8_free 28 = .ok (.aload_n 0, 1) := by decide +kernel
theorem dX8_free_29 : decode cX8_free 29 = .ok (.iload_n 1, 1) := by decide +kernel
theorem dX8_free_30 : decode cX8_free 30 = .ok (.iload 4, 2) := by decide +kernel
theorem dX8_free_32 : decode cX8_free 32 = .ok (.aload_n 2, 1) := by decide +kernel
theorem dX8_free_33 : decode cX8_free 33 = .ok (.invokevirtual 140, 3) := by decide +kernel
theorem dX8_free_36 : decode cX8_free 36 = .ok (.ifCond .eq 12, 3) := by decide +kernel
theorem dX8_free_39 : decode cX8_free 39 = .ok (.iload_n 3, 1) := by decide +kernel
theorem dX8_free_40 : decode cX8_free 40 = .ok (.iconst 1, 1) := by decide +kernel
theorem dX8_free_41 : decode cX8_free 41 = .ok (.iload 4, 2) := by decide +kernel
theorem dX8_free_43 : decode cX8_free 43 = .ok (.ishl, 1) := by decide +kernel
theorem dX8_free_44 : decode cX8_free 44 = .ok (.iconst (-1), 1) := by decide +kernel
theorem dX8_free_45 : decode cX8_free 45 = .ok (.ixor, 1) := by decide +kernel
theorem dX8_free_46 : decode cX8_free 46 = .ok (.iand, 1) := by decide +kernel
theorem dX8_free_47 : decode cX8_free 47 = .ok (.istore_n 3, 1) := by decide +kernel
theorem dX8_free_48 : decode cX8_free 48 = .ok (.iinc 4 1, 3) := by decide +kernel
theorem dX8_free_51 : decode cX8_free 51 = .ok (.goto (-38), 3) := by decide +kernel
theorem dX8_free_54 : decode cX8_free 54 = .ok (.iload_n 3, 1) := by decide +kernel
theorem dX8_free_55 : decode cX8_free 55 = .ok (.ireturn, 1) := by decide +kernel
theorem dX8_isClashing_0 : decode cX8_isClashing 0 = .ok (.iconst 0, 1) := by decide +kernel
theorem dX8_isClashing_1 : decode cX8_isClashing 1 = .ok (.istore 4, 2) := by decide +kernel
theorem dX8_isClashing_3 : decode cX8_isClashing 3 = .ok (.iload 4, 2) := by decide +kernel
theorem dX8_isClashing_5 : decode cX8_isClashing 5 = .ok (.aload_n 0, 1) := by decide +kernel
theorem dX8_isClashing_6 : decode cX8_isClashing 6 = .ok (.invokevirtual 88, 3) := by decide +kernel
theorem dX8_isClashing_9 : decode cX8_isClashing 9 = .ok (.if_icmp .ge 44, 3) := by decide +kernel
theorem dX8_isClashing_12 : decode cX8_isClashing 12 = .ok (.aload_n 3, 1) := by decide +kernel
theorem dX8_isClashing_13 : decode cX8_isClashing 13 = .ok (.iload 4, 2) := by decide +kernel
theorem dX8_isClashing_15 : decode cX8_isClashing 15 = .ok (.invokevirtual 101, 3) := by decide +kernel
theorem dX8_isClashing_18 : decode cX8_isClashing 18 = .ok (.istore 5, 2) := by decide +kernel
theorem dX8_isClashing_20 : decode cX8_isClashing 20 = .ok (.iload 4, 2) := by decide +kernel
theorem dX8_isClashing_22 : decode cX8_isClashing 22 = .ok (.iload_n 1, 1) := by decide +kernel
theorem dX8_isClashing_23 : decode cX8_isClashing 23 = .ok (.if_icmp .eq 24, 3) := by decide +kernel
theorem dX8_isClashing_26 : decode cX8_isClashing 26 = .ok (.iload 5, 2) := by decide +kernel
theorem dX8_isClashing_28 : decode cX8_isClashing 28 = .ok (.iconst 4, 1) := by decide +kernel
theorem dX8_isClashing_29 : decode cX8_isClashing 29 = .ok (.if_icmp .eq 18, 3) := by decide +kernel
theorem dX8_isClashing_32 : decode cX8_isClashing 32 = .ok (.aload_n 0, 1) := by decide +kernel
theorem dX8_isClashing_33 : decode cX8_isClashing 33 = .ok (.iload_n 1, 1) := by decide +kernel
theorem dX8_isClashing_34 : decode cX8_isClashing 34 = .ok (.iload_n 2, 1) := by decide +kernel
theorem dX8_isClashing_35 : decode cX8_isClashing 35 = .ok (.iload 4, 2) := by decide +kernel
theorem dX8_isClashing_37 : decode cX8_isClashing 37 = .ok (.iload 5, 2) := by decide +kernel
theorem dX8_isClashing_39 : decode cX8_isClashing 39 = .ok (.invokevirtual 144, 3) := by decide +kernel
theorem dX8_isClashing_42 : decode cX8_isClashing 42 = .ok (.ifCond .le 5, 3) := by decide +kernel
theorem dX8_isClashing_45 : decode cX8_isClashing 45 = .ok (.iconst 1, 1) := by decide +kernel
theorem dX8_isClashing_46 : decode cX8_isClashing 46 = .ok (.ireturn, 1) := by decide +kernel
theorem dX8_isClashing_47 : decode cX8_isClashing 47 = .ok (.iinc 4 1, 3) := by decide +kernel
theorem dX8_isClashing_50 : decode cX8_isClashing 50 = .ok (.goto (-47), 3) := by decide +kernel
theorem dX8_isClashing_53 : decode cX8_isClashing 53 = .ok (.iconst 0, 1) := by decide +kernel
theorem dX8_isClashing_54 : decode cX8_isClashing 54 = .ok (.ireturn, 1) := by decide +kernel
theorem dX8_shared_0 : decode cX8_shared 0 = .ok (.aload_n 0, 1) := by decide +kernel
theorem dX8_shared_1 : decode cX8_shared 1 = .ok (.iload_n 1, 1) := by decide +kernel
theorem dX8_shared_2 : decode cX8_shared 2 = .ok (.invokevirtual 91, 3) := by decide +kernel
theorem dX8_shared_5 : decode cX8_shared 5 = .ok (.astore 5, 2) := by decide +kernel
theorem dX8_shared_7 : decode cX8_shared 7 = .ok (.aload_n 0, 1) := by decide +kernel
theorem dX8_shared_8 : decode cX8_shared 8 = .ok (.iload_n 3, 1) := by decide +kernel
theorem dX8_shared_9 : decode cX8_shared 9 = .ok (.invokevirtual 91, 3) := by decide +kernel
theorem dX8_shared_12 : decode cX8_shared 12 = .ok (.astore 6, 2) := by decide +kernel
theorem dX8_shared_14 : decode cX8_shared 14 = .ok (.aload 5, 2) := by decide +kernel
theorem dX8_shared_16 : decode cX8_shared 16 = .ok (.ifnull 24, 3) := by decide +kernel
theorem dX8_shared_19 : decode cX8_shared 19 = .ok (.aload 6, 2) := by decide +kernel
theorem dX8_shared_21 : decode cX8_shared 21 = .ok (.ifnull 19, 3) := by decide +kernel
theorem dX8_shared_24 : decode cX8_shared 24 = .ok (.aload 5, 2) := by decide +kernel
theorem dX8_shared_26 : decode cX8_shared 26 = .ok (.iload_n 2, 1) := by decide +kernel
theorem dX8_shared_27 : decode cX8_shared 27 = .ok (.invokevirtual 116, 3) := by decide +kernel
theorem dX8_shared_30 : decode cX8_shared 30 = .ok (.aload 6, 2) := by decide +kernel
theorem dX8_shared_32 : decode cX8_shared 32 = .ok (.iload 4, 2) := by decide +kernel
theorem dX8_shared_34 : decode cX8_shared 34 = .ok (.invokevirtual 116, 3) := by decide +kernel
theorem dX8_shared_37 : decode cX8_shared 37 = .ok (.if_icmp .eq 5, 3) := by decide +kernel
theorem dX8_shared_40 : decode cX8_shared 40 = .ok (.iconst 0, 1) := by decide +kernel
theorem dX8_shared_41 : decode cX8_shared 41 = .ok (.ireturn, 1) := by decide +kernel
theorem dX8_shared_42 : decode cX8_shared 42 = .ok (.aload 5, 2) := by decide +kernel
theorem dX8_shared_44 : decode cX8_shared 44 = .ok (.iload_n 2, 1) := by decide +kernel
theorem dX8_shared_45 : decode cX8_shared 45 = .ok (.aload 5, 2) := by decide +kernel
theorem dX8_shared_47 : decode cX8_shared 47 = .ok (.getfield 119, 3) := by decide +kernel
theorem dX8_shared_50 : decode cX8_shared 50 = .ok (.invokevirtual 122, 3) := by decide +kernel
theorem dX8_shared_53 : decode cX8_shared 53 = .ok (.aload 6, 2) := by decide +kernel
theorem dX8_shared_55 : decode cX8_shared 55 = .ok (.iload 4, 2) := by decide +kernel
theorem dX8_shared_57 : decode cX8_shared 57 = .ok (.aload 6, 2) := by decide +kernel
theorem dX8_shared_59 : decode cX8_shared 59 = .ok (.getfield 119, 3) := by decide +kernel
theorem dX8_shared_62 : decode cX8_shared 62 = .ok (.invokevirtual 122, 3) := by decide +kernel
theorem dX8_shared_65 : decode cX8_shared 65 = .ok (.land, 1) := by decide +kernel
theorem dX8_shared_66 : decode cX8_shared 66 = .ok (.invokestatic 148, 3) := by decide +kernel
theorem dX8_shared_69 : decode cX8_shared 69 = .ok (.ireturn, 1) := by decide +kernel
theorem dX8_laid_0 : decode cX8_laid 0 = .ok (.iconst 0, 1) := by decide +kernel
theorem dX8_laid_1 : decode cX8_laid 1 = .ok (.istore_n 2, 1) := by decide +kernel
theorem dX8_laid_2 : decode cX8_laid 2 = .ok (.iconst 0, 1) := by decide +kernel
theorem dX8_laid_3 : decode cX8_laid 3 = .ok (.istore_n 3, 1) := by decide +kernel
theorem dX8_laid_4 : decode cX8_laid 4 = .ok (.iload_n 3, 1) := by decide +kernel
theorem dX8_laid_5 : decode cX8_laid 5 = .ok (.aload_n 0, 1) := by decide +kernel
theorem dX8_laid_6 : decode cX8_laid 6 = .ok (.invokevirtual 88, 3) := by decide +kernel
theorem dX8_laid_9 : decode cX8_laid 9 = .ok (.if_icmp .ge 24, 3) := by decide +kernel
theorem dX8_laid_12 : decode cX8_laid 12 = .ok (.aload_n 1, 1) := by decide +kernel
theorem dX8_laid_13 : decode cX8_laid 13 = .ok (.iload_n 3, 1) := by decide +kernel
theorem dX8_laid_14 : decode cX8_laid 14 = .ok (.invokevirtual 101, 3) := by decide +kernel
theorem dX8_laid_17 : decode cX8_laid 17 = .ok (.iconst 4, 1) := by decide +kernel
theorem dX8_laid_18 : decode cX8_laid 18 = .ok (.if_icmp .eq 9, 3) := by decide +kernel
theorem dX8_laid_21 : decode cX8_laid 21 = .ok (.iload_n 2, 1) := by decide +kernel
theorem dX8_laid_22 : decode cX8_laid 22 = .ok (.iconst 1, 1) := by decide +kernel
theorem dX8_laid_23 : decode cX8_laid 23 = .ok (.iload_n 3, 1) := by decide +kernel
theorem dX8_laid_24 : decode cX8_laid 24 = .ok (.ishl, 1) := by decide +kernel
theorem dX8_laid_25 : decode cX8_laid 25 = .ok (.ior, 1) := by decide +kernel
theorem dX8_laid_26 : decode cX8_laid 26 = .ok (.istore_n 2, 1) := by decide +kernel
theorem dX8_laid_27 : decode cX8_laid 27 = .ok (.iinc 3 1, 3) := by decide +kernel
theorem dX8_laid_30 : decode cX8_laid 30 = .ok (.goto (-26), 3) := by decide +kernel
theorem dX8_laid_33 : decode cX8_laid 33 = .ok (.iload_n 2, 1) := by decide +kernel
theorem dX8_laid_34 : decode cX8_laid 34 = .ok (.ireturn, 1) := by decide +kernel
theorem dX8_score_0 : decode cX8_score 0 = .ok (.iconst 0, 1) := by decide +kernel
theorem dX8_score_1 : decode cX8_score 1 = .ok (.istore_n 2, 1) := by decide +kernel
theorem dX8_score_2 : decode cX8_score 2 = .ok (.iconst 0, 1) := by decide +kernel
theorem dX8_score_3 : decode cX8_score 3 = .ok (.istore_n 3, 1) := by decide +kernel
theorem dX8_score_4 : decode cX8_score 4 = .ok (.iload_n 3, 1) := by decide +kernel
theorem dX8_score_5 : decode cX8_score 5 = .ok (.aload_n 0, 1) := by decide +kernel
theorem dX8_score_6 : decode cX8_score 6 = .ok (.invokevirtual 88, 3) := by decide +kernel
theorem dX8_score_9 : decode cX8_score 9 = .ok (.if_icmp .ge 31, 3) := by decide +kernel
theorem dX8_score_12 : decode cX8_score 12 = .ok (.aload_n 1, 1) := by decide +kernel
theorem dX8_score_13 : decode cX8_score 13 = .ok (.iload_n 3, 1) := by decide +kernel
theorem dX8_score_14 : decode cX8_score 14 = .ok (.invokevirtual 101, 3) := by decide +kernel
theorem dX8_score_17 : decode cX8_score 17 = .ok (.iconst 4, 1) := by decide +kernel
theorem dX8_score_18 : decode cX8_score 18 = .ok (.if_icmp .eq 16, 3) := by decide +kernel
theorem dX8_score_21 : decode cX8_score 21 = .ok (.iload_n 2, 1) := by decide +kernel
theorem dX8_score_22 : decode cX8_score 22 = .ok (.aload_n 0, 1) := by decide +kernel
theorem dX8_score_23 : decode cX8_score 23 = .ok (.iload_n 3, 1) := by decide +kernel
theorem dX8_score_24 : decode cX8_score 24 = .ok (.aload_n 1, 1) := by decide +kernel
theorem dX8_score_25 : decode cX8_score 25 = .ok (.iload_n 3, 1) := by decide +kernel
theorem dX8_score_26 : decode cX8_score 26 = .ok (.invokevirtual 101, 3) := by decide +kernel
theorem dX8_score_29 : decode cX8_score 29 = .ok (.invokevirtual 154, 3) := by decide +kernel
theorem dX8_score_32 : decode cX8_score 32 = .ok (.iadd, 1) := by decide +kernel
theorem dX8_score_33 : decode cX8_score 33 = .ok (.istore_n 2, 1) := by decide +kernel
theorem dX8_score_34 : decode cX8_score 34 = .ok (.iinc 3 1, 3) := by decide +kernel
theorem dX8_score_37 : decode cX8_score 37 = .ok (.goto (-33), 3) := by decide +kernel
theorem dX8_score_40 : decode cX8_score 40 = .ok (.iload_n 2, 1) := by decide +kernel
theorem dX8_score_41 : decode cX8_score 41 = .ok (.ireturn, 1) := by decide +kernel
theorem dX8_goodness_0 : decode cX8_goodness 0 = .ok (.aload_n 0, 1) := by decide +kernel
theorem dX8_goodness_1 : decode cX8_goodness 1 = .ok (.iload_n 1, 1) := by decide +kernel
theorem dX8_goodness_2 : decode cX8_goodness 2 = .ok (.invokevirtual 91, 3) := by decide +kernel
theorem dX8_goodness_5 : decode cX8_goodness 5 = .ok (.astore_n 3, 1) := by decide +kernel
theorem dX8_goodness_6 : decode cX8_goodness 6 = .ok (.aload_n 3, 1) := by decide +kernel
theorem dX8_goodness_7 : decode cX8_goodness 7 = .ok (.ifnonnull 5, 3) := by decide +kernel
theorem dX8_goodness_10 : decode cX8_goodness 10 = .ok (.iconst 0, 1) := by decide +kernel
theorem dX8_goodness_11 : decode cX8_goodness 11 = .ok (.ireturn, 1) := by decide +kernel
theorem dX8_goodness_12 : decode cX8_goodness 12 = .ok (.aload_n 0, 1) := by decide +kernel
theorem dX8_goodness_13 : decode cX8_goodness 13 = .ok (.getfield 52, 3) := by decide +kernel
theorem dX8_goodness_16 : decode cX8_goodness 16 = .ok (.bipush 44, 2) := by decide +kernel
theorem dX8_goodness_18 : decode cX8_goodness 18 = .ok (.if_icmp .ge 28, 3) := by decide +kernel
theorem dX8_goodness_21 : decode cX8_goodness 21 = .ok (.aload_n 3, 1) := by decide +kernel
theorem dX8_goodness_22 : decode cX8_goodness 22 = .ok (.iload_n 2, 1) := by decide +kernel
theorem dX8_goodness_23 : decode cX8_goodness 23 = .ok (.aload_n 3, 1) := by decide +kernel
theorem dX8_goodness_24 : decode cX8_goodness 24 = .ok (.getfield 119, 3) := by decide +kernel
theorem dX8_goodness_27 : decode cX8_goodness 27 = .ok (.aload_n 0, 1) := by decide +kernel
theorem dX8_goodness_28 : decode cX8_goodness 28 = .ok (.getfield 52, 3) := by decide +kernel
theorem dX8_goodness_31 : decode cX8_goodness 31 = .ok (.aload_n 3, 1) := by decide +kernel
theorem dX8_goodness_32 : decode cX8_goodness 32 = .ok (.iload_n 2, 1) := by decide +kernel
theorem dX8_goodness_33 : decode cX8_goodness 33 = .ok (.invokevirtual 116, 3) := by decide +kernel
theorem dX8_goodness_36 : decode cX8_goodness 36 = .ok (.invokevirtual 128, 3) := by decide +kernel
theorem dX8_goodness_39 : decode cX8_goodness 39 = .ok (.ifCond .eq 7, 3) := by decide +kernel
theorem dX8_goodness_42 : decode cX8_goodness 42 = .ok (.iconst 1, 1) := by decide +kernel
theorem dX8_goodness_43 : decode cX8_goodness 43 = .ok (.goto 4, 3) := by decide +kernel
theorem dX8_goodness_46 : decode cX8_goodness 46 = .ok (.iconst 0, 1) := by decide +kernel
theorem dX8_goodness_47 : decode cX8_goodness 47 = .ok (.istore 4, 2) := by decide +kernel
theorem dX8_goodness_49 : decode cX8_goodness 49 = .ok (.bipush 10, 2) := by decide +kernel
theorem dX8_goodness_51 : decode cX8_goodness 51 = .ok (.aload_n 0, 1) := by decide +kernel
theorem dX8_goodness_52 : decode cX8_goodness 52 = .ok (.aload_n 3, 1) := by decide +kernel
theorem dX8_goodness_53 : decode cX8_goodness 53 = .ok (.iload_n 2, 1) := by decide +kernel
theorem dX8_goodness_54 : decode cX8_goodness 54 = .ok (.invokevirtual 157, 3) := by decide +kernel
theorem dX8_goodness_57 : decode cX8_goodness 57 = .ok (.iadd, 1) := by decide +kernel
theorem dX8_goodness_58 : decode cX8_goodness 58 = .ok (.iload 4, 2) := by decide +kernel
theorem dX8_goodness_60 : decode cX8_goodness 60 = .ok (.ifCond .eq 7, 3) := by decide +kernel
theorem dX8_goodness_63 : decode cX8_goodness 63 = .ok (.iconst 5, 1) := by decide +kernel
theorem dX8_goodness_64 : decode cX8_goodness 64 = .ok (.goto 4, 3) := by decide +kernel
theorem dX8_goodness_67 : decode cX8_goodness 67 = .ok (.iconst 0, 1) := by decide +kernel
theorem dX8_goodness_68 : decode cX8_goodness 68 = .ok (.isub, 1) := by decide +kernel
theorem dX8_goodness_69 : decode cX8_goodness 69 = .ok (.ireturn, 1) := by decide +kernel
theorem dX8_taste_0 : decode cX8_taste 0 = .ok (.iconst 0, 1) := by decide +kernel
theorem dX8_taste_1 : decode cX8_taste 1 = .ok (.istore_n 3, 1) := by decide +kernel
theorem dX8_taste_2 : decode cX8_taste 2 = .ok (.iconst 0, 1) := by decide +kernel
theorem dX8_taste_3 : decode cX8_taste 3 = .ok (.istore 4, 2) := by decide +kernel
theorem dX8_taste_5 : decode cX8_taste 5 = .ok (.iconst 0, 1) := by decide +kernel
theorem dX8_taste_6 : decode cX8_taste 6 = .ok (.istore 5, 2) := by decide +kernel
theorem dX8_taste_8 : decode cX8_taste 8 = .ok (.iload 5, 2) := by decide +kernel
theorem dX8_taste_10 : decode cX8_taste 10 = .ok (.aload_n 0, 1) := by decide +kernel
theorem dX8_taste_11 : decode cX8_taste 11 = .ok (.getfield 20, 3) := by decide +kernel
theorem dX8_taste_14 : decode cX8_taste 14 = .ok (.invokevirtual 161, 3) := by decide +kernel
theorem dX8_taste_17 : decode cX8_taste 17 = .ok (.if_icmp .ge 153, 3) := by decide +kernel
theorem dX8_taste_20 : decode cX8_taste 20 = .ok (.aload_n 0, 1) := by decide +kernel
theorem dX8_taste_21 : decode cX8_taste 21 = .ok (.getfield 20, 3) := by decide +kernel
theorem dX8_taste_24 : decode cX8_taste 24 = .ok (.iload 5, 2) := by decide +kernel
theorem dX8_taste_26 : decode cX8_taste 26 = .ok (.invokevirtual 101, 3) := by decide +kernel
theorem dX8_taste_29 : decode cX8_taste 29 = .ok (.istore 6, 2) := by decide +kernel
theorem dX8_taste_31 : decode cX8_taste 31 = .ok (.iload 6, 2) := by decide +kernel
theorem dX8_taste_33 : decode cX8_taste 33 = .ok (.sipush 10000, 3) := by decide +kernel
theorem dX8_taste_36 : decode cX8_taste 36 = .ok (.if_icmp .lt 44, 3) := by decide +kernel
theorem dX8_taste_39 : decode cX8_taste 39 = .ok (.iload 6, 2) := by decide +kernel
theorem dX8_taste_41 : decode cX8_taste 41 = .ok (.sipush 20000, 3) := by decide +kernel
theorem dX8_taste_44 : decode cX8_taste 44 = .ok (.if_icmp .lt 12, 3) := by decide +kernel
theorem dX8_taste_47 : decode cX8_taste 47 = .ok (.sipush 20000, 3) := by decide +kernel
theorem dX8_taste_50 : decode cX8_taste 50 = .ok (.iload 6, 2) := by decide +kernel
theorem dX8_taste_52 : decode cX8_taste 52 = .ok (.isub, 1) := by decide +kernel
theorem dX8_taste_53 : decode cX8_taste 53 = .ok (.goto 9, 3) := by decide +kernel
theorem dX8_taste_56 : decode cX8_taste 56 = .ok (.iload 6, 2) := by decide +kernel
theorem dX8_taste_58 : decode cX8_taste 58 = .ok (.sipush 10000, 3) := by decide +kernel
theorem dX8_taste_61 : decode cX8_taste 61 = .ok (.isub, 1) := by decide +kernel
theorem dX8_taste_62 : decode cX8_taste 62 = .ok (.istore 7, 2) := by decide +kernel
theorem dX8_taste_64 : decode cX8_taste 64 = .ok (.iload_n 3, 1) := by decide +kernel
theorem dX8_taste_65 : decode cX8_taste 65 = .ok (.iload 4, 2) := by decide +kernel
theorem dX8_taste_67 : decode cX8_taste 67 = .ok (.iconst 1, 1) := by decide +kernel
theorem dX8_taste_68 : decode cX8_taste 68 = .ok (.iand, 1) := by decide +kernel
theorem dX8_taste_69 : decode cX8_taste 69 = .ok (.iload 7, 2) := by decide +kernel
theorem dX8_taste_71 : decode cX8_taste 71 = .ok (.imul, 1) := by decide +kernel
theorem dX8_taste_72 : decode cX8_taste 72 = .ok (.iadd, 1) := by decide +kernel
theorem dX8_taste_73 : decode cX8_taste 73 = .ok (.istore_n 3, 1) := by decide +kernel
theorem dX8_taste_74 : decode cX8_taste 74 = .ok (.iconst 0, 1) := by decide +kernel
theorem dX8_taste_75 : decode cX8_taste 75 = .ok (.istore 4, 2) := by decide +kernel
theorem dX8_taste_77 : decode cX8_taste 77 = .ok (.goto 87, 3) := by decide +kernel
theorem dX8_taste_80 : decode cX8_taste 80 = .ok (.iload 6, 2) := by decide +kernel
theorem dX8_taste_82 : decode cX8_taste 82 = .ok (.sipush 1000, 3) := by decide +kernel
theorem dX8_taste_85 : decode cX8_taste 85 = .ok (.if_icmp .lt 32, 3) := by decide +kernel
theorem dX8_taste_88 : decode cX8_taste 88 = .ok (.iload 4, 2) := by decide +kernel
theorem dX8_taste_90 : decode cX8_taste 90 = .ok (.iconst 1, 1) := by decide +kernel
theorem dX8_taste_91 : decode cX8_taste 91 = .ok (.ishl, 1) := by decide +kernel
theorem dX8_taste_92 : decode cX8_taste 92 = .ok (.iload 6, 2) := by decide +kernel
theorem dX8_taste_94 : decode cX8_taste 94 = .ok (.sipush 1000, 3) := by decide +kernel
theorem dX8_taste_97 : decode cX8_taste 97 = .ok (.isub, 1) := by decide +kernel
theorem dX8_taste_98 : decode cX8_taste 98 = .ok (.aload_n 1, 1) := by decide +kernel
theorem dX8_taste_99 : decode cX8_taste 99 = .ok (.iload_n 2, 1) := by decide +kernel
theorem dX8_taste_100 : decode cX8_taste 100 = .ok (.invokestatic 162, 3) := by decide +kernel
theorem dX8_taste_103 : decode cX8_taste 103 = .ok (.ifCond .eq 7, 3) := by decide +kernel
theorem dX8_taste_106 : decode cX8_taste 106 = .ok (.iconst 1, 1) := by decide +kernel
theorem dX8_taste_107 : decode cX8_taste 107 = .ok (.goto 4, 3) := by decide +kernel
theorem dX8_taste_110 : decode cX8_taste 110 = .ok (.iconst 0, 1) := by decide +kernel
theorem dX8_taste_111 : decode cX8_taste 111 = .ok (.ior, 1) := by decide +kernel
theorem dX8_taste_112 : decode cX8_taste 112 = .ok (.istore 4, 2) := by decide +kernel
theorem dX8_taste_114 : decode cX8_taste 114 = .ok (.goto 50, 3) := by decide +kernel
theorem dX8_taste_117 : decode cX8_taste 117 = .ok (.iload 6, 2) := by decide +kernel
theorem dX8_taste_119 : decode cX8_taste 119 = .ok (.iconst 1, 1) := by decide +kernel
theorem dX8_taste_120 : decode cX8_taste 120 = .ok (.if_icmp .ne 12, 3) := by decide +kernel
theorem dX8_taste_123 : decode cX8_taste 123 = .ok (.iload 4, 2) := by decide +kernel
theorem dX8_taste_125 : decode cX8_taste 125 = .ok (.iconst 1, 1) := by decide +kernel
theorem dX8_taste_126 : decode cX8_taste 126 = .ok (.ixor, 1) := by decide +kernel
theorem dX8_taste_127 : decode cX8_taste 127 = .ok (.istore 4, 2) := by decide +kernel
theorem dX8_taste_129 : decode cX8_taste 129 = .ok (.goto 35, 3) := by decide +kernel
theorem dX8_taste_132 : decode cX8_taste 132 = .ok (.iload 6, 2) := by decide +kernel
theorem dX8_taste_134 : decode cX8_taste 134 = .ok (.iconst 2, 1) := by decide +kernel
theorem dX8_taste_135 : decode cX8_taste 135 = .ok (.if_icmp .ne 18, 3) := by decide +kernel
theorem dX8_taste_138 : decode cX8_taste 138 = .ok (.iload 4, 2) := by decide +kernel
theorem dX8_taste_140 : decode cX8_taste 140 = .ok (.iconst 1, 1) := by decide +kernel
theorem dX8_taste_141 : decode cX8_taste 141 = .ok (.ishr, 1) := by decide +kernel
theorem dX8_taste_142 : decode cX8_taste 142 = .ok (.iload 4, 2) := by decide +kernel
theorem dX8_taste_144 : decode cX8_taste 144 = .ok (.bipush (-2), 2) := by decide +kernel
theorem dX8_taste_146 : decode cX8_taste 146 = .ok (.ior, 1) := by decide +kernel
theorem dX8_taste_147 : decode cX8_taste 147 = .ok (.iand, 1) := by decide +kernel
theorem dX8_taste_148 : decode cX8_taste 148 = .ok (.istore 4, 2) := by decide +kernel
theorem dX8_taste_150 : decode cX8_taste 150 = .ok (.goto 14, 3) := by decide +kernel
theorem dX8_taste_153 : decode cX8_taste 153 = .ok (.iload 4, 2) := by decide +kernel
theorem dX8_taste_155 : decode cX8_taste 155 = .ok (.iconst 1, 1) := by decide +kernel
theorem dX8_taste_156 : decode cX8_taste 156 = .ok (.ishr, 1) := by decide +kernel
theorem dX8_taste_157 : decode cX8_taste 157 = .ok (.iload 4, 2) := by decide +kernel
theorem dX8_taste_159 : decode cX8_taste 159 = .ok (.iconst 1, 1) := by decide +kernel
theorem dX8_taste_160 : decode cX8_taste 160 = .ok (.iand, 1) := by decide +kernel
theorem dX8_taste_161 : decode cX8_taste 161 = .ok (.ior, 1) := by decide +kernel
theorem dX8_taste_162 : decode cX8_taste 162 = .ok (.istore 4, 2) := by decide +kernel
theorem dX8_taste_164 : decode cX8_taste 164 = .ok (.iinc 5 1, 3) := by decide +kernel
theorem dX8_taste_167 : decode cX8_taste 167 = .ok (.goto (-159), 3) := by decide +kernel
theorem dX8_taste_170 : decode cX8_taste 170 = .ok (.iload_n 3, 1) := by decide +kernel
theorem dX8_taste_171 : decode cX8_taste 171 = .ok (.ireturn, 1) := by decide +kernel
theorem dX8_holds_0 : decode cX8_holds 0 = .ok (.iload_n 0, 1) := by decide +kernel
theorem dX8_holds_1 : decode cX8_holds 1 = .ok (.sipush 300, 3) := by decide +kernel
theorem dX8_holds_4 : decode cX8_holds 4 = .ok (.idiv, 1) := by decide +kernel
theorem dX8_holds_5 : decode cX8_holds 5 = .ok (.aload_n 1, 1) := by decide +kernel
theorem dX8_holds_6 : decode cX8_holds 6 = .ok (.iload_n 2, 1) := by decide +kernel
theorem dX8_holds_7 : decode cX8_holds 7 = .ok (.invokestatic 166, 3) := by decide +kernel
theorem dX8_holds_10 : decode cX8_holds 10 = .ok (.istore_n 3, 1) := by decide +kernel
theorem dX8_holds_11 : decode cX8_holds 11 = .ok (.iload_n 0, 1) := by decide +kernel
theorem dX8_holds_12 : decode cX8_holds 12 = .ok (.bipush 100, 2) := by decide +kernel
theorem dX8_holds_14 : decode cX8_holds 14 = .ok (.irem, 1) := by decide +kernel
theorem dX8_holds_15 : decode cX8_holds 15 = .ok (.istore 4, 2) := by decide +kernel
theorem dX8_holds_17 : decode cX8_holds 17 = .ok (.iload_n 0, 1) := by decide +kernel
theorem dX8_holds_18 : decode cX8_holds 18 = .ok (.bipush 100, 2) := by decide +kernel
theorem dX8_holds_20 : decode cX8_holds 20 = .ok (.idiv, 1) := by decide +kernel
theorem dX8_holds_21 : decode cX8_holds 21 = .ok (.iconst 3, 1) := by decide +kernel
theorem dX8_holds_22 : decode cX8_holds 22 = .ok (.irem, 1) := by decide +kernel
theorem dX8_holds_23 : decode cX8_holds 23 = .ok (.lookupswitch 49 #[(0, 25), (1, 37)], 25) := by decide +kernel
theorem dX8_holds_48 : decode cX8_holds 48 = .ok (.iload_n 3, 1) := by decide +kernel
theorem dX8_holds_49 : decode cX8_holds 49 = .ok (.iload 4, 2) := by decide +kernel
theorem dX8_holds_51 : decode cX8_holds 51 = .ok (.if_icmp .ge 7, 3) := by decide +kernel
theorem dX8_holds_54 : decode cX8_holds 54 = .ok (.iconst 1, 1) := by decide +kernel
theorem dX8_holds_55 : decode cX8_holds 55 = .ok (.goto 4, 3) := by decide +kernel
theorem dX8_holds_58 : decode cX8_holds 58 = .ok (.iconst 0, 1) := by decide +kernel
theorem dX8_holds_59 : decode cX8_holds 59 = .ok (.ireturn, 1) := by decide +kernel
theorem dX8_holds_60 : decode cX8_holds 60 = .ok (.iload_n 3, 1) := by decide +kernel
theorem dX8_holds_61 : decode cX8_holds 61 = .ok (.iload 4, 2) := by decide +kernel
theorem dX8_holds_63 : decode cX8_holds 63 = .ok (.if_icmp .ne 7, 3) := by decide +kernel
theorem dX8_holds_66 : decode cX8_holds 66 = .ok (.iconst 1, 1) := by decide +kernel
theorem dX8_holds_67 : decode cX8_holds 67 = .ok (.goto 4, 3) := by decide +kernel
theorem dX8_holds_70 : decode cX8_holds 70 = .ok (.iconst 0, 1) := by decide +kernel
theorem dX8_holds_71 : decode cX8_holds 71 = .ok (.ireturn, 1) := by decide +kernel
theorem dX8_holds_72 : decode cX8_holds 72 = .ok (.iload_n 3, 1) := by decide +kernel
theorem dX8_holds_73 : decode cX8_holds 73 = .ok (.iload 4, 2) := by decide +kernel
theorem dX8_holds_75 : decode cX8_holds 75 = .ok (.if_icmp .le 7, 3) := by decide +kernel
theorem dX8_holds_78 : decode cX8_holds 78 = .ok (.iconst 1, 1) := by decide +kernel
theorem dX8_holds_79 : decode cX8_holds 79 = .ok (.goto 4, 3) := by decide +kernel
theorem dX8_holds_82 : decode cX8_holds 82 = .ok (.iconst 0, 1) := by decide +kernel
theorem dX8_holds_83 : decode cX8_holds 83 = .ok (.ireturn, 1) := by decide +kernel
theorem dX8_asked_0 : decode cX8_asked 0 = .ok (.iload_n 0, 1) := by decide +kernel
theorem dX8_asked_1 : decode cX8_asked 1 = .ok (.tableswitch 59 0 4 #[35, 40, 45, 50, 52], 35) := by decide +kernel
theorem dX8_asked_36 : decode cX8_asked 36 = .ok (.aload_n 1, 1) := by decide +kernel
theorem dX8_asked_37 : decode cX8_asked 37 = .ok (.getfield 170, 3) := by decide +kernel
theorem dX8_asked_40 : decode cX8_asked 40 = .ok (.ireturn, 1) := by decide +kernel
theorem dX8_asked_41 : decode cX8_asked 41 = .ok (.aload_n 1, 1) := by decide +kernel
theorem dX8_asked_42 : decode cX8_asked 42 = .ok (.invokevirtual 173, 3) := by decide +kernel
theorem dX8_asked_45 : decode cX8_asked 45 = .ok (.ireturn, 1) := by decide +kernel
theorem dX8_asked_46 : decode cX8_asked 46 = .ok (.aload_n 1, 1) := by decide +kernel
theorem dX8_asked_47 : decode cX8_asked 47 = .ok (.getfield 119, 3) := by decide +kernel
theorem dX8_asked_50 : decode cX8_asked 50 = .ok (.ireturn, 1) := by decide +kernel
theorem dX8_asked_51 : decode cX8_asked 51 = .ok (.iload_n 2, 1) := by decide +kernel
theorem dX8_asked_52 : decode cX8_asked 52 = .ok (.ireturn, 1) := by decide +kernel
theorem dX8_asked_53 : decode cX8_asked 53 = .ok (.aload_n 1, 1) := by decide +kernel
theorem dX8_asked_54 : decode cX8_asked 54 = .ok (.getfield 95, 3) := by decide +kernel
theorem dX8_asked_57 : decode cX8_asked 57 = .ok (.iconst 3, 1) := by decide +kernel
theorem dX8_asked_58 : decode cX8_asked 58 = .ok (.idiv, 1) := by decide +kernel
theorem dX8_asked_59 : decode cX8_asked 59 = .ok (.ireturn, 1) := by decide +kernel
theorem dX8_asked_60 : decode cX8_asked 60 = .ok (.aload_n 1, 1) := by decide +kernel
theorem dX8_asked_61 : decode cX8_asked 61 = .ok (.getfield 176, 3) := by decide +kernel
theorem dX8_asked_64 : decode cX8_asked 64 = .ok (.ireturn, 1) := by decide +kernel
theorem dX8_mistaken_0 : decode cX8_mistaken 0 = .ok (.iconst 0, 1) := by decide +kernel
theorem dX8_mistaken_1 : decode cX8_mistaken 1 = .ok (.istore_n 1, 1) := by decide +kernel
theorem dX8_mistaken_2 : decode cX8_mistaken 2 = .ok (.iconst 0, 1) := by decide +kernel
theorem dX8_mistaken_3 : decode cX8_mistaken 3 = .ok (.istore_n 2, 1) := by decide +kernel
theorem dX8_mistaken_4 : decode cX8_mistaken 4 = .ok (.iload_n 2, 1) := by decide +kernel
theorem dX8_mistaken_5 : decode cX8_mistaken 5 = .ok (.aload_n 0, 1) := by decide +kernel
theorem dX8_mistaken_6 : decode cX8_mistaken 6 = .ok (.invokevirtual 88, 3) := by decide +kernel
theorem dX8_mistaken_9 : decode cX8_mistaken 9 = .ok (.if_icmp .ge 58, 3) := by decide +kernel
theorem dX8_mistaken_12 : decode cX8_mistaken 12 = .ok (.iconst 0, 1) := by decide +kernel
theorem dX8_mistaken_13 : decode cX8_mistaken 13 = .ok (.istore_n 3, 1) := by decide +kernel
theorem dX8_mistaken_14 : decode cX8_mistaken 14 = .ok (.iload_n 3, 1) := by decide +kernel
theorem dX8_mistaken_15 : decode cX8_mistaken 15 = .ok (.aload_n 0, 1) := by decide +kernel
theorem dX8_mistaken_16 : decode cX8_mistaken 16 = .ok (.invokevirtual 88, 3) := by decide +kernel
theorem dX8_mistaken_19 : decode cX8_mistaken 19 = .ok (.if_icmp .ge 42, 3) := by decide +kernel
theorem dX8_mistaken_22 : decode cX8_mistaken 22 = .ok (.aload_n 0, 1) := by decide +kernel
theorem dX8_mistaken_23 : decode cX8_mistaken 23 = .ok (.getfield 30, 3) := by decide +kernel
theorem dX8_mistaken_26 : decode cX8_mistaken 26 = .ok (.iload_n 2, 1) := by decide +kernel
theorem dX8_mistaken_27 : decode cX8_mistaken 27 = .ok (.invokevirtual 101, 3) := by decide +kernel
theorem dX8_mistaken_30 : decode cX8_mistaken 30 = .ok (.iconst 4, 1) := by decide +kernel
theorem dX8_mistaken_31 : decode cX8_mistaken 31 = .ok (.if_icmp .eq 24, 3) := by decide +kernel
theorem dX8_mistaken_34 : decode cX8_mistaken 34 = .ok (.aload_n 0, 1) := by decide +kernel
theorem dX8_mistaken_35 : decode cX8_mistaken 35 = .ok (.iload_n 2, 1) := by decide +kernel
theorem dX8_mistaken_36 : decode cX8_mistaken 36 = .ok (.iload_n 3, 1) := by decide +kernel
theorem dX8_mistaken_37 : decode cX8_mistaken 37 = .ok (.invokevirtual 179, 3) := by decide +kernel
theorem dX8_mistaken_40 : decode cX8_mistaken 40 = .ok (.aload_n 0, 1) := by decide +kernel
theorem dX8_mistaken_41 : decode cX8_mistaken 41 = .ok (.iload_n 2, 1) := by decide +kernel
theorem dX8_mistaken_42 : decode cX8_mistaken 42 = .ok (.iload_n 2, 1) := by decide +kernel
theorem dX8_mistaken_43 : decode cX8_mistaken 43 = .ok (.invokevirtual 179, 3) := by decide +kernel
theorem dX8_mistaken_46 : decode cX8_mistaken 46 = .ok (.if_icmp .ge 9, 3) := by decide +kernel
theorem dX8_mistaken_49 : decode cX8_mistaken 49 = .ok (.iload_n 1, 1) := by decide +kernel
theorem dX8_mistaken_50 : decode cX8_mistaken 50 = .ok (.iconst 1, 1) := by decide +kernel
theorem dX8_mistaken_51 : decode cX8_mistaken 51 = .ok (.iload_n 2, 1) := by decide +kernel
theorem dX8_mistaken_52 : decode cX8_mistaken 52 = .ok (.ishl, 1) := by decide +kernel
theorem dX8_mistaken_53 : decode cX8_mistaken 53 = .ok (.ior, 1) := by decide +kernel
theorem dX8_mistaken_54 : decode cX8_mistaken 54 = .ok (.istore_n 1, 1) := by decide +kernel
theorem dX8_mistaken_55 : decode cX8_mistaken 55 = .ok (.iinc 3 1, 3) := by decide +kernel
theorem dX8_mistaken_58 : decode cX8_mistaken 58 = .ok (.goto (-44), 3) := by decide +kernel
theorem dX8_mistaken_61 : decode cX8_mistaken 61 = .ok (.iinc 2 1, 3) := by decide +kernel
theorem dX8_mistaken_64 : decode cX8_mistaken 64 = .ok (.goto (-60), 3) := by decide +kernel
theorem dX8_mistaken_67 : decode cX8_mistaken 67 = .ok (.iload_n 1, 1) := by decide +kernel
theorem dX8_mistaken_68 : decode cX8_mistaken 68 = .ok (.ireturn, 1) := by decide +kernel
theorem dX8_fromMiddle_0 : decode cX8_fromMiddle 0 = .ok (.aload_n 0, 1) := by decide +kernel
theorem dX8_fromMiddle_1 : decode cX8_fromMiddle 1 = .ok (.iload_n 1, 1) := by decide +kernel
theorem dX8_fromMiddle_2 : decode cX8_fromMiddle 2 = .ok (.invokevirtual 91, 3) := by decide +kernel
theorem dX8_fromMiddle_5 : decode cX8_fromMiddle 5 = .ok (.astore_n 3, 1) := by decide +kernel
theorem dX8_fromMiddle_6 : decode cX8_fromMiddle 6 = .ok (.aload_n 0, 1) := by decide +kernel
theorem dX8_fromMiddle_7 : decode cX8_fromMiddle 7 = .ok (.iload_n 2, 1) := by decide +kernel
theorem dX8_fromMiddle_8 : decode cX8_fromMiddle 8 = .ok (.invokevirtual 91, 3) := by decide +kernel
theorem dX8_fromMiddle_11 : decode cX8_fromMiddle 11 = .ok (.astore 4, 2) := by decide +kernel
theorem dX8_fromMiddle_13 : decode cX8_fromMiddle 13 = .ok (.aload_n 3, 1) := by decide +kernel
theorem dX8_fromMiddle_14 : decode cX8_fromMiddle 14 = .ok (.ifnull 8, 3) := by decide +kernel
theorem dX8_fromMiddle_17 : decode cX8_fromMiddle 17 = .ok (.aload 4, 2) := by decide +kernel
theorem dX8_fromMiddle_19 : decode cX8_fromMiddle 19 = .ok (.ifnonnull 5, 3) := by decide +kernel
theorem dX8_fromMiddle_22 : decode cX8_fromMiddle 22 = .ok (.iconst 0, 1) := by decide +kernel
theorem dX8_fromMiddle_23 : decode cX8_fromMiddle 23 = .ok (.ireturn, 1) := by decide +kernel
theorem dX8_fromMiddle_24 : decode cX8_fromMiddle 24 = .ok (.aload_n 0, 1) := by decide +kernel
theorem dX8_fromMiddle_25 : decode cX8_fromMiddle 25 = .ok (.getfield 30, 3) := by decide +kernel
theorem dX8_fromMiddle_28 : decode cX8_fromMiddle 28 = .ok (.iload_n 1, 1) := by decide +kernel
theorem dX8_fromMiddle_29 : decode cX8_fromMiddle 29 = .ok (.invokevirtual 101, 3) := by decide +kernel
theorem dX8_fromMiddle_32 : decode cX8_fromMiddle 32 = .ok (.istore 5, 2) := by decide +kernel
theorem dX8_fromMiddle_34 : decode cX8_fromMiddle 34 = .ok (.aload_n 3, 1) := by decide +kernel
theorem dX8_fromMiddle_35 : decode cX8_fromMiddle 35 = .ok (.aload_n 3, 1) := by decide +kernel
theorem dX8_fromMiddle_36 : decode cX8_fromMiddle 36 = .ok (.getfield 119, 3) := by decide +kernel
theorem dX8_fromMiddle_39 : decode cX8_fromMiddle 39 = .ok (.invokevirtual 182, 3) := by decide +kernel
theorem dX8_fromMiddle_42 : decode cX8_fromMiddle 42 = .ok (.istore 6, 2) := by decide +kernel
theorem dX8_fromMiddle_44 : decode cX8_fromMiddle 44 = .ok (.aload_n 3, 1) := by decide +kernel
theorem dX8_fromMiddle_45 : decode cX8_fromMiddle 45 = .ok (.iload 5, 2) := by decide +kernel
theorem dX8_fromMiddle_47 : decode cX8_fromMiddle 47 = .ok (.iload 6, 2) := by decide +kernel
theorem dX8_fromMiddle_49 : decode cX8_fromMiddle 49 = .ok (.invokevirtual 185, 3) := by decide +kernel
theorem dX8_fromMiddle_52 : decode cX8_fromMiddle 52 = .ok (.iload 6, 2) := by decide +kernel
theorem dX8_fromMiddle_54 : decode cX8_fromMiddle 54 = .ok (.iconst 2, 1) := by decide +kernel
theorem dX8_fromMiddle_55 : decode cX8_fromMiddle 55 = .ok (.idiv, 1) := by decide +kernel
theorem dX8_fromMiddle_56 : decode cX8_fromMiddle 56 = .ok (.iadd, 1) := by decide +kernel
theorem dX8_fromMiddle_57 : decode cX8_fromMiddle 57 = .ok (.istore 7, 2) := by decide +kernel
theorem dX8_fromMiddle_59 : decode cX8_fromMiddle 59 = .ok (.iload 7, 2) := by decide +kernel
theorem dX8_fromMiddle_61 : decode cX8_fromMiddle 61 = .ok (.aload 4, 2) := by decide +kernel
theorem dX8_fromMiddle_63 : decode cX8_fromMiddle 63 = .ok (.getfield 95, 3) := by decide +kernel
theorem dX8_fromMiddle_66 : decode cX8_fromMiddle 66 = .ok (.isub, 1) := by decide +kernel
theorem dX8_fromMiddle_67 : decode cX8_fromMiddle 67 = .ok (.invokestatic 188, 3) := by decide +kernel
theorem dX8_fromMiddle_70 : decode cX8_fromMiddle 70 = .ok (.aload_n 3, 1) := by decide +kernel
theorem dX8_fromMiddle_71 : decode cX8_fromMiddle 71 = .ok (.iload 5, 2) := by decide +kernel
theorem dX8_fromMiddle_73 : decode cX8_fromMiddle 73 = .ok (.invokevirtual 116, 3) := by decide +kernel
theorem dX8_fromMiddle_76 : decode cX8_fromMiddle 76 = .ok (.aload 4, 2) := by decide +kernel
theorem dX8_fromMiddle_78 : decode cX8_fromMiddle 78 = .ok (.getfield 98, 3) := by decide +kernel
theorem dX8_fromMiddle_81 : decode cX8_fromMiddle 81 = .ok (.isub, 1) := by decide +kernel
theorem dX8_fromMiddle_82 : decode cX8_fromMiddle 82 = .ok (.invokestatic 188, 3) := by decide +kernel
theorem dX8_fromMiddle_85 : decode cX8_fromMiddle 85 = .ok (.iadd, 1) := by decide +kernel
theorem dX8_fromMiddle_86 : decode cX8_fromMiddle 86 = .ok (.ireturn, 1) := by decide +kernel
theorem dX8_covering_0 : decode cX8_covering 0 = .ok (.iconst 0, 1) := by decide +kernel
theorem dX8_covering_1 : decode cX8_covering 1 = .ok (.istore_n 3, 1) := by decide +kernel
theorem dX8_covering_2 : decode cX8_covering 2 = .ok (.iconst 0, 1) := by decide +kernel
theorem dX8_covering_3 : decode cX8_covering 3 = .ok (.istore 4, 2) := by decide +kernel
theorem dX8_covering_5 : decode cX8_covering 5 = .ok (.iload 4, 2) := by decide +kernel
theorem dX8_covering_7 : decode cX8_covering 7 = .ok (.aload_n 0, 1) := by decide +kernel
theorem dX8_covering_8 : decode cX8_covering 8 = .ok (.invokevirtual 88, 3) := by decide +kernel
end
section
theorem dX8_covering_11 : decode cX8_covering 11 = .ok (.if_icmp .ge 66, 3) := by decide +kernel
theorem dX8_covering_14 : decode cX8_covering 14 = .ok (.aload_n 0, 1) := by decide +kernel
theorem dX8_covering_15 : decode cX8_covering 15 = .ok (.iload 4, 2) := by decide +kernel
theorem dX8_covering_17 : decode cX8_covering 17 = .ok (.invokevirtual 91, 3) := by decide +kernel
theorem dX8_covering_20 : decode cX8_covering 20 = .ok (.astore 5, 2) := by decide +kernel
theorem dX8_covering_22 : decode cX8_covering 22 = .ok (.aload 5, 2) := by decide +kernel
theorem dX8_covering_24 : decode cX8_covering 24 = .ok (.ifnull 47, 3) := by decide +kernel
theorem dX8_covering_27 : decode cX8_covering 27 = .ok (.aload_n 0, 1) := by decide +kernel
theorem dX8_covering_28 : decode cX8_covering 28 = .ok (.getfield 30, 3) := by decide +kernel
theorem dX8_covering_31 : decode cX8_covering 31 = .ok (.iload 4, 2) := by decide +kernel
theorem dX8_covering_33 : decode cX8_covering 33 = .ok (.invokevirtual 101, 3) := by decide +kernel
theorem dX8_covering_36 : decode cX8_covering 36 = .ok (.iconst 4, 1) := by decide +kernel
theorem dX8_covering_37 : decode cX8_covering 37 = .ok (.if_icmp .eq 34, 3) := by decide +kernel
theorem dX8_covering_40 : decode cX8_covering 40 = .ok (.aload 5, 2) := by decide +kernel
theorem dX8_covering_42 : decode cX8_covering 42 = .ok (.aload_n 0, 1) := by decide +kernel
theorem dX8_covering_43 : decode cX8_covering 43 = .ok (.getfield 30, 3) := by decide +kernel
theorem dX8_covering_46 : decode cX8_covering 46 = .ok (.iload 4, 2) := by decide +kernel
theorem dX8_covering_48 : decode cX8_covering 48 = .ok (.invokevirtual 101, 3) := by decide +kernel
theorem dX8_covering_51 : decode cX8_covering 51 = .ok (.aload 5, 2) := by decide +kernel
theorem dX8_covering_53 : decode cX8_covering 53 = .ok (.getfield 119, 3) := by decide +kernel
theorem dX8_covering_56 : decode cX8_covering 56 = .ok (.iload_n 1, 1) := by decide +kernel
theorem dX8_covering_57 : decode cX8_covering 57 = .ok (.iload_n 2, 1) := by decide +kernel
theorem dX8_covering_58 : decode cX8_covering 58 = .ok (.invokevirtual 128, 3) := by decide +kernel
theorem dX8_covering_61 : decode cX8_covering 61 = .ok (.ifCond .eq 10, 3) := by decide +kernel
theorem dX8_covering_64 : decode cX8_covering 64 = .ok (.iload_n 3, 1) := by decide +kernel
theorem dX8_covering_65 : decode cX8_covering 65 = .ok (.iconst 1, 1) := by decide +kernel
theorem dX8_covering_66 : decode cX8_covering 66 = .ok (.iload 4, 2) := by decide +kernel
theorem dX8_covering_68 : decode cX8_covering 68 = .ok (.ishl, 1) := by decide +kernel
theorem dX8_covering_69 : decode cX8_covering 69 = .ok (.ior, 1) := by decide +kernel
theorem dX8_covering_70 : decode cX8_covering 70 = .ok (.istore_n 3, 1) := by decide +kernel
theorem dX8_covering_71 : decode cX8_covering 71 = .ok (.iinc 4 1, 3) := by decide +kernel
theorem dX8_covering_74 : decode cX8_covering 74 = .ok (.goto (-69), 3) := by decide +kernel
theorem dX8_covering_77 : decode cX8_covering 77 = .ok (.iload_n 3, 1) := by decide +kernel
theorem dX8_covering_78 : decode cX8_covering 78 = .ok (.ireturn, 1) := by decide +kernel
theorem dX8_isAllSeen_0 : decode cX8_isAllSeen 0 = .ok (.aload_n 0, 1) := by decide +kernel
theorem dX8_isAllSeen_1 : decode cX8_isAllSeen 1 = .ok (.iload_n 1, 1) := by decide +kernel
theorem dX8_isAllSeen_2 : decode cX8_isAllSeen 2 = .ok (.invokevirtual 91, 3) := by decide +kernel
theorem dX8_isAllSeen_5 : decode cX8_isAllSeen 5 = .ok (.astore 4, 2) := by decide +kernel
theorem dX8_isAllSeen_7 : decode cX8_isAllSeen 7 = .ok (.aload 4, 2) := by decide +kernel
theorem dX8_isAllSeen_9 : decode cX8_isAllSeen 9 = .ok (.ifnonnull 5, 3) := by decide +kernel
theorem dX8_isAllSeen_12 : decode cX8_isAllSeen 12 = .ok (.iconst 0, 1) := by decide +kernel
theorem dX8_isAllSeen_13 : decode cX8_isAllSeen 13 = .ok (.ireturn, 1) := by decide +kernel
theorem dX8_isAllSeen_14 : decode cX8_isAllSeen 14 = .ok (.iconst 0, 1) := by decide +kernel
theorem dX8_isAllSeen_15 : decode cX8_isAllSeen 15 = .ok (.istore 5, 2) := by decide +kernel
theorem dX8_isAllSeen_17 : decode cX8_isAllSeen 17 = .ok (.iload 5, 2) := by decide +kernel
theorem dX8_isAllSeen_19 : decode cX8_isAllSeen 19 = .ok (.aload_n 0, 1) := by decide +kernel
theorem dX8_isAllSeen_20 : decode cX8_isAllSeen 20 = .ok (.getfield 36, 3) := by decide +kernel
theorem dX8_isAllSeen_23 : decode cX8_isAllSeen 23 = .ok (.invokevirtual 161, 3) := by decide +kernel
theorem dX8_isAllSeen_26 : decode cX8_isAllSeen 26 = .ok (.iconst 3, 1) := by decide +kernel
theorem dX8_isAllSeen_27 : decode cX8_isAllSeen 27 = .ok (.idiv, 1) := by decide +kernel
theorem dX8_isAllSeen_28 : decode cX8_isAllSeen 28 = .ok (.if_icmp .ge 108, 3) := by decide +kernel
theorem dX8_isAllSeen_31 : decode cX8_isAllSeen 31 = .ok (.aload_n 0, 1) := by decide +kernel
theorem dX8_isAllSeen_32 : decode cX8_isAllSeen 32 = .ok (.getfield 36, 3) := by decide +kernel
theorem dX8_isAllSeen_35 : decode cX8_isAllSeen 35 = .ok (.iconst 3, 1) := by decide +kernel
theorem dX8_isAllSeen_36 : decode cX8_isAllSeen 36 = .ok (.iload 5, 2) := by decide +kernel
theorem dX8_isAllSeen_38 : decode cX8_isAllSeen 38 = .ok (.imul, 1) := by decide +kernel
theorem dX8_isAllSeen_39 : decode cX8_isAllSeen 39 = .ok (.invokevirtual 101, 3) := by decide +kernel
theorem dX8_isAllSeen_42 : decode cX8_isAllSeen 42 = .ok (.istore 6, 2) := by decide +kernel
theorem dX8_isAllSeen_44 : decode cX8_isAllSeen 44 = .ok (.aload_n 0, 1) := by decide +kernel
theorem dX8_isAllSeen_45 : decode cX8_isAllSeen 45 = .ok (.getfield 36, 3) := by decide +kernel
theorem dX8_isAllSeen_48 : decode cX8_isAllSeen 48 = .ok (.iconst 3, 1) := by decide +kernel
theorem dX8_isAllSeen_49 : decode cX8_isAllSeen 49 = .ok (.iload 5, 2) := by decide +kernel
theorem dX8_isAllSeen_51 : decode cX8_isAllSeen 51 = .ok (.imul, 1) := by decide +kernel
theorem dX8_isAllSeen_52 : decode cX8_isAllSeen 52 = .ok (.iconst 1, 1) := by decide +kernel
theorem dX8_isAllSeen_53 : decode cX8_isAllSeen 53 = .ok (.iadd, 1) := by decide +kernel
theorem dX8_isAllSeen_54 : decode cX8_isAllSeen 54 = .ok (.invokevirtual 101, 3) := by decide +kernel
theorem dX8_isAllSeen_57 : decode cX8_isAllSeen 57 = .ok (.istore 7, 2) := by decide +kernel
theorem dX8_isAllSeen_59 : decode cX8_isAllSeen 59 = .ok (.aload_n 0, 1) := by decide +kernel
theorem dX8_isAllSeen_60 : decode cX8_isAllSeen 60 = .ok (.iload 6, 2) := by decide +kernel
theorem dX8_isAllSeen_62 : decode cX8_isAllSeen 62 = .ok (.iload 7, 2) := by decide +kernel
theorem dX8_isAllSeen_64 : decode cX8_isAllSeen 64 = .ok (.invokevirtual 193, 3) := by decide +kernel
theorem dX8_isAllSeen_67 : decode cX8_isAllSeen 67 = .ok (.iconst 1, 1) := by decide +kernel
theorem dX8_isAllSeen_68 : decode cX8_isAllSeen 68 = .ok (.iload_n 1, 1) := by decide +kernel
theorem dX8_isAllSeen_69 : decode cX8_isAllSeen 69 = .ok (.ishl, 1) := by decide +kernel
theorem dX8_isAllSeen_70 : decode cX8_isAllSeen 70 = .ok (.iconst (-1), 1) := by decide +kernel
theorem dX8_isAllSeen_71 : decode cX8_isAllSeen 71 = .ok (.ixor, 1) := by decide +kernel
theorem dX8_isAllSeen_72 : decode cX8_isAllSeen 72 = .ok (.iand, 1) := by decide +kernel
theorem dX8_isAllSeen_73 : decode cX8_isAllSeen 73 = .ok (.ifCond .ne 22, 3) := by decide +kernel
theorem dX8_isAllSeen_76 : decode cX8_isAllSeen 76 = .ok (.iload_n 2, 1) := by decide +kernel
theorem dX8_isAllSeen_77 : decode cX8_isAllSeen 77 = .ok (.iconst 4, 1) := by decide +kernel
theorem dX8_isAllSeen_78 : decode cX8_isAllSeen 78 = .ok (.if_icmp .eq 21, 3) := by decide +kernel
theorem dX8_isAllSeen_81 : decode cX8_isAllSeen 81 = .ok (.aload 4, 2) := by decide +kernel
theorem dX8_isAllSeen_83 : decode cX8_isAllSeen 83 = .ok (.iload_n 2, 1) := by decide +kernel
theorem dX8_isAllSeen_84 : decode cX8_isAllSeen 84 = .ok (.iload_n 3, 1) := by decide +kernel
theorem dX8_isAllSeen_85 : decode cX8_isAllSeen 85 = .ok (.iload 6, 2) := by decide +kernel
theorem dX8_isAllSeen_87 : decode cX8_isAllSeen 87 = .ok (.iload 7, 2) := by decide +kernel
theorem dX8_isAllSeen_89 : decode cX8_isAllSeen 89 = .ok (.invokevirtual 128, 3) := by decide +kernel
theorem dX8_isAllSeen_92 : decode cX8_isAllSeen 92 = .ok (.ifCond .eq 7, 3) := by decide +kernel
theorem dX8_isAllSeen_95 : decode cX8_isAllSeen 95 = .ok (.iconst 1, 1) := by decide +kernel
theorem dX8_isAllSeen_96 : decode cX8_isAllSeen 96 = .ok (.goto 4, 3) := by decide +kernel
theorem dX8_isAllSeen_99 : decode cX8_isAllSeen 99 = .ok (.iconst 0, 1) := by decide +kernel
theorem dX8_isAllSeen_100 : decode cX8_isAllSeen 100 = .ok (.istore 8, 2) := by decide +kernel
theorem dX8_isAllSeen_102 : decode cX8_isAllSeen 102 = .ok (.iload 8, 2) := by decide +kernel
theorem dX8_isAllSeen_104 : decode cX8_isAllSeen 104 = .ok (.aload_n 0, 1) := by decide +kernel
theorem dX8_isAllSeen_105 : decode cX8_isAllSeen 105 = .ok (.getfield 36, 3) := by decide +kernel
theorem dX8_isAllSeen_108 : decode cX8_isAllSeen 108 = .ok (.iconst 3, 1) := by decide +kernel
theorem dX8_isAllSeen_109 : decode cX8_isAllSeen 109 = .ok (.iload 5, 2) := by decide +kernel
theorem dX8_isAllSeen_111 : decode cX8_isAllSeen 111 = .ok (.imul, 1) := by decide +kernel
theorem dX8_isAllSeen_112 : decode cX8_isAllSeen 112 = .ok (.iconst 2, 1) := by decide +kernel
theorem dX8_isAllSeen_113 : decode cX8_isAllSeen 113 = .ok (.iadd, 1) := by decide +kernel
theorem dX8_isAllSeen_114 : decode cX8_isAllSeen 114 = .ok (.invokevirtual 101, 3) := by decide +kernel
theorem dX8_isAllSeen_117 : decode cX8_isAllSeen 117 = .ok (.ifCond .eq 7, 3) := by decide +kernel
theorem dX8_isAllSeen_120 : decode cX8_isAllSeen 120 = .ok (.iconst 1, 1) := by decide +kernel
theorem dX8_isAllSeen_121 : decode cX8_isAllSeen 121 = .ok (.goto 4, 3) := by decide +kernel
theorem dX8_isAllSeen_124 : decode cX8_isAllSeen 124 = .ok (.iconst 0, 1) := by decide +kernel
theorem dX8_isAllSeen_125 : decode cX8_isAllSeen 125 = .ok (.if_icmp .eq 5, 3) := by decide +kernel
theorem dX8_isAllSeen_128 : decode cX8_isAllSeen 128 = .ok (.iconst 0, 1) := by decide +kernel
theorem dX8_isAllSeen_129 : decode cX8_isAllSeen 129 = .ok (.ireturn, 1) := by decide +kernel
theorem dX8_isAllSeen_130 : decode cX8_isAllSeen 130 = .ok (.iinc 5 1, 3) := by decide +kernel
theorem dX8_isAllSeen_133 : decode cX8_isAllSeen 133 = .ok (.goto (-116), 3) := by decide +kernel
theorem dX8_isAllSeen_136 : decode cX8_isAllSeen 136 = .ok (.iconst 1, 1) := by decide +kernel
theorem dX8_isAllSeen_137 : decode cX8_isAllSeen 137 = .ok (.ireturn, 1) := by decide +kernel
theorem dX8_planned_0 : decode cX8_planned 0 = .ok (.aload_n 0, 1) := by decide +kernel
theorem dX8_planned_1 : decode cX8_planned 1 = .ok (.getfield 45, 3) := by decide +kernel
theorem dX8_planned_4 : decode cX8_planned 4 = .ok (.aload_n 0, 1) := by decide +kernel
theorem dX8_planned_5 : decode cX8_planned 5 = .ok (.getfield 30, 3) := by decide +kernel
theorem dX8_planned_8 : decode cX8_planned 8 = .ok (.invokevirtual 55, 3) := by decide +kernel
theorem dX8_planned_11 : decode cX8_planned 11 = .ok (.iconst 0, 1) := by decide +kernel
theorem dX8_planned_12 : decode cX8_planned 12 = .ok (.istore_n 1, 1) := by decide +kernel
theorem dX8_planned_13 : decode cX8_planned 13 = .ok (.iload_n 1, 1) := by decide +kernel
theorem dX8_planned_14 : decode cX8_planned 14 = .ok (.aload_n 0, 1) := by decide +kernel
theorem dX8_planned_15 : decode cX8_planned 15 = .ok (.getfield 39, 3) := by decide +kernel
theorem dX8_planned_18 : decode cX8_planned 18 = .ok (.invokevirtual 161, 3) := by decide +kernel
theorem dX8_planned_21 : decode cX8_planned 21 = .ok (.iconst 2, 1) := by decide +kernel
theorem dX8_planned_22 : decode cX8_planned 22 = .ok (.idiv, 1) := by decide +kernel
theorem dX8_planned_23 : decode cX8_planned 23 = .ok (.if_icmp .ge 63, 3) := by decide +kernel
theorem dX8_planned_26 : decode cX8_planned 26 = .ok (.aload_n 0, 1) := by decide +kernel
theorem dX8_planned_27 : decode cX8_planned 27 = .ok (.getfield 39, 3) := by decide +kernel
theorem dX8_planned_30 : decode cX8_planned 30 = .ok (.iconst 2, 1) := by decide +kernel
theorem dX8_planned_31 : decode cX8_planned 31 = .ok (.iload_n 1, 1) := by decide +kernel
theorem dX8_planned_32 : decode cX8_planned 32 = .ok (.imul, 1) := by decide +kernel
theorem dX8_planned_33 : decode cX8_planned 33 = .ok (.invokevirtual 101, 3) := by decide +kernel
theorem dX8_planned_36 : decode cX8_planned 36 = .ok (.istore_n 2, 1) := by decide +kernel
theorem dX8_planned_37 : decode cX8_planned 37 = .ok (.aload_n 0, 1) := by decide +kernel
theorem dX8_planned_38 : decode cX8_planned 38 = .ok (.getfield 39, 3) := by decide +kernel
theorem dX8_planned_41 : decode cX8_planned 41 = .ok (.iconst 2, 1) := by decide +kernel
theorem dX8_planned_42 : decode cX8_planned 42 = .ok (.iload_n 1, 1) := by decide +kernel
theorem dX8_planned_43 : decode cX8_planned 43 = .ok (.imul, 1) := by decide +kernel
theorem dX8_planned_44 : decode cX8_planned 44 = .ok (.iconst 1, 1) := by decide +kernel
theorem dX8_planned_45 : decode cX8_planned 45 = .ok (.iadd, 1) := by decide +kernel
theorem dX8_planned_46 : decode cX8_planned 46 = .ok (.invokevirtual 101, 3) := by decide +kernel
theorem dX8_planned_49 : decode cX8_planned 49 = .ok (.istore_n 3, 1) := by decide +kernel
theorem dX8_planned_50 : decode cX8_planned 50 = .ok (.iload_n 3, 1) := by decide +kernel
theorem dX8_planned_51 : decode cX8_planned 51 = .ok (.iconst 4, 1) := by decide +kernel
theorem dX8_planned_52 : decode cX8_planned 52 = .ok (.if_icmp .eq 19, 3) := by decide +kernel
theorem dX8_planned_55 : decode cX8_planned 55 = .ok (.aload_n 0, 1) := by decide +kernel
theorem dX8_planned_56 : decode cX8_planned 56 = .ok (.iload_n 2, 1) := by decide +kernel
theorem dX8_planned_57 : decode cX8_planned 57 = .ok (.aload_n 0, 1) := by decide +kernel
theorem dX8_planned_58 : decode cX8_planned 58 = .ok (.getfield 45, 3) := by decide +kernel
theorem dX8_planned_61 : decode cX8_planned 61 = .ok (.invokevirtual 196, 3) := by decide +kernel
theorem dX8_planned_64 : decode cX8_planned 64 = .ok (.iload_n 3, 1) := by decide +kernel
theorem dX8_planned_65 : decode cX8_planned 65 = .ok (.invokestatic 136, 3) := by decide +kernel
theorem dX8_planned_68 : decode cX8_planned 68 = .ok (.ifCond .eq 12, 3) := by decide +kernel
theorem dX8_planned_71 : decode cX8_planned 71 = .ok (.aload_n 0, 1) := by decide +kernel
theorem dX8_planned_72 : decode cX8_planned 72 = .ok (.getfield 45, 3) := by decide +kernel
theorem dX8_planned_75 : decode cX8_planned 75 = .ok (.iload_n 2, 1) := by decide +kernel
theorem dX8_planned_76 : decode cX8_planned 76 = .ok (.iload_n 3, 1) := by decide +kernel
theorem dX8_planned_77 : decode cX8_planned 77 = .ok (.invokevirtual 200, 3) := by decide +kernel
theorem dX8_planned_80 : decode cX8_planned 80 = .ok (.iinc 1 1, 3) := by decide +kernel
theorem dX8_planned_83 : decode cX8_planned 83 = .ok (.goto (-70), 3) := by decide +kernel
theorem dX8_planned_86 : decode cX8_planned 86 = .ok (.aload_n 0, 1) := by decide +kernel
theorem dX8_planned_87 : decode cX8_planned 87 = .ok (.getfield 45, 3) := by decide +kernel
theorem dX8_planned_90 : decode cX8_planned 90 = .ok (.areturn, 1) := by decide +kernel
theorem dX9_init_0 : decode cX9_init 0 = .ok (.aload_n 0, 1) := by decide +kernel
theorem dX9_init_1 : decode cX9_init 1 = .ok (.aload_n 1, 1) := by decide +kernel
theorem dX9_init_2 : decode cX9_init 2 = .ok (.iload_n 2, 1) := by decide +kernel
theorem dX9_init_3 : decode cX9_init 3 = .ok (.iload_n 3, 1) := by decide +kernel
theorem dX9_init_4 : decode cX9_init 4 = .ok (.iload 4, 2) := by decide +kernel
theorem dX9_init_6 : decode cX9_init 6 = .ok (.iload 5, 2) := by decide +kernel
theorem dX9_init_8 : decode cX9_init 8 = .ok (.iload 6, 2) := by decide +kernel
theorem dX9_init_10 : decode cX9_init 10 = .ok (.invokespecial 3, 3) := by decide +kernel
theorem dX9_init_13 : decode cX9_init 13 = .ok (.return_, 1) := by decide +kernel
theorem dX9_kind_0 : decode cX9_kind 0 = .ok (.iconst 3, 1) := by decide +kernel
theorem dX9_kind_1 : decode cX9_kind 1 = .ok (.ireturn, 1) := by decide +kernel
theorem dX9_length_0 : decode cX9_length 0 = .ok (.aload_n 0, 1) := by decide +kernel
theorem dX9_length_1 : decode cX9_length 1 = .ok (.getfield 9, 3) := by decide +kernel
theorem dX9_length_4 : decode cX9_length 4 = .ok (.iload_n 1, 1) := by decide +kernel
theorem dX9_length_5 : decode cX9_length 5 = .ok (.iconst 3, 1) := by decide +kernel
theorem dX9_length_6 : decode cX9_length 6 = .ok (.idiv, 1) := by decide +kernel
theorem dX9_length_7 : decode cX9_length 7 = .ok (.isub, 1) := by decide +kernel
theorem dX9_length_8 : decode cX9_length 8 = .ok (.istore_n 2, 1) := by decide +kernel
theorem dX9_length_9 : decode cX9_length 9 = .ok (.iload_n 2, 1) := by decide +kernel
theorem dX9_length_10 : decode cX9_length 10 = .ok (.iconst 1, 1) := by decide +kernel
theorem dX9_length_11 : decode cX9_length 11 = .ok (.if_icmp .ge 7, 3) := by decide +kernel
theorem dX9_length_14 : decode cX9_length 14 = .ok (.iconst 1, 1) := by decide +kernel
theorem dX9_length_15 : decode cX9_length 15 = .ok (.goto 4, 3) := by decide +kernel
theorem dX9_length_18 : decode cX9_length 18 = .ok (.iload_n 2, 1) := by decide +kernel
theorem dX9_length_19 : decode cX9_length 19 = .ok (.ireturn, 1) := by decide +kernel
theorem dX9_mayBe_0 : decode cX9_mayBe 0 = .ok (.bipush 12, 2) := by decide +kernel
theorem dX9_mayBe_2 : decode cX9_mayBe 2 = .ok (.ireturn, 1) := by decide +kernel
theorem dX9_tells_0 : decode cX9_tells 0 = .ok (.aload_n 0, 1) := by decide +kernel
theorem dX9_tells_1 : decode cX9_tells 1 = .ok (.getfield 15, 3) := by decide +kernel
theorem dX9_tells_4 : decode cX9_tells 4 = .ok (.bipush 31, 2) := by decide +kernel
theorem dX9_tells_6 : decode cX9_tells 6 = .ok (.invokevirtual 19, 3) := by decide +kernel
theorem dX9_tells_9 : decode cX9_tells 9 = .ok (.aload_n 0, 1) := by decide +kernel
theorem dX9_tells_10 : decode cX9_tells 10 = .ok (.iload_n 1, 1) := by decide +kernel
theorem dX9_tells_11 : decode cX9_tells 11 = .ok (.invokespecial 25, 3) := by decide +kernel
theorem dX9_tells_14 : decode cX9_tells 14 = .ok (.bipush 7, 2) := by decide +kernel
theorem dX9_tells_16 : decode cX9_tells 16 = .ok (.ixor, 1) := by decide +kernel
theorem dX9_tells_17 : decode cX9_tells 17 = .ok (.ireturn, 1) := by decide +kernel
theorem dX10_init_0 : decode cX10_init 0 = .ok (.aload_n 0, 1) := by decide +kernel
theorem dX10_init_1 : decode cX10_init 1 = .ok (.aload_n 1, 1) := by decide +kernel
theorem dX10_init_2 : decode cX10_init 2 = .ok (.iload_n 2, 1) := by decide +kernel
theorem dX10_init_3 : decode cX10_init 3 = .ok (.iload_n 3, 1) := by decide +kernel
theorem dX10_init_4 : decode cX10_init 4 = .ok (.iload 4, 2) := by decide +kernel
theorem dX10_init_6 : decode cX10_init 6 = .ok (.iload 5, 2) := by decide +kernel
theorem dX10_init_8 : decode cX10_init 8 = .ok (.iload 6, 2) := by decide +kernel
theorem dX10_init_10 : decode cX10_init 10 = .ok (.invokespecial 1, 3) := by decide +kernel
theorem dX10_init_13 : decode cX10_init 13 = .ok (.return_, 1) := by decide +kernel
theorem dX10_kind_0 : decode cX10_kind 0 = .ok (.bipush 6, 2) := by decide +kernel
theorem dX10_kind_2 : decode cX10_kind 2 = .ok (.ireturn, 1) := by decide +kernel
theorem dX10_mayBe_0 : decode cX10_mayBe 0 = .ok (.iload_n 1, 1) := by decide +kernel
theorem dX10_mayBe_1 : decode cX10_mayBe 1 = .ok (.ireturn, 1) := by decide +kernel
theorem dX10_reads_0 : decode cX10_reads 0 = .ok (.aload_n 0, 1) := by decide +kernel
theorem dX10_reads_1 : decode cX10_reads 1 = .ok (.getfield 7, 3) := by decide +kernel
theorem dX10_reads_4 : decode cX10_reads 4 = .ok (.bipush 61, 2) := by decide +kernel
theorem dX10_reads_6 : decode cX10_reads 6 = .ok (.invokevirtual 13, 3) := by decide +kernel
theorem dX10_reads_9 : decode cX10_reads 9 = .ok (.aload_n 0, 1) := by decide +kernel
theorem dX10_reads_10 : decode cX10_reads 10 = .ok (.iload_n 1, 1) := by decide +kernel
theorem dX10_reads_11 : decode cX10_reads 11 = .ok (.invokespecial 19, 3) := by decide +kernel
theorem dX10_reads_14 : decode cX10_reads 14 = .ok (.aload_n 0, 1) := by decide +kernel
theorem dX10_reads_15 : decode cX10_reads 15 = .ok (.getfield 23, 3) := by decide +kernel
theorem dX10_reads_18 : decode cX10_reads 18 = .ok (.iadd, 1) := by decide +kernel
theorem dX10_reads_19 : decode cX10_reads 19 = .ok (.ireturn, 1) := by decide +kernel
theorem dX11_init_0 : decode cX11_init 0 = .ok (.aload_n 0, 1) := by decide +kernel
theorem dX11_init_1 : decode cX11_init 1 = .ok (.invokespecial 3, 3) := by decide +kernel
theorem dX11_init_4 : decode cX11_init 4 = .ok (.aload_n 0, 1) := by decide +kernel
theorem dX11_init_5 : decode cX11_init 5 = .ok (.new 9, 3) := by decide +kernel
theorem dX11_init_8 : decode cX11_init 8 = .ok (.dup, 1) := by decide +kernel
theorem dX11_init_9 : decode cX11_init 9 = .ok (.bipush 20, 2) := by decide +kernel
theorem dX11_init_11 : decode cX11_init 11 = .ok (.invokespecial 13, 3) := by decide +kernel
theorem dX11_init_14 : decode cX11_init 14 = .ok (.putfield 16, 3) := by decide +kernel
theorem dX11_init_17 : decode cX11_init 17 = .ok (.aload_n 0, 1) := by decide +kernel
theorem dX11_init_18 : decode cX11_init 18 = .ok (.new 20, 3) := by decide +kernel
theorem dX11_init_21 : decode cX11_init 21 = .ok (.dup, 1) := by decide +kernel
theorem dX11_init_22 : decode cX11_init 22 = .ok (.invokespecial 22, 3) := by decide +kernel
theorem dX11_init_25 : decode cX11_init 25 = .ok (.putfield 23, 3) := by decide +kernel
theorem dX11_init_28 : decode cX11_init 28 = .ok (.aload_n 0, 1) := by decide +kernel
theorem dX11_init_29 : decode cX11_init 29 = .ok (.new 20, 3) := by decide +kernel
theorem dX11_init_32 : decode cX11_init 32 = .ok (.dup, 1) := by decide +kernel
theorem dX11_init_33 : decode cX11_init 33 = .ok (.invokespecial 22, 3) := by decide +kernel
theorem dX11_init_36 : decode cX11_init 36 = .ok (.putfield 27, 3) := by decide +kernel
theorem dX11_init_39 : decode cX11_init 39 = .ok (.aload_n 0, 1) := by decide +kernel
theorem dX11_init_40 : decode cX11_init 40 = .ok (.new 30, 3) := by decide +kernel
theorem dX11_init_43 : decode cX11_init 43 = .ok (.dup, 1) := by decide +kernel
theorem dX11_init_44 : decode cX11_init 44 = .ok (.aload_n 0, 1) := by decide +kernel
theorem dX11_init_45 : decode cX11_init 45 = .ok (.getfield 23, 3) := by decide +kernel
theorem dX11_init_48 : decode cX11_init 48 = .ok (.getfield 32, 3) := by decide +kernel
theorem dX11_init_51 : decode cX11_init 51 = .ok (.invokespecial 35, 3) := by decide +kernel
theorem dX11_init_54 : decode cX11_init 54 = .ok (.putfield 38, 3) := by decide +kernel
theorem dX11_init_57 : decode cX11_init 57 = .ok (.aload_n 0, 1) := by decide +kernel
theorem dX11_init_58 : decode cX11_init 58 = .ok (.new 42, 3) := by decide +kernel
theorem dX11_init_61 : decode cX11_init 61 = .ok (.dup, 1) := by decide +kernel
theorem dX11_init_62 : decode cX11_init 62 = .ok (.aload_n 0, 1) := by decide +kernel
theorem dX11_init_63 : decode cX11_init 63 = .ok (.getfield 23, 3) := by decide +kernel
theorem dX11_init_66 : decode cX11_init 66 = .ok (.invokespecial 44, 3) := by decide +kernel
theorem dX11_init_69 : decode cX11_init 69 = .ok (.putfield 47, 3) := by decide +kernel
theorem dX11_init_72 : decode cX11_init 72 = .ok (.return_, 1) := by decide +kernel
theorem dX11_feed_0 : decode cX11_feed 0 = .ok (.iload_n 1, 1) := by decide +kernel
theorem dX11_feed_1 : decode cX11_feed 1 = .ok (.ifCond .lt 9, 3) := by decide +kernel
theorem dX11_feed_4 : decode cX11_feed 4 = .ok (.iload_n 1, 1) := by decide +kernel
theorem dX11_feed_5 : decode cX11_feed 5 = .ok (.bipush 127, 2) := by decide +kernel
theorem dX11_feed_7 : decode cX11_feed 7 = .ok (.if_icmp .le 6, 3) := by decide +kernel
theorem dX11_feed_10 : decode cX11_feed 10 = .ok (.bipush (-2), 2) := by decide +kernel
theorem dX11_feed_12 : decode cX11_feed 12 = .ok (.ireturn, 1) := by decide +kernel
theorem dX11_feed_13 : decode cX11_feed 13 = .ok (.aload_n 0, 1) := by decide +kernel
theorem dX11_feed_14 : decode cX11_feed 14 = .ok (.getfield 23, 3) := by decide +kernel
theorem dX11_feed_17 : decode cX11_feed 17 = .ok (.getfield 32, 3) := by decide +kernel
theorem dX11_feed_20 : decode cX11_feed 20 = .ok (.invokevirtual 51, 3) := by decide +kernel
theorem dX11_feed_23 : decode cX11_feed 23 = .ok (.bipush 100, 2) := by decide +kernel
theorem dX11_feed_25 : decode cX11_feed 25 = .ok (.if_icmp .lt 6, 3) := by decide +kernel
theorem dX11_feed_28 : decode cX11_feed 28 = .ok (.bipush (-4), 2) := by decide +kernel
theorem dX11_feed_30 : decode cX11_feed 30 = .ok (.ireturn, 1) := by decide +kernel
theorem dX11_feed_31 : decode cX11_feed 31 = .ok (.aload_n 0, 1) := by decide +kernel
theorem dX11_feed_32 : decode cX11_feed 32 = .ok (.getfield 23, 3) := by decide +kernel
theorem dX11_feed_35 : decode cX11_feed 35 = .ok (.getfield 32, 3) := by decide +kernel
theorem dX11_feed_38 : decode cX11_feed 38 = .ok (.iload_n 1, 1) := by decide +kernel
theorem dX11_feed_39 : decode cX11_feed 39 = .ok (.invokevirtual 55, 3) := by decide +kernel
theorem dX11_feed_42 : decode cX11_feed 42 = .ok (.aload_n 0, 1) := by decide +kernel
theorem dX11_feed_43 : decode cX11_feed 43 = .ok (.getfield 23, 3) := by decide +kernel
theorem dX11_feed_46 : decode cX11_feed 46 = .ok (.getfield 32, 3) := by decide +kernel
theorem dX11_feed_49 : decode cX11_feed 49 = .ok (.invokevirtual 51, 3) := by decide +kernel
theorem dX11_feed_52 : decode cX11_feed 52 = .ok (.ireturn, 1) := by decide +kernel
theorem dX11_map_0 : decode cX11_map 0 = .ok (.aload_n 0, 1) := by decide +kernel
theorem dX11_map_1 : decode cX11_map 1 = .ok (.getfield 23, 3) := by decide +kernel
theorem dX11_map_4 : decode cX11_map 4 = .ok (.getfield 58, 3) := by decide +kernel
theorem dX11_map_7 : decode cX11_map 7 = .ok (.iconst 5, 1) := by decide +kernel
theorem dX11_map_8 : decode cX11_map 8 = .ok (.if_icmp .lt 6, 3) := by decide +kernel
theorem dX11_map_11 : decode cX11_map 11 = .ok (.bipush (-4), 2) := by decide +kernel
theorem dX11_map_13 : decode cX11_map 13 = .ok (.ireturn, 1) := by decide +kernel
theorem dX11_map_14 : decode cX11_map 14 = .ok (.aload_n 0, 1) := by decide +kernel
theorem dX11_map_15 : decode cX11_map 15 = .ok (.getfield 38, 3) := by decide +kernel
theorem dX11_map_18 : decode cX11_map 18 = .ok (.invokevirtual 62, 3) := by decide +kernel
theorem dX11_map_21 : decode cX11_map 21 = .ok (.istore_n 1, 1) := by decide +kernel
theorem dX11_map_22 : decode cX11_map 22 = .ok (.aload_n 0, 1) := by decide +kernel
theorem dX11_map_23 : decode cX11_map 23 = .ok (.getfield 23, 3) := by decide +kernel
theorem dX11_map_26 : decode cX11_map 26 = .ok (.getfield 32, 3) := by decide +kernel
theorem dX11_map_29 : decode cX11_map 29 = .ok (.invokevirtual 66, 3) := by decide +kernel
theorem dX11_map_32 : decode cX11_map 32 = .ok (.iload_n 1, 1) := by decide +kernel
theorem dX11_map_33 : decode cX11_map 33 = .ok (.ifCond .ne 14, 3) := by decide +kernel
theorem dX11_map_36 : decode cX11_map 36 = .ok (.bipush (-10), 2) := by decide +kernel
theorem dX11_map_38 : decode cX11_map 38 = .ok (.aload_n 0, 1) := by decide +kernel
theorem dX11_map_39 : decode cX11_map 39 = .ok (.getfield 38, 3) := by decide +kernel
theorem dX11_map_42 : decode cX11_map 42 = .ok (.getfield 69, 3) := by decide +kernel
theorem dX11_map_45 : decode cX11_map 45 = .ok (.isub, 1) := by decide +kernel
theorem dX11_map_46 : decode cX11_map 46 = .ok (.ireturn, 1) := by decide +kernel
theorem dX11_map_47 : decode cX11_map 47 = .ok (.aload_n 0, 1) := by decide +kernel
theorem dX11_map_48 : decode cX11_map 48 = .ok (.getfield 23, 3) := by decide +kernel
theorem dX11_map_51 : decode cX11_map 51 = .ok (.aload_n 0, 1) := by decide +kernel
theorem dX11_map_52 : decode cX11_map 52 = .ok (.getfield 38, 3) := by decide +kernel
theorem dX11_map_55 : decode cX11_map 55 = .ok (.invokevirtual 72, 3) := by decide +kernel
theorem dX11_map_58 : decode cX11_map 58 = .ok (.aload_n 0, 1) := by decide +kernel
theorem dX11_map_59 : decode cX11_map 59 = .ok (.getfield 23, 3) := by decide +kernel
theorem dX11_map_62 : decode cX11_map 62 = .ok (.getfield 58, 3) := by decide +kernel
theorem dX11_map_65 : decode cX11_map 65 = .ok (.iconst 1, 1) := by decide +kernel
theorem dX11_map_66 : decode cX11_map 66 = .ok (.isub, 1) := by decide +kernel
theorem dX11_map_67 : decode cX11_map 67 = .ok (.ireturn, 1) := by decide +kernel
theorem dX11_dot_0 : decode cX11_dot 0 = .ok (.iload_n 1, 1) := by decide +kernel
theorem dX11_dot_1 : decode cX11_dot 1 = .ok (.ifCond .lt 9, 3) := by decide +kernel
theorem dX11_dot_4 : decode cX11_dot 4 = .ok (.iload_n 1, 1) := by decide +kernel
theorem dX11_dot_5 : decode cX11_dot 5 = .ok (.bipush 7, 2) := by decide +kernel
theorem dX11_dot_7 : decode cX11_dot 7 = .ok (.if_icmp .lt 5, 3) := by decide +kernel
theorem dX11_dot_10 : decode cX11_dot 10 = .ok (.iconst (-1), 1) := by decide +kernel
theorem dX11_dot_11 : decode cX11_dot 11 = .ok (.ireturn, 1) := by decide +kernel
theorem dX11_dot_12 : decode cX11_dot 12 = .ok (.iload_n 2, 1) := by decide +kernel
theorem dX11_dot_13 : decode cX11_dot 13 = .ok (.ifCond .lt 44, 3) := by decide +kernel
theorem dX11_dot_16 : decode cX11_dot 16 = .ok (.iload_n 2, 1) := by decide +kernel
theorem dX11_dot_17 : decode cX11_dot 17 = .ok (.bipush 9, 2) := by decide +kernel
theorem dX11_dot_19 : decode cX11_dot 19 = .ok (.if_icmp .gt 38, 3) := by decide +kernel
theorem dX11_dot_22 : decode cX11_dot 22 = .ok (.iload_n 3, 1) := by decide +kernel
theorem dX11_dot_23 : decode cX11_dot 23 = .ok (.iconst 1, 1) := by decide +kernel
theorem dX11_dot_24 : decode cX11_dot 24 = .ok (.if_icmp .lt 33, 3) := by decide +kernel
theorem dX11_dot_27 : decode cX11_dot 27 = .ok (.iload_n 3, 1) := by decide +kernel
theorem dX11_dot_28 : decode cX11_dot 28 = .ok (.bipush 9, 2) := by decide +kernel
theorem dX11_dot_30 : decode cX11_dot 30 = .ok (.if_icmp .gt 27, 3) := by decide +kernel
theorem dX11_dot_33 : decode cX11_dot 33 = .ok (.iload 4, 2) := by decide +kernel
theorem dX11_dot_35 : decode cX11_dot 35 = .ok (.iload 5, 2) := by decide +kernel
theorem dX11_dot_37 : decode cX11_dot 37 = .ok (.invokestatic 76, 3) := by decide +kernel
theorem dX11_dot_40 : decode cX11_dot 40 = .ok (.ifCond .eq 17, 3) := by decide +kernel
theorem dX11_dot_43 : decode cX11_dot 43 = .ok (.aload_n 0, 1) := by decide +kernel
theorem dX11_dot_44 : decode cX11_dot 44 = .ok (.getfield 23, 3) := by decide +kernel
theorem dX11_dot_47 : decode cX11_dot 47 = .ok (.iload 4, 2) := by decide +kernel
theorem dX11_dot_49 : decode cX11_dot 49 = .ok (.iload 5, 2) := by decide +kernel
theorem dX11_dot_51 : decode cX11_dot 51 = .ok (.invokevirtual 80, 3) := by decide +kernel
theorem dX11_dot_54 : decode cX11_dot 54 = .ok (.ifCond .eq 6, 3) := by decide +kernel
theorem dX11_dot_57 : decode cX11_dot 57 = .ok (.bipush (-2), 2) := by decide +kernel
theorem dX11_dot_59 : decode cX11_dot 59 = .ok (.ireturn, 1) := by decide +kernel
theorem dX11_dot_60 : decode cX11_dot 60 = .ok (.aload_n 0, 1) := by decide +kernel
theorem dX11_dot_61 : decode cX11_dot 61 = .ok (.getfield 23, 3) := by decide +kernel
theorem dX11_dot_64 : decode cX11_dot 64 = .ok (.invokevirtual 83, 3) := by decide +kernel
theorem dX11_dot_67 : decode cX11_dot 67 = .ok (.bipush 7, 2) := by decide +kernel
theorem dX11_dot_69 : decode cX11_dot 69 = .ok (.if_icmp .lt 6, 3) := by decide +kernel
theorem dX11_dot_72 : decode cX11_dot 72 = .ok (.bipush (-4), 2) := by decide +kernel
theorem dX11_dot_74 : decode cX11_dot 74 = .ok (.ireturn, 1) := by decide +kernel
theorem dX11_dot_75 : decode cX11_dot 75 = .ok (.aload_n 0, 1) := by decide +kernel
theorem dX11_dot_76 : decode cX11_dot 76 = .ok (.getfield 23, 3) := by decide +kernel
theorem dX11_dot_79 : decode cX11_dot 79 = .ok (.getfield 86, 3) := by decide +kernel
theorem dX11_dot_82 : decode cX11_dot 82 = .ok (.aload_n 0, 1) := by decide +kernel
theorem dX11_dot_83 : decode cX11_dot 83 = .ok (.iload_n 1, 1) := by decide +kernel
theorem dX11_dot_84 : decode cX11_dot 84 = .ok (.iload_n 2, 1) := by decide +kernel
theorem dX11_dot_85 : decode cX11_dot 85 = .ok (.iload_n 3, 1) := by decide +kernel
theorem dX11_dot_86 : decode cX11_dot 86 = .ok (.iload 4, 2) := by decide +kernel
theorem dX11_dot_88 : decode cX11_dot 88 = .ok (.iload 5, 2) := by decide +kernel
theorem dX11_dot_90 : decode cX11_dot 90 = .ok (.invokevirtual 90, 3) := by decide +kernel
theorem dX11_dot_93 : decode cX11_dot 93 = .ok (.invokevirtual 94, 3) := by decide +kernel
theorem dX11_dot_96 : decode cX11_dot 96 = .ok (.pop, 1) := by decide +kernel
theorem dX11_dot_97 : decode cX11_dot 97 = .ok (.aload_n 0, 1) := by decide +kernel
theorem dX11_dot_98 : decode cX11_dot 98 = .ok (.getfield 23, 3) := by decide +kernel
theorem dX11_dot_101 : decode cX11_dot 101 = .ok (.getfield 99, 3) := by decide +kernel
theorem dX11_dot_104 : decode cX11_dot 104 = .ok (.aload_n 0, 1) := by decide +kernel
theorem dX11_dot_105 : decode cX11_dot 105 = .ok (.getfield 23, 3) := by decide +kernel
theorem dX11_dot_108 : decode cX11_dot 108 = .ok (.invokevirtual 83, 3) := by decide +kernel
theorem dX11_dot_111 : decode cX11_dot 111 = .ok (.iconst 1, 1) := by decide +kernel
theorem dX11_dot_112 : decode cX11_dot 112 = .ok (.isub, 1) := by decide +kernel
theorem dX11_dot_113 : decode cX11_dot 113 = .ok (.iconst 4, 1) := by decide +kernel
theorem dX11_dot_114 : decode cX11_dot 114 = .ok (.invokevirtual 102, 3) := by decide +kernel
theorem dX11_dot_117 : decode cX11_dot 117 = .ok (.aload_n 0, 1) := by decide +kernel
theorem dX11_dot_118 : decode cX11_dot 118 = .ok (.getfield 23, 3) := by decide +kernel
theorem dX11_dot_121 : decode cX11_dot 121 = .ok (.invokevirtual 83, 3) := by decide +kernel
theorem dX11_dot_124 : decode cX11_dot 124 = .ok (.iconst 1, 1) := by decide +kernel
theorem dX11_dot_125 : decode cX11_dot 125 = .ok (.isub, 1) := by decide +kernel
theorem dX11_dot_126 : decode cX11_dot 126 = .ok (.ireturn, 1) := by decide +kernel
theorem dX11_of_0 : decode cX11_of 0 = .ok (.aload_n 0, 1) := by decide +kernel
theorem dX11_of_1 : decode cX11_of 1 = .ok (.getfield 23, 3) := by decide +kernel
theorem dX11_of_4 : decode cX11_of 4 = .ok (.iload_n 1, 1) := by decide +kernel
theorem dX11_of_5 : decode cX11_of 5 = .ok (.invokevirtual 106, 3) := by decide +kernel
theorem dX11_of_8 : decode cX11_of 8 = .ok (.astore_n 3, 1) := by decide +kernel
theorem dX11_of_9 : decode cX11_of 9 = .ok (.aload_n 3, 1) := by decide +kernel
theorem dX11_of_10 : decode cX11_of 10 = .ok (.ifnonnull 5, 3) := by decide +kernel
theorem dX11_of_13 : decode cX11_of 13 = .ok (.iconst (-1), 1) := by decide +kernel
theorem dX11_of_14 : decode cX11_of 14 = .ok (.ireturn, 1) := by decide +kernel
theorem dX11_of_15 : decode cX11_of 15 = .ok (.iload_n 2, 1) := by decide +kernel
theorem dX11_of_16 : decode cX11_of 16 = .ok (.tableswitch 146 0 9 #[56, 61, 66, 71, 76, 81, 90, 105, 114, 130], 56) := by decide +kernel
theorem dX11_of_72 : decode cX11_of 72 = .ok (.aload_n 3, 1) := by decide +kernel
theorem dX11_of_73 : decode cX11_of 73 = .ok (.invokevirtual 110, 3) := by decide +kernel
theorem dX11_of_76 : decode cX11_of 76 = .ok (.ireturn, 1) := by decide +kernel
theorem dX11_of_77 : decode cX11_of 77 = .ok (.aload_n 3, 1) := by decide +kernel
theorem dX11_of_78 : decode cX11_of 78 = .ok (.getfield 115, 3) := by decide +kernel
theorem dX11_of_81 : decode cX11_of 81 = .ok (.ireturn, 1) := by decide +kernel
theorem dX11_of_82 : decode cX11_of 82 = .ok (.aload_n 3, 1) := by decide +kernel
theorem dX11_of_83 : decode cX11_of 83 = .ok (.getfield 118, 3) := by decide +kernel
theorem dX11_of_86 : decode cX11_of 86 = .ok (.ireturn, 1) := by decide +kernel
theorem dX11_of_87 : decode cX11_of 87 = .ok (.aload_n 3, 1) := by decide +kernel
theorem dX11_of_88 : decode cX11_of 88 = .ok (.getfield 121, 3) := by decide +kernel
theorem dX11_of_91 : decode cX11_of 91 = .ok (.ireturn, 1) := by decide +kernel
theorem dX11_of_92 : decode cX11_of 92 = .ok (.aload_n 3, 1) := by decide +kernel
theorem dX11_of_93 : decode cX11_of 93 = .ok (.getfield 124, 3) := by decide +kernel
theorem dX11_of_96 : decode cX11_of 96 = .ok (.ireturn, 1) := by decide +kernel
theorem dX11_of_97 : decode cX11_of 97 = .ok (.aload_n 3, 1) := by decide +kernel
theorem dX11_of_98 : decode cX11_of 98 = .ok (.aload_n 3, 1) := by decide +kernel
theorem dX11_of_99 : decode cX11_of 99 = .ok (.getfield 115, 3) := by decide +kernel
theorem dX11_of_102 : decode cX11_of 102 = .ok (.invokevirtual 127, 3) := by decide +kernel
theorem dX11_of_105 : decode cX11_of 105 = .ok (.ireturn, 1) := by decide +kernel
theorem dX11_of_106 : decode cX11_of 106 = .ok (.aload_n 0, 1) := by decide +kernel
theorem dX11_of_107 : decode cX11_of 107 = .ok (.getfield 23, 3) := by decide +kernel
theorem dX11_of_110 : decode cX11_of 110 = .ok (.getfield 99, 3) := by decide +kernel
theorem dX11_of_113 : decode cX11_of 113 = .ok (.iload_n 1, 1) := by decide +kernel
theorem dX11_of_114 : decode cX11_of 114 = .ok (.invokevirtual 131, 3) := by decide +kernel
theorem dX11_of_117 : decode cX11_of 117 = .ok (.invokestatic 134, 3) := by decide +kernel
theorem dX11_of_120 : decode cX11_of 120 = .ok (.ireturn, 1) := by decide +kernel
theorem dX11_of_121 : decode cX11_of 121 = .ok (.aload_n 0, 1) := by decide +kernel
theorem dX11_of_122 : decode cX11_of 122 = .ok (.getfield 23, 3) := by decide +kernel
theorem dX11_of_125 : decode cX11_of 125 = .ok (.iload_n 1, 1) := by decide +kernel
theorem dX11_of_126 : decode cX11_of 126 = .ok (.invokevirtual 137, 3) := by decide +kernel
theorem dX11_of_129 : decode cX11_of 129 = .ok (.ireturn, 1) := by decide +kernel
theorem dX11_of_130 : decode cX11_of 130 = .ok (.aload_n 0, 1) := by decide +kernel
theorem dX11_of_131 : decode cX11_of 131 = .ok (.getfield 23, 3) := by decide +kernel
theorem dX11_of_134 : decode cX11_of 134 = .ok (.iload_n 1, 1) := by decide +kernel
theorem dX11_of_135 : decode cX11_of 135 = .ok (.aload_n 0, 1) := by decide +kernel
theorem dX11_of_136 : decode cX11_of 136 = .ok (.getfield 23, 3) := by decide +kernel
theorem dX11_of_139 : decode cX11_of 139 = .ok (.getfield 140, 3) := by decide +kernel
theorem dX11_of_142 : decode cX11_of 142 = .ok (.invokevirtual 143, 3) := by decide +kernel
theorem dX11_of_145 : decode cX11_of 145 = .ok (.ireturn, 1) := by decide +kernel
theorem dX11_of_146 : decode cX11_of 146 = .ok (.aload_n 0, 1) := by decide +kernel
theorem dX11_of_147 : decode cX11_of 147 = .ok (.getfield 23, 3) := by decide +kernel
theorem dX11_of_150 : decode cX11_of 150 = .ok (.iload_n 1, 1) := by decide +kernel
theorem dX11_of_151 : decode cX11_of 151 = .ok (.aload_n 0, 1) := by decide +kernel
theorem dX11_of_152 : decode cX11_of 152 = .ok (.getfield 23, 3) := by decide +kernel
theorem dX11_of_155 : decode cX11_of 155 = .ok (.getfield 99, 3) := by decide +kernel
theorem dX11_of_158 : decode cX11_of 158 = .ok (.invokevirtual 147, 3) := by decide +kernel
theorem dX11_of_161 : decode cX11_of 161 = .ok (.ireturn, 1) := by decide +kernel
theorem dX11_of_162 : decode cX11_of 162 = .ok (.iconst (-1), 1) := by decide +kernel
theorem dX11_of_163 : decode cX11_of 163 = .ok (.ireturn, 1) := by decide +kernel
theorem dX11_row_0 : decode cX11_row 0 = .ok (.aload_n 0, 1) := by decide +kernel
theorem dX11_row_1 : decode cX11_row 1 = .ok (.getfield 23, 3) := by decide +kernel
theorem dX11_row_4 : decode cX11_row 4 = .ok (.iload_n 1, 1) := by decide +kernel
theorem dX11_row_5 : decode cX11_row 5 = .ok (.invokevirtual 151, 3) := by decide +kernel
theorem dX11_row_8 : decode cX11_row 8 = .ok (.ifCond .eq 10, 3) := by decide +kernel
theorem dX11_row_11 : decode cX11_row 11 = .ok (.iload_n 2, 1) := by decide +kernel
theorem dX11_row_12 : decode cX11_row 12 = .ok (.invokestatic 155, 3) := by decide +kernel
theorem dX11_row_15 : decode cX11_row 15 = .ok (.ifCond .ne 5, 3) := by decide +kernel
theorem dX11_row_18 : decode cX11_row 18 = .ok (.iconst (-1), 1) := by decide +kernel
theorem dX11_row_19 : decode cX11_row 19 = .ok (.ireturn, 1) := by decide +kernel
theorem dX11_row_20 : decode cX11_row 20 = .ok (.iload_n 3, 1) := by decide +kernel
theorem dX11_row_21 : decode cX11_row 21 = .ok (.ifCond .lt 9, 3) := by decide +kernel
theorem dX11_row_24 : decode cX11_row 24 = .ok (.iload_n 3, 1) := by decide +kernel
theorem dX11_row_25 : decode cX11_row 25 = .ok (.bipush 9, 2) := by decide +kernel
theorem dX11_row_27 : decode cX11_row 27 = .ok (.if_icmp .le 6, 3) := by decide +kernel
theorem dX11_row_30 : decode cX11_row 30 = .ok (.bipush (-2), 2) := by decide +kernel
theorem dX11_row_32 : decode cX11_row 32 = .ok (.ireturn, 1) := by decide +kernel
theorem dX11_row_33 : decode cX11_row 33 = .ok (.aload_n 0, 1) := by decide +kernel
theorem dX11_row_34 : decode cX11_row 34 = .ok (.getfield 23, 3) := by decide +kernel
theorem dX11_row_37 : decode cX11_row 37 = .ok (.iload_n 1, 1) := by decide +kernel
theorem dX11_row_38 : decode cX11_row 38 = .ok (.invokevirtual 106, 3) := by decide +kernel
theorem dX11_row_41 : decode cX11_row 41 = .ok (.instanceof 158, 3) := by decide +kernel
theorem dX11_row_44 : decode cX11_row 44 = .ok (.ifCond .ne 6, 3) := by decide +kernel
theorem dX11_row_47 : decode cX11_row 47 = .ok (.bipush (-3), 2) := by decide +kernel
theorem dX11_row_49 : decode cX11_row 49 = .ok (.ireturn, 1) := by decide +kernel
theorem dX11_row_50 : decode cX11_row 50 = .ok (.aload_n 0, 1) := by decide +kernel
theorem dX11_row_51 : decode cX11_row 51 = .ok (.getfield 23, 3) := by decide +kernel
theorem dX11_row_54 : decode cX11_row 54 = .ok (.getfield 160, 3) := by decide +kernel
theorem dX11_row_57 : decode cX11_row 57 = .ok (.iload_n 1, 1) := by decide +kernel
theorem dX11_row_58 : decode cX11_row 58 = .ok (.iconst 4, 1) := by decide +kernel
theorem dX11_row_59 : decode cX11_row 59 = .ok (.imul, 1) := by decide +kernel
theorem dX11_row_60 : decode cX11_row 60 = .ok (.iload_n 2, 1) := by decide +kernel
theorem dX11_row_61 : decode cX11_row 61 = .ok (.iadd, 1) := by decide +kernel
theorem dX11_row_62 : decode cX11_row 62 = .ok (.invokevirtual 131, 3) := by decide +kernel
theorem dX11_row_65 : decode cX11_row 65 = .ok (.istore 4, 2) := by decide +kernel
theorem dX11_row_67 : decode cX11_row 67 = .ok (.aload_n 0, 1) := by decide +kernel
theorem dX11_row_68 : decode cX11_row 68 = .ok (.getfield 23, 3) := by decide +kernel
theorem dX11_row_71 : decode cX11_row 71 = .ok (.getfield 160, 3) := by decide +kernel
theorem dX11_row_74 : decode cX11_row 74 = .ok (.iload_n 1, 1) := by decide +kernel
theorem dX11_row_75 : decode cX11_row 75 = .ok (.iconst 4, 1) := by decide +kernel
theorem dX11_row_76 : decode cX11_row 76 = .ok (.imul, 1) := by decide +kernel
theorem dX11_row_77 : decode cX11_row 77 = .ok (.iload_n 2, 1) := by decide +kernel
theorem dX11_row_78 : decode cX11_row 78 = .ok (.iadd, 1) := by decide +kernel
theorem dX11_row_79 : decode cX11_row 79 = .ok (.iload_n 3, 1) := by decide +kernel
theorem dX11_row_80 : decode cX11_row 80 = .ok (.invokevirtual 102, 3) := by decide +kernel
theorem dX11_row_83 : decode cX11_row 83 = .ok (.iload 4, 2) := by decide +kernel
theorem dX11_row_85 : decode cX11_row 85 = .ok (.ireturn, 1) := by decide +kernel
theorem dX11_good_0 : decode cX11_good 0 = .ok (.aload_n 0, 1) := by decide +kernel
theorem dX11_good_1 : decode cX11_good 1 = .ok (.getfield 23, 3) := by decide +kernel
theorem dX11_good_4 : decode cX11_good 4 = .ok (.iload_n 1, 1) := by decide +kernel
theorem dX11_good_5 : decode cX11_good 5 = .ok (.invokevirtual 151, 3) := by decide +kernel
theorem dX11_good_8 : decode cX11_good 8 = .ok (.ifCond .eq 22, 3) := by decide +kernel
theorem dX11_good_11 : decode cX11_good 11 = .ok (.iload_n 2, 1) := by decide +kernel
theorem dX11_good_12 : decode cX11_good 12 = .ok (.invokestatic 155, 3) := by decide +kernel
theorem dX11_good_15 : decode cX11_good 15 = .ok (.ifCond .eq 15, 3) := by decide +kernel
theorem dX11_good_18 : decode cX11_good 18 = .ok (.aload_n 0, 1) := by decide +kernel
theorem dX11_good_19 : decode cX11_good 19 = .ok (.getfield 23, 3) := by decide +kernel
theorem dX11_good_22 : decode cX11_good 22 = .ok (.iload_n 1, 1) := by decide +kernel
theorem dX11_good_23 : decode cX11_good 23 = .ok (.iload_n 2, 1) := by decide +kernel
theorem dX11_good_24 : decode cX11_good 24 = .ok (.invokevirtual 163, 3) := by decide +kernel
theorem dX11_good_27 : decode cX11_good 27 = .ok (.goto 6, 3) := by decide +kernel
theorem dX11_good_30 : decode cX11_good 30 = .ok (.sipush (-10001), 3) := by decide +kernel
theorem dX11_good_33 : decode cX11_good 33 = .ok (.ireturn, 1) := by decide +kernel
theorem dX11_lay_0 : decode cX11_lay 0 = .ok (.aload_n 0, 1) := by decide +kernel
theorem dX11_lay_1 : decode cX11_lay 1 = .ok (.getfield 23, 3) := by decide +kernel
theorem dX11_lay_4 : decode cX11_lay 4 = .ok (.iload_n 1, 1) := by decide +kernel
theorem dX11_lay_5 : decode cX11_lay 5 = .ok (.invokevirtual 151, 3) := by decide +kernel
theorem dX11_lay_8 : decode cX11_lay 8 = .ok (.ifCond .eq 10, 3) := by decide +kernel
theorem dX11_lay_11 : decode cX11_lay 11 = .ok (.iload_n 2, 1) := by decide +kernel
theorem dX11_lay_12 : decode cX11_lay 12 = .ok (.invokestatic 155, 3) := by decide +kernel
theorem dX11_lay_15 : decode cX11_lay 15 = .ok (.ifCond .ne 5, 3) := by decide +kernel
theorem dX11_lay_18 : decode cX11_lay 18 = .ok (.iconst (-1), 1) := by decide +kernel
theorem dX11_lay_19 : decode cX11_lay 19 = .ok (.ireturn, 1) := by decide +kernel
theorem dX11_lay_20 : decode cX11_lay 20 = .ok (.aload_n 0, 1) := by decide +kernel
theorem dX11_lay_21 : decode cX11_lay 21 = .ok (.getfield 23, 3) := by decide +kernel
theorem dX11_lay_24 : decode cX11_lay 24 = .ok (.iload_n 1, 1) := by decide +kernel
theorem dX11_lay_25 : decode cX11_lay 25 = .ok (.aload_n 0, 1) := by decide +kernel
theorem dX11_lay_26 : decode cX11_lay 26 = .ok (.getfield 23, 3) := by decide +kernel
theorem dX11_lay_29 : decode cX11_lay 29 = .ok (.getfield 99, 3) := by decide +kernel
theorem dX11_lay_32 : decode cX11_lay 32 = .ok (.invokevirtual 147, 3) := by decide +kernel
theorem dX11_lay_35 : decode cX11_lay 35 = .ok (.iload_n 2, 1) := by decide +kernel
theorem dX11_lay_36 : decode cX11_lay 36 = .ok (.invokestatic 166, 3) := by decide +kernel
theorem dX11_lay_39 : decode cX11_lay 39 = .ok (.ifCond .ne 6, 3) := by decide +kernel
theorem dX11_lay_42 : decode cX11_lay 42 = .ok (.bipush (-3), 2) := by decide +kernel
theorem dX11_lay_44 : decode cX11_lay 44 = .ok (.ireturn, 1) := by decide +kernel
theorem dX11_lay_45 : decode cX11_lay 45 = .ok (.aload_n 0, 1) := by decide +kernel
theorem dX11_lay_46 : decode cX11_lay 46 = .ok (.iload_n 1, 1) := by decide +kernel
theorem dX11_lay_47 : decode cX11_lay 47 = .ok (.iload_n 2, 1) := by decide +kernel
theorem dX11_lay_48 : decode cX11_lay 48 = .ok (.invokevirtual 169, 3) := by decide +kernel
theorem dX11_lay_51 : decode cX11_lay 51 = .ok (.ireturn, 1) := by decide +kernel
theorem dX11_lift_0 : decode cX11_lift 0 = .ok (.aload_n 0, 1) := by decide +kernel
theorem dX11_lift_1 : decode cX11_lift 1 = .ok (.getfield 23, 3) := by decide +kernel
theorem dX11_lift_4 : decode cX11_lift 4 = .ok (.iload_n 1, 1) := by decide +kernel
theorem dX11_lift_5 : decode cX11_lift 5 = .ok (.invokevirtual 151, 3) := by decide +kernel
theorem dX11_lift_8 : decode cX11_lift 8 = .ok (.ifCond .eq 12, 3) := by decide +kernel
theorem dX11_lift_11 : decode cX11_lift 11 = .ok (.aload_n 0, 1) := by decide +kernel
theorem dX11_lift_12 : decode cX11_lift 12 = .ok (.iload_n 1, 1) := by decide +kernel
theorem dX11_lift_13 : decode cX11_lift 13 = .ok (.iconst 4, 1) := by decide +kernel
theorem dX11_lift_14 : decode cX11_lift 14 = .ok (.invokevirtual 169, 3) := by decide +kernel
theorem dX11_lift_17 : decode cX11_lift 17 = .ok (.goto 4, 3) := by decide +kernel
theorem dX11_lift_20 : decode cX11_lift 20 = .ok (.iconst (-1), 1) := by decide +kernel
theorem dX11_lift_21 : decode cX11_lift 21 = .ok (.ireturn, 1) := by decide +kernel
theorem dX11_told_0 : decode cX11_told 0 = .ok (.iload_n 1, 1) := by decide +kernel
theorem dX11_told_1 : decode cX11_told 1 = .ok (.tableswitch 111 0 5 #[39, 47, 55, 73, 88, 96], 39) := by decide +kernel
theorem dX11_told_40 : decode cX11_told 40 = .ok (.aload_n 0, 1) := by decide +kernel
theorem dX11_told_41 : decode cX11_told 41 = .ok (.getfield 23, 3) := by decide +kernel
theorem dX11_told_44 : decode cX11_told 44 = .ok (.getfield 140, 3) := by decide +kernel
theorem dX11_told_47 : decode cX11_told 47 = .ok (.ireturn, 1) := by decide +kernel
theorem dX11_told_48 : decode cX11_told 48 = .ok (.aload_n 0, 1) := by decide +kernel
theorem dX11_told_49 : decode cX11_told 49 = .ok (.getfield 23, 3) := by decide +kernel
theorem dX11_told_52 : decode cX11_told 52 = .ok (.getfield 172, 3) := by decide +kernel
theorem dX11_told_55 : decode cX11_told 55 = .ok (.ireturn, 1) := by decide +kernel
theorem dX11_told_56 : decode cX11_told 56 = .ok (.aload_n 0, 1) := by decide +kernel
theorem dX11_told_57 : decode cX11_told 57 = .ok (.getfield 23, 3) := by decide +kernel
theorem dX11_told_60 : decode cX11_told 60 = .ok (.aload_n 0, 1) := by decide +kernel
theorem dX11_told_61 : decode cX11_told 61 = .ok (.getfield 23, 3) := by decide +kernel
theorem dX11_told_64 : decode cX11_told 64 = .ok (.getfield 99, 3) := by decide +kernel
theorem dX11_told_67 : decode cX11_told 67 = .ok (.invokevirtual 175, 3) := by decide +kernel
theorem dX11_told_70 : decode cX11_told 70 = .ok (.invokestatic 179, 3) := by decide +kernel
theorem dX11_told_73 : decode cX11_told 73 = .ok (.ireturn, 1) := by decide +kernel
theorem dX11_told_74 : decode cX11_told 74 = .ok (.aload_n 0, 1) := by decide +kernel
theorem dX11_told_75 : decode cX11_told 75 = .ok (.getfield 23, 3) := by decide +kernel
theorem dX11_told_78 : decode cX11_told 78 = .ok (.aload_n 0, 1) := by decide +kernel
theorem dX11_told_79 : decode cX11_told 79 = .ok (.getfield 23, 3) := by decide +kernel
theorem dX11_told_82 : decode cX11_told 82 = .ok (.getfield 99, 3) := by decide +kernel
theorem dX11_told_85 : decode cX11_told 85 = .ok (.invokevirtual 184, 3) := by decide +kernel
theorem dX11_told_88 : decode cX11_told 88 = .ok (.ireturn, 1) := by decide +kernel
theorem dX11_told_89 : decode cX11_told 89 = .ok (.aload_n 0, 1) := by decide +kernel
theorem dX11_told_90 : decode cX11_told 90 = .ok (.getfield 23, 3) := by decide +kernel
theorem dX11_told_93 : decode cX11_told 93 = .ok (.invokevirtual 187, 3) := by decide +kernel
theorem dX11_told_96 : decode cX11_told 96 = .ok (.ireturn, 1) := by decide +kernel
theorem dX11_told_97 : decode cX11_told 97 = .ok (.aload_n 0, 1) := by decide +kernel
theorem dX11_told_98 : decode cX11_told 98 = .ok (.getfield 23, 3) := by decide +kernel
theorem dX11_told_101 : decode cX11_told 101 = .ok (.aload_n 0, 1) := by decide +kernel
theorem dX11_told_102 : decode cX11_told 102 = .ok (.getfield 23, 3) := by decide +kernel
theorem dX11_told_105 : decode cX11_told 105 = .ok (.getfield 99, 3) := by decide +kernel
theorem dX11_told_108 : decode cX11_told 108 = .ok (.invokevirtual 175, 3) := by decide +kernel
theorem dX11_told_111 : decode cX11_told 111 = .ok (.ireturn, 1) := by decide +kernel
theorem dX11_told_112 : decode cX11_told 112 = .ok (.sipush (-10001), 3) := by decide +kernel
theorem dX11_told_115 : decode cX11_told 115 = .ok (.ireturn, 1) := by decide +kernel
theorem dX11_clash_0 : decode cX11_clash 0 = .ok (.aload_n 0, 1) := by decide +kernel
theorem dX11_clash_1 : decode cX11_clash 1 = .ok (.getfield 23, 3) := by decide +kernel
theorem dX11_clash_4 : decode cX11_clash 4 = .ok (.iload_n 1, 1) := by decide +kernel
theorem dX11_clash_5 : decode cX11_clash 5 = .ok (.invokevirtual 151, 3) := by decide +kernel
theorem dX11_clash_8 : decode cX11_clash 8 = .ok (.ifCond .eq 29, 3) := by decide +kernel
theorem dX11_clash_11 : decode cX11_clash 11 = .ok (.iload_n 2, 1) := by decide +kernel
theorem dX11_clash_12 : decode cX11_clash 12 = .ok (.invokestatic 155, 3) := by decide +kernel
theorem dX11_clash_15 : decode cX11_clash 15 = .ok (.ifCond .eq 22, 3) := by decide +kernel
theorem dX11_clash_18 : decode cX11_clash 18 = .ok (.aload_n 0, 1) := by decide +kernel
theorem dX11_clash_19 : decode cX11_clash 19 = .ok (.getfield 23, 3) := by decide +kernel
theorem dX11_clash_22 : decode cX11_clash 22 = .ok (.iload_n 3, 1) := by decide +kernel
theorem dX11_clash_23 : decode cX11_clash 23 = .ok (.invokevirtual 151, 3) := by decide +kernel
theorem dX11_clash_26 : decode cX11_clash 26 = .ok (.ifCond .eq 11, 3) := by decide +kernel
theorem dX11_clash_29 : decode cX11_clash 29 = .ok (.iload 4, 2) := by decide +kernel
theorem dX11_clash_31 : decode cX11_clash 31 = .ok (.invokestatic 155, 3) := by decide +kernel
theorem dX11_clash_34 : decode cX11_clash 34 = .ok (.ifCond .ne 5, 3) := by decide +kernel
theorem dX11_clash_37 : decode cX11_clash 37 = .ok (.iconst (-1), 1) := by decide +kernel
theorem dX11_clash_38 : decode cX11_clash 38 = .ok (.ireturn, 1) := by decide +kernel
theorem dX11_clash_39 : decode cX11_clash 39 = .ok (.iload_n 1, 1) := by decide +kernel
theorem dX11_clash_40 : decode cX11_clash 40 = .ok (.iload_n 3, 1) := by decide +kernel
theorem dX11_clash_41 : decode cX11_clash 41 = .ok (.if_icmp .ne 8, 3) := by decide +kernel
theorem dX11_clash_44 : decode cX11_clash 44 = .ok (.bipush (-2), 2) := by decide +kernel
theorem dX11_clash_46 : decode cX11_clash 46 = .ok (.goto 15, 3) := by decide +kernel
theorem dX11_clash_49 : decode cX11_clash 49 = .ok (.aload_n 0, 1) := by decide +kernel
theorem dX11_clash_50 : decode cX11_clash 50 = .ok (.getfield 23, 3) := by decide +kernel
theorem dX11_clash_53 : decode cX11_clash 53 = .ok (.iload_n 1, 1) := by decide +kernel
theorem dX11_clash_54 : decode cX11_clash 54 = .ok (.iload_n 2, 1) := by decide +kernel
theorem dX11_clash_55 : decode cX11_clash 55 = .ok (.iload_n 3, 1) := by decide +kernel
theorem dX11_clash_56 : decode cX11_clash 56 = .ok (.iload 4, 2) := by decide +kernel
theorem dX11_clash_58 : decode cX11_clash 58 = .ok (.invokevirtual 190, 3) := by decide +kernel
theorem dX11_clash_61 : decode cX11_clash 61 = .ok (.ireturn, 1) := by decide +kernel
theorem dX11_at_0 : decode cX11_at 0 = .ok (.iload_n 1, 1) := by decide +kernel
theorem dX11_at_1 : decode cX11_at 1 = .ok (.iload_n 2, 1) := by decide +kernel
theorem dX11_at_2 : decode cX11_at 2 = .ok (.invokestatic 76, 3) := by decide +kernel
theorem dX11_at_5 : decode cX11_at 5 = .ok (.ifCond .eq 15, 3) := by decide +kernel
theorem dX11_at_8 : decode cX11_at 8 = .ok (.aload_n 0, 1) := by decide +kernel
theorem dX11_at_9 : decode cX11_at 9 = .ok (.getfield 23, 3) := by decide +kernel
theorem dX11_at_12 : decode cX11_at 12 = .ok (.iload_n 1, 1) := by decide +kernel
theorem dX11_at_13 : decode cX11_at 13 = .ok (.iload_n 2, 1) := by decide +kernel
theorem dX11_at_14 : decode cX11_at 14 = .ok (.invokevirtual 194, 3) := by decide +kernel
theorem dX11_at_17 : decode cX11_at 17 = .ok (.goto 4, 3) := by decide +kernel
theorem dX11_at_20 : decode cX11_at 20 = .ok (.iconst (-1), 1) := by decide +kernel
theorem dX11_at_21 : decode cX11_at 21 = .ok (.ireturn, 1) := by decide +kernel
theorem dX11_most_0 : decode cX11_most 0 = .ok (.iload_n 1, 1) := by decide +kernel
theorem dX11_most_1 : decode cX11_most 1 = .ok (.ifCond .eq 26, 3) := by decide +kernel
theorem dX11_most_4 : decode cX11_most 4 = .ok (.iload_n 1, 1) := by decide +kernel
theorem dX11_most_5 : decode cX11_most 5 = .ok (.iconst 1, 1) := by decide +kernel
theorem dX11_most_6 : decode cX11_most 6 = .ok (.if_icmp .eq 21, 3) := by decide +kernel
theorem dX11_most_9 : decode cX11_most 9 = .ok (.aload_n 0, 1) := by decide +kernel
theorem dX11_most_10 : decode cX11_most 10 = .ok (.getfield 23, 3) := by decide +kernel
theorem dX11_most_13 : decode cX11_most 13 = .ok (.iload_n 1, 1) := by decide +kernel
theorem dX11_most_14 : decode cX11_most 14 = .ok (.bipush 10, 2) := by decide +kernel
theorem dX11_most_16 : decode cX11_most 16 = .ok (.isub, 1) := by decide +kernel
theorem dX11_most_17 : decode cX11_most 17 = .ok (.invokevirtual 151, 3) := by decide +kernel
theorem dX11_most_20 : decode cX11_most 20 = .ok (.ifCond .ne 7, 3) := by decide +kernel
theorem dX11_most_23 : decode cX11_most 23 = .ok (.sipush (-10001), 3) := by decide +kernel
theorem dX11_most_26 : decode cX11_most 26 = .ok (.ireturn, 1) := by decide +kernel
theorem dX11_most_27 : decode cX11_most 27 = .ok (.aload_n 0, 1) := by decide +kernel
theorem dX11_most_28 : decode cX11_most 28 = .ok (.getfield 47, 3) := by decide +kernel
theorem dX11_most_31 : decode cX11_most 31 = .ok (.ldc 197, 2) := by decide +kernel
theorem dX11_most_33 : decode cX11_most 33 = .ok (.invokevirtual 198, 3) := by decide +kernel
theorem dX11_most_36 : decode cX11_most 36 = .ok (.iload_n 1, 1) := by decide +kernel
theorem dX11_most_37 : decode cX11_most 37 = .ok (.lookupswitch 43 #[(0, 27), (1, 35)], 27) := by decide +kernel
theorem dX11_most_64 : decode cX11_most 64 = .ok (.aload_n 0, 1) := by decide +kernel
theorem dX11_most_65 : decode cX11_most 65 = .ok (.getfield 47, 3) := by decide +kernel
theorem dX11_most_68 : decode cX11_most 68 = .ok (.invokevirtual 201, 3) := by decide +kernel
theorem dX11_most_71 : decode cX11_most 71 = .ok (.ireturn, 1) := by decide +kernel
theorem dX11_most_72 : decode cX11_most 72 = .ok (.aload_n 0, 1) := by decide +kernel
theorem dX11_most_73 : decode cX11_most 73 = .ok (.getfield 47, 3) := by decide +kernel
theorem dX11_most_76 : decode cX11_most 76 = .ok (.invokevirtual 204, 3) := by decide +kernel
theorem dX11_most_79 : decode cX11_most 79 = .ok (.ireturn, 1) := by decide +kernel
theorem dX11_most_80 : decode cX11_most 80 = .ok (.aload_n 0, 1) := by decide +kernel
theorem dX11_most_81 : decode cX11_most 81 = .ok (.getfield 47, 3) := by decide +kernel
theorem dX11_most_84 : decode cX11_most 84 = .ok (.iload_n 1, 1) := by decide +kernel
theorem dX11_most_85 : decode cX11_most 85 = .ok (.bipush 10, 2) := by decide +kernel
theorem dX11_most_87 : decode cX11_most 87 = .ok (.isub, 1) := by decide +kernel
theorem dX11_most_88 : decode cX11_most 88 = .ok (.invokevirtual 206, 3) := by decide +kernel
theorem dX11_most_91 : decode cX11_most 91 = .ok (.invokestatic 134, 3) := by decide +kernel
theorem dX11_most_94 : decode cX11_most 94 = .ok (.ireturn, 1) := by decide +kernel
theorem dX11_best_0 : decode cX11_best 0 = .ok (.iload_n 1, 1) := by decide +kernel
theorem dX11_best_1 : decode cX11_best 1 = .ok (.ifCond .eq 21, 3) := by decide +kernel
theorem dX11_best_4 : decode cX11_best 4 = .ok (.aload_n 0, 1) := by decide +kernel
theorem dX11_best_5 : decode cX11_best 5 = .ok (.getfield 23, 3) := by decide +kernel
theorem dX11_best_8 : decode cX11_best 8 = .ok (.iload_n 1, 1) := by decide +kernel
theorem dX11_best_9 : decode cX11_best 9 = .ok (.bipush 10, 2) := by decide +kernel
theorem dX11_best_11 : decode cX11_best 11 = .ok (.isub, 1) := by decide +kernel
theorem dX11_best_12 : decode cX11_best 12 = .ok (.invokevirtual 151, 3) := by decide +kernel
theorem dX11_best_15 : decode cX11_best 15 = .ok (.ifCond .ne 7, 3) := by decide +kernel
theorem dX11_best_18 : decode cX11_best 18 = .ok (.sipush (-10001), 3) := by decide +kernel
theorem dX11_best_21 : decode cX11_best 21 = .ok (.ireturn, 1) := by decide +kernel
theorem dX11_best_22 : decode cX11_best 22 = .ok (.aload_n 0, 1) := by decide +kernel
theorem dX11_best_23 : decode cX11_best 23 = .ok (.getfield 47, 3) := by decide +kernel
theorem dX11_best_26 : decode cX11_best 26 = .ok (.iconst 0, 1) := by decide +kernel
theorem dX11_best_27 : decode cX11_best 27 = .ok (.invokevirtual 198, 3) := by decide +kernel
theorem dX11_best_30 : decode cX11_best 30 = .ok (.iload_n 1, 1) := by decide +kernel
theorem dX11_best_31 : decode cX11_best 31 = .ok (.ifCond .ne 13, 3) := by decide +kernel
theorem dX11_best_34 : decode cX11_best 34 = .ok (.aload_n 0, 1) := by decide +kernel
theorem dX11_best_35 : decode cX11_best 35 = .ok (.getfield 47, 3) := by decide +kernel
theorem dX11_best_38 : decode cX11_best 38 = .ok (.invokevirtual 204, 3) := by decide +kernel
theorem dX11_best_41 : decode cX11_best 41 = .ok (.goto 17, 3) := by decide +kernel
theorem dX11_best_44 : decode cX11_best 44 = .ok (.aload_n 0, 1) := by decide +kernel
theorem dX11_best_45 : decode cX11_best 45 = .ok (.getfield 47, 3) := by decide +kernel
theorem dX11_best_48 : decode cX11_best 48 = .ok (.iload_n 1, 1) := by decide +kernel
theorem dX11_best_49 : decode cX11_best 49 = .ok (.bipush 10, 2) := by decide +kernel
theorem dX11_best_51 : decode cX11_best 51 = .ok (.isub, 1) := by decide +kernel
theorem dX11_best_52 : decode cX11_best 52 = .ok (.invokevirtual 206, 3) := by decide +kernel
theorem dX11_best_55 : decode cX11_best 55 = .ok (.invokestatic 134, 3) := by decide +kernel
theorem dX11_best_58 : decode cX11_best 58 = .ok (.ireturn, 1) := by decide +kernel
theorem dX11_all_0 : decode cX11_all 0 = .ok (.iload_n 1, 1) := by decide +kernel
theorem dX11_all_1 : decode cX11_all 1 = .ok (.iconst 1, 1) := by decide +kernel
theorem dX11_all_2 : decode cX11_all 2 = .ok (.if_icmp .lt 9, 3) := by decide +kernel
theorem dX11_all_5 : decode cX11_all 5 = .ok (.iload_n 1, 1) := by decide +kernel
theorem dX11_all_6 : decode cX11_all 6 = .ok (.bipush 15, 2) := by decide +kernel
theorem dX11_all_8 : decode cX11_all 8 = .ok (.if_icmp .le 6, 3) := by decide +kernel
theorem dX11_all_11 : decode cX11_all 11 = .ok (.bipush (-2), 2) := by decide +kernel
theorem dX11_all_13 : decode cX11_all 13 = .ok (.ireturn, 1) := by decide +kernel
theorem dX11_all_14 : decode cX11_all 14 = .ok (.aload_n 0, 1) := by decide +kernel
theorem dX11_all_15 : decode cX11_all 15 = .ok (.getfield 47, 3) := by decide +kernel
theorem dX11_all_18 : decode cX11_all 18 = .ok (.aload_n 0, 1) := by decide +kernel
theorem dX11_all_19 : decode cX11_all 19 = .ok (.getfield 23, 3) := by decide +kernel
theorem dX11_all_22 : decode cX11_all 22 = .ok (.getfield 140, 3) := by decide +kernel
theorem dX11_all_25 : decode cX11_all 25 = .ok (.iload_n 1, 1) := by decide +kernel
theorem dX11_all_26 : decode cX11_all 26 = .ok (.invokevirtual 209, 3) := by decide +kernel
theorem dX11_all_29 : decode cX11_all 29 = .ok (.ifCond .eq 7, 3) := by decide +kernel
theorem dX11_all_32 : decode cX11_all 32 = .ok (.iconst 1, 1) := by decide +kernel
theorem dX11_all_33 : decode cX11_all 33 = .ok (.goto 4, 3) := by decide +kernel
theorem dX11_all_36 : decode cX11_all 36 = .ok (.iconst 0, 1) := by decide +kernel
theorem dX11_all_37 : decode cX11_all 37 = .ok (.ireturn, 1) := by decide +kernel
theorem dX11_room_0 : decode cX11_room 0 = .ok (.aload_n 0, 1) := by decide +kernel
theorem dX11_room_1 : decode cX11_room 1 = .ok (.getfield 47, 3) := by decide +kernel
theorem dX11_room_4 : decode cX11_room 4 = .ok (.bipush 30, 2) := by decide +kernel
theorem dX11_room_6 : decode cX11_room 6 = .ok (.bipush 15, 2) := by decide +kernel
theorem dX11_room_8 : decode cX11_room 8 = .ok (.invokevirtual 209, 3) := by decide +kernel
theorem dX11_room_11 : decode cX11_room 11 = .ok (.ifCond .ne 6, 3) := by decide +kernel
theorem dX11_room_14 : decode cX11_room 14 = .ok (.bipush (-5), 2) := by decide +kernel
theorem dX11_room_16 : decode cX11_room 16 = .ok (.ireturn, 1) := by decide +kernel
theorem dX11_room_17 : decode cX11_room 17 = .ok (.bipush 10, 2) := by decide +kernel
theorem dX11_room_19 : decode cX11_room 19 = .ok (.istore_n 1, 1) := by decide +kernel
theorem dX11_room_20 : decode cX11_room 20 = .ok (.iload_n 1, 1) := by decide +kernel
theorem dX11_room_21 : decode cX11_room 21 = .ok (.bipush 30, 2) := by decide +kernel
theorem dX11_room_23 : decode cX11_room 23 = .ok (.if_icmp .ge 24, 3) := by decide +kernel
theorem dX11_room_26 : decode cX11_room 26 = .ok (.aload_n 0, 1) := by decide +kernel
theorem dX11_room_27 : decode cX11_room 27 = .ok (.getfield 47, 3) := by decide +kernel
theorem dX11_room_30 : decode cX11_room 30 = .ok (.iload_n 1, 1) := by decide +kernel
theorem dX11_room_31 : decode cX11_room 31 = .ok (.bipush 15, 2) := by decide +kernel
theorem dX11_room_33 : decode cX11_room 33 = .ok (.invokevirtual 209, 3) := by decide +kernel
theorem dX11_room_36 : decode cX11_room 36 = .ok (.ifCond .eq 5, 3) := by decide +kernel
theorem dX11_room_39 : decode cX11_room 39 = .ok (.iload_n 1, 1) := by decide +kernel
theorem dX11_room_40 : decode cX11_room 40 = .ok (.ireturn, 1) := by decide +kernel
theorem dX11_room_41 : decode cX11_room 41 = .ok (.iinc 1 1, 3) := by decide +kernel
theorem dX11_room_44 : decode cX11_room 44 = .ok (.goto (-24), 3) := by decide +kernel
theorem dX11_room_47 : decode cX11_room 47 = .ok (.bipush 30, 2) := by decide +kernel
theorem dX11_room_49 : decode cX11_room 49 = .ok (.ireturn, 1) := by decide +kernel
theorem dX11_moved_0 : decode cX11_moved 0 = .ok (.aload_n 0, 1) := by decide +kernel
theorem dX11_moved_1 : decode cX11_moved 1 = .ok (.getfield 23, 3) := by decide +kernel
theorem dX11_moved_4 : decode cX11_moved 4 = .ok (.iload_n 1, 1) := by decide +kernel
theorem dX11_moved_5 : decode cX11_moved 5 = .ok (.invokevirtual 151, 3) := by decide +kernel
theorem dX11_moved_8 : decode cX11_moved 8 = .ok (.ifCond .ne 5, 3) := by decide +kernel
theorem dX11_moved_11 : decode cX11_moved 11 = .ok (.iconst (-1), 1) := by decide +kernel
theorem dX11_moved_12 : decode cX11_moved 12 = .ok (.ireturn, 1) := by decide +kernel
theorem dX11_moved_13 : decode cX11_moved 13 = .ok (.aload_n 0, 1) := by decide +kernel
theorem dX11_moved_14 : decode cX11_moved 14 = .ok (.getfield 23, 3) := by decide +kernel
theorem dX11_moved_17 : decode cX11_moved 17 = .ok (.getfield 99, 3) := by decide +kernel
theorem dX11_moved_20 : decode cX11_moved 20 = .ok (.iload_n 1, 1) := by decide +kernel
theorem dX11_moved_21 : decode cX11_moved 21 = .ok (.invokevirtual 131, 3) := by decide +kernel
theorem dX11_moved_24 : decode cX11_moved 24 = .ok (.iconst 4, 1) := by decide +kernel
theorem dX11_moved_25 : decode cX11_moved 25 = .ok (.if_icmp .eq 6, 3) := by decide +kernel
theorem dX11_moved_28 : decode cX11_moved 28 = .ok (.bipush (-5), 2) := by decide +kernel
theorem dX11_moved_30 : decode cX11_moved 30 = .ok (.ireturn, 1) := by decide +kernel
theorem dX11_moved_31 : decode cX11_moved 31 = .ok (.aload_n 0, 1) := by decide +kernel
theorem dX11_moved_32 : decode cX11_moved 32 = .ok (.getfield 47, 3) := by decide +kernel
theorem dX11_moved_35 : decode cX11_moved 35 = .ok (.iload_n 1, 1) := by decide +kernel
theorem dX11_moved_36 : decode cX11_moved 36 = .ok (.invokevirtual 212, 3) := by decide +kernel
theorem dX11_moved_39 : decode cX11_moved 39 = .ok (.istore_n 2, 1) := by decide +kernel
theorem dX11_moved_40 : decode cX11_moved 40 = .ok (.iload_n 2, 1) := by decide +kernel
theorem dX11_moved_41 : decode cX11_moved 41 = .ok (.ifCond .ge 8, 3) := by decide +kernel
theorem dX11_moved_44 : decode cX11_moved 44 = .ok (.bipush (-5), 2) := by decide +kernel
theorem dX11_moved_46 : decode cX11_moved 46 = .ok (.goto 4, 3) := by decide +kernel
theorem dX11_moved_49 : decode cX11_moved 49 = .ok (.iload_n 2, 1) := by decide +kernel
theorem dX11_moved_50 : decode cX11_moved 50 = .ok (.ireturn, 1) := by decide +kernel
theorem dX11_inline_0 : decode cX11_inline 0 = .ok (.iload_n 1, 1) := by decide +kernel
theorem dX11_inline_1 : decode cX11_inline 1 = .ok (.ifCond .eq 12, 3) := by decide +kernel
theorem dX11_inline_4 : decode cX11_inline 4 = .ok (.iload_n 1, 1) := by decide +kernel
theorem dX11_inline_5 : decode cX11_inline 5 = .ok (.iconst 1, 1) := by decide +kernel
theorem dX11_inline_6 : decode cX11_inline 6 = .ok (.if_icmp .eq 7, 3) := by decide +kernel
theorem dX11_inline_9 : decode cX11_inline 9 = .ok (.sipush (-10001), 3) := by decide +kernel
theorem dX11_inline_12 : decode cX11_inline 12 = .ok (.ireturn, 1) := by decide +kernel
theorem dX11_inline_13 : decode cX11_inline 13 = .ok (.aload_n 0, 1) := by decide +kernel
theorem dX11_inline_14 : decode cX11_inline 14 = .ok (.getfield 47, 3) := by decide +kernel
theorem dX11_inline_17 : decode cX11_inline 17 = .ok (.invokevirtual 215, 3) := by decide +kernel
theorem dX11_inline_20 : decode cX11_inline 20 = .ok (.iload_n 1, 1) := by decide +kernel
theorem dX11_inline_21 : decode cX11_inline 21 = .ok (.ifCond .ne 13, 3) := by decide +kernel
theorem dX11_inline_24 : decode cX11_inline 24 = .ok (.aload_n 0, 1) := by decide +kernel
theorem dX11_inline_25 : decode cX11_inline 25 = .ok (.getfield 47, 3) := by decide +kernel
theorem dX11_inline_28 : decode cX11_inline 28 = .ok (.invokevirtual 201, 3) := by decide +kernel
theorem dX11_inline_31 : decode cX11_inline 31 = .ok (.goto 10, 3) := by decide +kernel
theorem dX11_inline_34 : decode cX11_inline 34 = .ok (.aload_n 0, 1) := by decide +kernel
theorem dX11_inline_35 : decode cX11_inline 35 = .ok (.getfield 47, 3) := by decide +kernel
theorem dX11_inline_38 : decode cX11_inline 38 = .ok (.invokevirtual 204, 3) := by decide +kernel
theorem dX11_inline_41 : decode cX11_inline 41 = .ok (.ireturn, 1) := by decide +kernel
theorem dX11_order_0 : decode cX11_order 0 = .ok (.iload_n 1, 1) := by decide +kernel
theorem dX11_order_1 : decode cX11_order 1 = .ok (.bipush (-2), 2) := by decide +kernel
theorem dX11_order_3 : decode cX11_order 3 = .ok (.if_icmp .lt 9, 3) := by decide +kernel
theorem dX11_order_6 : decode cX11_order 6 = .ok (.iload_n 1, 1) := by decide +kernel
theorem dX11_order_7 : decode cX11_order 7 = .ok (.bipush 7, 2) := by decide +kernel
theorem dX11_order_9 : decode cX11_order 9 = .ok (.if_icmp .lt 7, 3) := by decide +kernel
theorem dX11_order_12 : decode cX11_order 12 = .ok (.sipush (-10001), 3) := by decide +kernel
theorem dX11_order_15 : decode cX11_order 15 = .ok (.ireturn, 1) := by decide +kernel
theorem dX11_order_16 : decode cX11_order 16 = .ok (.iload_n 1, 1) := by decide +kernel
theorem dX11_order_17 : decode cX11_order 17 = .ok (.aload_n 0, 1) := by decide +kernel
theorem dX11_order_18 : decode cX11_order 18 = .ok (.getfield 23, 3) := by decide +kernel
theorem dX11_order_21 : decode cX11_order 21 = .ok (.invokevirtual 83, 3) := by decide +kernel
theorem dX11_order_24 : decode cX11_order 24 = .ok (.if_icmp .lt 6, 3) := by decide +kernel
theorem dX11_order_27 : decode cX11_order 27 = .ok (.bipush (-5), 2) := by decide +kernel
theorem dX11_order_29 : decode cX11_order 29 = .ok (.ireturn, 1) := by decide +kernel
theorem dX11_order_30 : decode cX11_order 30 = .ok (.aload_n 0, 1) := by decide +kernel
theorem dX11_order_31 : decode cX11_order 31 = .ok (.getfield 47, 3) := by decide +kernel
theorem dX11_order_34 : decode cX11_order 34 = .ok (.invokevirtual 218, 3) := by decide +kernel
theorem dX11_order_37 : decode cX11_order 37 = .ok (.iload_n 1, 1) := by decide +kernel
theorem dX11_order_38 : decode cX11_order 38 = .ok (.bipush (-2), 2) := by decide +kernel
theorem dX11_order_40 : decode cX11_order 40 = .ok (.if_icmp .ne 11, 3) := by decide +kernel
theorem dX11_order_43 : decode cX11_order 43 = .ok (.aload_n 0, 1) := by decide +kernel
theorem dX11_order_44 : decode cX11_order 44 = .ok (.getfield 47, 3) := by decide +kernel
theorem dX11_order_47 : decode cX11_order 47 = .ok (.invokevirtual 201, 3) := by decide +kernel
theorem dX11_order_50 : decode cX11_order 50 = .ok (.ireturn, 1) := by decide +kernel
theorem dX11_order_51 : decode cX11_order 51 = .ok (.iload_n 1, 1) := by decide +kernel
theorem dX11_order_52 : decode cX11_order 52 = .ok (.iconst (-1), 1) := by decide +kernel
theorem dX11_order_53 : decode cX11_order 53 = .ok (.if_icmp .ne 13, 3) := by decide +kernel
theorem dX11_order_56 : decode cX11_order 56 = .ok (.aload_n 0, 1) := by decide +kernel
theorem dX11_order_57 : decode cX11_order 57 = .ok (.getfield 47, 3) := by decide +kernel
theorem dX11_order_60 : decode cX11_order 60 = .ok (.invokevirtual 204, 3) := by decide +kernel
theorem dX11_order_63 : decode cX11_order 63 = .ok (.goto 11, 3) := by decide +kernel
theorem dX11_order_66 : decode cX11_order 66 = .ok (.aload_n 0, 1) := by decide +kernel
theorem dX11_order_67 : decode cX11_order 67 = .ok (.getfield 47, 3) := by decide +kernel
theorem dX11_order_70 : decode cX11_order 70 = .ok (.iload_n 1, 1) := by decide +kernel
theorem dX11_order_71 : decode cX11_order 71 = .ok (.invokevirtual 206, 3) := by decide +kernel
theorem dX11_order_74 : decode cX11_order 74 = .ok (.ireturn, 1) := by decide +kernel
theorem dX11_far_0 : decode cX11_far 0 = .ok (.aload_n 0, 1) := by decide +kernel
theorem dX11_far_1 : decode cX11_far 1 = .ok (.getfield 23, 3) := by decide +kernel
theorem dX11_far_4 : decode cX11_far 4 = .ok (.iload_n 1, 1) := by decide +kernel
theorem dX11_far_5 : decode cX11_far 5 = .ok (.invokevirtual 151, 3) := by decide +kernel
theorem dX11_far_8 : decode cX11_far 8 = .ok (.ifCond .ne 5, 3) := by decide +kernel
theorem dX11_far_11 : decode cX11_far 11 = .ok (.iconst (-1), 1) := by decide +kernel
theorem dX11_far_12 : decode cX11_far 12 = .ok (.ireturn, 1) := by decide +kernel
theorem dX11_far_13 : decode cX11_far 13 = .ok (.aload_n 0, 1) := by decide +kernel
theorem dX11_far_14 : decode cX11_far 14 = .ok (.getfield 23, 3) := by decide +kernel
theorem dX11_far_17 : decode cX11_far 17 = .ok (.getfield 99, 3) := by decide +kernel
theorem dX11_far_20 : decode cX11_far 20 = .ok (.iload_n 1, 1) := by decide +kernel
theorem dX11_far_21 : decode cX11_far 21 = .ok (.invokevirtual 131, 3) := by decide +kernel
theorem dX11_far_24 : decode cX11_far 24 = .ok (.iconst 4, 1) := by decide +kernel
theorem dX11_far_25 : decode cX11_far 25 = .ok (.if_icmp .ne 8, 3) := by decide +kernel
theorem dX11_far_28 : decode cX11_far 28 = .ok (.bipush (-5), 2) := by decide +kernel
theorem dX11_far_30 : decode cX11_far 30 = .ok (.goto 12, 3) := by decide +kernel
theorem dX11_far_33 : decode cX11_far 33 = .ok (.aload_n 0, 1) := by decide +kernel
theorem dX11_far_34 : decode cX11_far 34 = .ok (.getfield 23, 3) := by decide +kernel
theorem dX11_far_37 : decode cX11_far 37 = .ok (.iload_n 1, 1) := by decide +kernel
theorem dX11_far_38 : decode cX11_far 38 = .ok (.iload_n 1, 1) := by decide +kernel
theorem dX11_far_39 : decode cX11_far 39 = .ok (.invokevirtual 221, 3) := by decide +kernel
theorem dX11_far_42 : decode cX11_far 42 = .ok (.ireturn, 1) := by decide +kernel
theorem dX11_see_0 : decode cX11_see 0 = .ok (.iload_n 1, 1) := by decide +kernel
theorem dX11_see_1 : decode cX11_see 1 = .ok (.iconst (-1), 1) := by decide +kernel
theorem dX11_see_2 : decode cX11_see 2 = .ok (.if_icmp .ne 15, 3) := by decide +kernel
theorem dX11_see_5 : decode cX11_see 5 = .ok (.aload_n 0, 1) := by decide +kernel
theorem dX11_see_6 : decode cX11_see 6 = .ok (.getfield 23, 3) := by decide +kernel
theorem dX11_see_9 : decode cX11_see 9 = .ok (.getfield 224, 3) := by decide +kernel
theorem dX11_see_12 : decode cX11_see 12 = .ok (.invokevirtual 66, 3) := by decide +kernel
theorem dX11_see_15 : decode cX11_see 15 = .ok (.iconst 0, 1) := by decide +kernel
theorem dX11_see_16 : decode cX11_see 16 = .ok (.ireturn, 1) := by decide +kernel
theorem dX11_see_17 : decode cX11_see 17 = .ok (.iload_n 1, 1) := by decide +kernel
theorem dX11_see_18 : decode cX11_see 18 = .ok (.iload_n 2, 1) := by decide +kernel
theorem dX11_see_19 : decode cX11_see 19 = .ok (.invokestatic 76, 3) := by decide +kernel
theorem dX11_see_22 : decode cX11_see 22 = .ok (.ifCond .ne 5, 3) := by decide +kernel
theorem dX11_see_25 : decode cX11_see 25 = .ok (.iconst (-1), 1) := by decide +kernel
theorem dX11_see_26 : decode cX11_see 26 = .ok (.ireturn, 1) := by decide +kernel
theorem dX11_see_27 : decode cX11_see 27 = .ok (.aload_n 0, 1) := by decide +kernel
theorem dX11_see_28 : decode cX11_see 28 = .ok (.getfield 23, 3) := by decide +kernel
theorem dX11_see_31 : decode cX11_see 31 = .ok (.getfield 224, 3) := by decide +kernel
theorem dX11_see_34 : decode cX11_see 34 = .ok (.invokevirtual 51, 3) := by decide +kernel
theorem dX11_see_37 : decode cX11_see 37 = .ok (.bipush 15, 2) := by decide +kernel
theorem dX11_see_39 : decode cX11_see 39 = .ok (.if_icmp .lt 6, 3) := by decide +kernel
theorem dX11_see_42 : decode cX11_see 42 = .ok (.bipush (-4), 2) := by decide +kernel
theorem dX11_see_44 : decode cX11_see 44 = .ok (.ireturn, 1) := by decide +kernel
theorem dX11_see_45 : decode cX11_see 45 = .ok (.aload_n 0, 1) := by decide +kernel
theorem dX11_see_46 : decode cX11_see 46 = .ok (.getfield 23, 3) := by decide +kernel
theorem dX11_see_49 : decode cX11_see 49 = .ok (.getfield 224, 3) := by decide +kernel
theorem dX11_see_52 : decode cX11_see 52 = .ok (.iload_n 1, 1) := by decide +kernel
theorem dX11_see_53 : decode cX11_see 53 = .ok (.invokevirtual 55, 3) := by decide +kernel
theorem dX11_see_56 : decode cX11_see 56 = .ok (.aload_n 0, 1) := by decide +kernel
theorem dX11_see_57 : decode cX11_see 57 = .ok (.getfield 23, 3) := by decide +kernel
theorem dX11_see_60 : decode cX11_see 60 = .ok (.getfield 224, 3) := by decide +kernel
theorem dX11_see_63 : decode cX11_see 63 = .ok (.iload_n 2, 1) := by decide +kernel
theorem dX11_see_64 : decode cX11_see 64 = .ok (.invokevirtual 55, 3) := by decide +kernel
theorem dX11_see_67 : decode cX11_see 67 = .ok (.aload_n 0, 1) := by decide +kernel
theorem dX11_see_68 : decode cX11_see 68 = .ok (.getfield 23, 3) := by decide +kernel
theorem dX11_see_71 : decode cX11_see 71 = .ok (.getfield 224, 3) := by decide +kernel
theorem dX11_see_74 : decode cX11_see 74 = .ok (.iload_n 3, 1) := by decide +kernel
theorem dX11_see_75 : decode cX11_see 75 = .ok (.ifCond .eq 7, 3) := by decide +kernel
theorem dX11_see_78 : decode cX11_see 78 = .ok (.iconst 1, 1) := by decide +kernel
theorem dX11_see_79 : decode cX11_see 79 = .ok (.goto 4, 3) := by decide +kernel
theorem dX11_see_82 : decode cX11_see 82 = .ok (.iconst 0, 1) := by decide +kernel
theorem dX11_see_83 : decode cX11_see 83 = .ok (.invokevirtual 55, 3) := by decide +kernel
theorem dX11_see_86 : decode cX11_see 86 = .ok (.aload_n 0, 1) := by decide +kernel
theorem dX11_see_87 : decode cX11_see 87 = .ok (.getfield 23, 3) := by decide +kernel
theorem dX11_see_90 : decode cX11_see 90 = .ok (.getfield 224, 3) := by decide +kernel
theorem dX11_see_93 : decode cX11_see 93 = .ok (.invokevirtual 51, 3) := by decide +kernel
theorem dX11_see_96 : decode cX11_see 96 = .ok (.iconst 3, 1) := by decide +kernel
theorem dX11_see_97 : decode cX11_see 97 = .ok (.idiv, 1) := by decide +kernel
theorem dX11_see_98 : decode cX11_see 98 = .ok (.ireturn, 1) := by decide +kernel
theorem dX11_can_0 : decode cX11_can 0 = .ok (.aload_n 0, 1) := by decide +kernel
theorem dX11_can_1 : decode cX11_can 1 = .ok (.getfield 23, 3) := by decide +kernel
theorem dX11_can_4 : decode cX11_can 4 = .ok (.iload_n 1, 1) := by decide +kernel
theorem dX11_can_5 : decode cX11_can 5 = .ok (.invokevirtual 106, 3) := by decide +kernel
theorem dX11_can_8 : decode cX11_can 8 = .ok (.astore_n 2, 1) := by decide +kernel
theorem dX11_can_9 : decode cX11_can 9 = .ok (.aload_n 2, 1) := by decide +kernel
theorem dX11_can_10 : decode cX11_can 10 = .ok (.ifnonnull 5, 3) := by decide +kernel
theorem dX11_can_13 : decode cX11_can 13 = .ok (.iconst (-1), 1) := by decide +kernel
theorem dX11_can_14 : decode cX11_can 14 = .ok (.ireturn, 1) := by decide +kernel
theorem dX11_can_15 : decode cX11_can 15 = .ok (.iconst 0, 1) := by decide +kernel
theorem dX11_can_16 : decode cX11_can 16 = .ok (.istore_n 3, 1) := by decide +kernel
theorem dX11_can_17 : decode cX11_can 17 = .ok (.iconst 0, 1) := by decide +kernel
theorem dX11_can_18 : decode cX11_can 18 = .ok (.istore 4, 2) := by decide +kernel
theorem dX11_can_20 : decode cX11_can 20 = .ok (.iload 4, 2) := by decide +kernel
theorem dX11_can_22 : decode cX11_can 22 = .ok (.iconst 4, 1) := by decide +kernel
theorem dX11_can_23 : decode cX11_can 23 = .ok (.if_icmp .gt 33, 3) := by decide +kernel
theorem dX11_can_26 : decode cX11_can 26 = .ok (.aload_n 0, 1) := by decide +kernel
theorem dX11_can_27 : decode cX11_can 27 = .ok (.getfield 23, 3) := by decide +kernel
theorem dX11_can_30 : decode cX11_can 30 = .ok (.iload_n 1, 1) := by decide +kernel
theorem dX11_can_31 : decode cX11_can 31 = .ok (.iload 4, 2) := by decide +kernel
theorem dX11_can_33 : decode cX11_can 33 = .ok (.aload_n 2, 1) := by decide +kernel
theorem dX11_can_34 : decode cX11_can 34 = .ok (.getfield 115, 3) := by decide +kernel
theorem dX11_can_37 : decode cX11_can 37 = .ok (.invokevirtual 227, 3) := by decide +kernel
theorem dX11_can_40 : decode cX11_can 40 = .ok (.ifCond .eq 10, 3) := by decide +kernel
theorem dX11_can_43 : decode cX11_can 43 = .ok (.iload_n 3, 1) := by decide +kernel
theorem dX11_can_44 : decode cX11_can 44 = .ok (.iconst 1, 1) := by decide +kernel
theorem dX11_can_45 : decode cX11_can 45 = .ok (.iload 4, 2) := by decide +kernel
theorem dX11_can_47 : decode cX11_can 47 = .ok (.ishl, 1) := by decide +kernel
theorem dX11_can_48 : decode cX11_can 48 = .ok (.ior, 1) := by decide +kernel
theorem dX11_can_49 : decode cX11_can 49 = .ok (.istore_n 3, 1) := by decide +kernel
theorem dX11_can_50 : decode cX11_can 50 = .ok (.iinc 4 1, 3) := by decide +kernel
theorem dX11_can_53 : decode cX11_can 53 = .ok (.goto (-33), 3) := by decide +kernel
theorem dX11_can_56 : decode cX11_can 56 = .ok (.iload_n 3, 1) := by decide +kernel
theorem dX11_can_57 : decode cX11_can 57 = .ok (.ireturn, 1) := by decide +kernel
theorem dX11_firm_0 : decode cX11_firm 0 = .ok (.aload_n 0, 1) := by decide +kernel
theorem dX11_firm_1 : decode cX11_firm 1 = .ok (.getfield 23, 3) := by decide +kernel
theorem dX11_firm_4 : decode cX11_firm 4 = .ok (.iload_n 1, 1) := by decide +kernel
theorem dX11_firm_5 : decode cX11_firm 5 = .ok (.invokevirtual 151, 3) := by decide +kernel
theorem dX11_firm_8 : decode cX11_firm 8 = .ok (.ifCond .eq 12, 3) := by decide +kernel
theorem dX11_firm_11 : decode cX11_firm 11 = .ok (.iload_n 2, 1) := by decide +kernel
theorem dX11_firm_12 : decode cX11_firm 12 = .ok (.ifCond .eq 10, 3) := by decide +kernel
theorem dX11_firm_15 : decode cX11_firm 15 = .ok (.iload_n 2, 1) := by decide +kernel
theorem dX11_firm_16 : decode cX11_firm 16 = .ok (.iconst 1, 1) := by decide +kernel
theorem dX11_firm_17 : decode cX11_firm 17 = .ok (.if_icmp .eq 5, 3) := by decide +kernel
theorem dX11_firm_20 : decode cX11_firm 20 = .ok (.iconst (-1), 1) := by decide +kernel
theorem dX11_firm_21 : decode cX11_firm 21 = .ok (.ireturn, 1) := by decide +kernel
theorem dX11_firm_22 : decode cX11_firm 22 = .ok (.iconst 0, 1) := by decide +kernel
theorem dX11_firm_23 : decode cX11_firm 23 = .ok (.istore_n 3, 1) := by decide +kernel
theorem dX11_firm_24 : decode cX11_firm 24 = .ok (.bipush (-5), 2) := by decide +kernel
theorem dX11_firm_26 : decode cX11_firm 26 = .ok (.istore 4, 2) := by decide +kernel
theorem dX11_firm_28 : decode cX11_firm 28 = .ok (.bipush 9, 2) := by decide +kernel
theorem dX11_firm_30 : decode cX11_firm 30 = .ok (.istore 5, 2) := by decide +kernel
theorem dX11_firm_32 : decode cX11_firm 32 = .ok (.iload 5, 2) := by decide +kernel
theorem dX11_firm_34 : decode cX11_firm 34 = .ok (.ifCond .lt 40, 3) := by decide +kernel
theorem dX11_firm_37 : decode cX11_firm 37 = .ok (.aload_n 0, 1) := by decide +kernel
theorem dX11_firm_38 : decode cX11_firm 38 = .ok (.getfield 23, 3) := by decide +kernel
theorem dX11_firm_41 : decode cX11_firm 41 = .ok (.iload_n 1, 1) := by decide +kernel
theorem dX11_firm_42 : decode cX11_firm 42 = .ok (.aload_n 0, 1) := by decide +kernel
theorem dX11_firm_43 : decode cX11_firm 43 = .ok (.getfield 23, 3) := by decide +kernel
theorem dX11_firm_46 : decode cX11_firm 46 = .ok (.getfield 99, 3) := by decide +kernel
theorem dX11_firm_49 : decode cX11_firm 49 = .ok (.iload_n 1, 1) := by decide +kernel
theorem dX11_firm_50 : decode cX11_firm 50 = .ok (.invokevirtual 131, 3) := by decide +kernel
theorem dX11_firm_53 : decode cX11_firm 53 = .ok (.iload 5, 2) := by decide +kernel
theorem dX11_firm_55 : decode cX11_firm 55 = .ok (.invokevirtual 227, 3) := by decide +kernel
theorem dX11_firm_58 : decode cX11_firm 58 = .ok (.ifCond .eq 10, 3) := by decide +kernel
theorem dX11_firm_61 : decode cX11_firm 61 = .ok (.iinc 3 1, 3) := by decide +kernel
theorem dX11_firm_64 : decode cX11_firm 64 = .ok (.iload 5, 2) := by decide +kernel
theorem dX11_firm_66 : decode cX11_firm 66 = .ok (.istore 4, 2) := by decide +kernel
theorem dX11_firm_68 : decode cX11_firm 68 = .ok (.iinc 5 (-1), 3) := by decide +kernel
theorem dX11_firm_71 : decode cX11_firm 71 = .ok (.goto (-39), 3) := by decide +kernel
theorem dX11_firm_74 : decode cX11_firm 74 = .ok (.iload_n 2, 1) := by decide +kernel
theorem dX11_firm_75 : decode cX11_firm 75 = .ok (.ifCond .ne 7, 3) := by decide +kernel
theorem dX11_firm_78 : decode cX11_firm 78 = .ok (.iload_n 3, 1) := by decide +kernel
theorem dX11_firm_79 : decode cX11_firm 79 = .ok (.goto 5, 3) := by decide +kernel
theorem dX11_firm_82 : decode cX11_firm 82 = .ok (.iload 4, 2) := by decide +kernel
theorem dX11_firm_84 : decode cX11_firm 84 = .ok (.ireturn, 1) := by decide +kernel
theorem dX11_odds_0 : decode cX11_odds 0 = .ok (.aload_n 0, 1) := by decide +kernel
theorem dX11_odds_1 : decode cX11_odds 1 = .ok (.getfield 23, 3) := by decide +kernel
theorem dX11_odds_4 : decode cX11_odds 4 = .ok (.iload_n 1, 1) := by decide +kernel
theorem dX11_odds_5 : decode cX11_odds 5 = .ok (.invokevirtual 151, 3) := by decide +kernel
theorem dX11_odds_8 : decode cX11_odds 8 = .ok (.ifCond .ne 7, 3) := by decide +kernel
theorem dX11_odds_11 : decode cX11_odds 11 = .ok (.ldc2_w 231, 3) := by decide +kernel
theorem dX11_odds_14 : decode cX11_odds 14 = .ok (.lreturn, 1) := by decide +kernel
theorem dX11_odds_15 : decode cX11_odds 15 = .ok (.aload_n 0, 1) := by decide +kernel
theorem dX11_odds_16 : decode cX11_odds 16 = .ok (.getfield 23, 3) := by decide +kernel
theorem dX11_odds_19 : decode cX11_odds 19 = .ok (.iload_n 1, 1) := by decide +kernel
theorem dX11_odds_20 : decode cX11_odds 20 = .ok (.invokevirtual 137, 3) := by decide +kernel
theorem dX11_odds_23 : decode cX11_odds 23 = .ok (.invokestatic 179, 3) := by decide +kernel
theorem dX11_odds_26 : decode cX11_odds 26 = .ok (.istore_n 3, 1) := by decide +kernel
theorem dX11_odds_27 : decode cX11_odds 27 = .ok (.aload_n 0, 1) := by decide +kernel
theorem dX11_odds_28 : decode cX11_odds 28 = .ok (.getfield 23, 3) := by decide +kernel
theorem dX11_odds_31 : decode cX11_odds 31 = .ok (.iload_n 1, 1) := by decide +kernel
theorem dX11_odds_32 : decode cX11_odds 32 = .ok (.aload_n 0, 1) := by decide +kernel
theorem dX11_odds_33 : decode cX11_odds 33 = .ok (.getfield 23, 3) := by decide +kernel
theorem dX11_odds_36 : decode cX11_odds 36 = .ok (.getfield 99, 3) := by decide +kernel
theorem dX11_odds_39 : decode cX11_odds 39 = .ok (.invokevirtual 147, 3) := by decide +kernel
theorem dX11_odds_42 : decode cX11_odds 42 = .ok (.invokestatic 179, 3) := by decide +kernel
theorem dX11_odds_45 : decode cX11_odds 45 = .ok (.iload_n 3, 1) := by decide +kernel
theorem dX11_odds_46 : decode cX11_odds 46 = .ok (.iload_n 2, 1) := by decide +kernel
theorem dX11_odds_47 : decode cX11_odds 47 = .ok (.invokestatic 233, 3) := by decide +kernel
theorem dX11_odds_50 : decode cX11_odds 50 = .ok (.lreturn, 1) := by decide +kernel
theorem dX11_mean_0 : decode cX11_mean 0 = .ok (.aload_n 0, 1) := by decide +kernel
theorem dX11_mean_1 : decode cX11_mean 1 = .ok (.getfield 23, 3) := by decide +kernel
theorem dX11_mean_4 : decode cX11_mean 4 = .ok (.aload_n 0, 1) := by decide +kernel
theorem dX11_mean_5 : decode cX11_mean 5 = .ok (.getfield 23, 3) := by decide +kernel
theorem dX11_mean_8 : decode cX11_mean 8 = .ok (.getfield 99, 3) := by decide +kernel
theorem dX11_mean_11 : decode cX11_mean 11 = .ok (.invokevirtual 184, 3) := by decide +kernel
theorem dX11_mean_14 : decode cX11_mean 14 = .ok (.aload_n 0, 1) := by decide +kernel
theorem dX11_mean_15 : decode cX11_mean 15 = .ok (.getfield 23, 3) := by decide +kernel
theorem dX11_mean_18 : decode cX11_mean 18 = .ok (.aload_n 0, 1) := by decide +kernel
theorem dX11_mean_19 : decode cX11_mean 19 = .ok (.getfield 23, 3) := by decide +kernel
theorem dX11_mean_22 : decode cX11_mean 22 = .ok (.getfield 99, 3) := by decide +kernel
theorem dX11_mean_25 : decode cX11_mean 25 = .ok (.invokevirtual 175, 3) := by decide +kernel
theorem dX11_mean_28 : decode cX11_mean 28 = .ok (.invokestatic 179, 3) := by decide +kernel
theorem dX11_mean_31 : decode cX11_mean 31 = .ok (.iload_n 1, 1) := by decide +kernel
theorem dX11_mean_32 : decode cX11_mean 32 = .ok (.invokestatic 233, 3) := by decide +kernel
theorem dX11_mean_35 : decode cX11_mean 35 = .ok (.lreturn, 1) := by decide +kernel
theorem dX11_plan_0 : decode cX11_plan 0 = .ok (.aload_n 0, 1) := by decide +kernel
theorem dX11_plan_1 : decode cX11_plan 1 = .ok (.aload_n 0, 1) := by decide +kernel
theorem dX11_plan_2 : decode cX11_plan 2 = .ok (.getfield 23, 3) := by decide +kernel
theorem dX11_plan_5 : decode cX11_plan 5 = .ok (.getfield 237, 3) := by decide +kernel
theorem dX11_plan_8 : decode cX11_plan 8 = .ok (.iload_n 1, 1) := by decide +kernel
theorem dX11_plan_9 : decode cX11_plan 9 = .ok (.iload_n 2, 1) := by decide +kernel
theorem dX11_plan_10 : decode cX11_plan 10 = .ok (.invokevirtual 240, 3) := by decide +kernel
theorem dX11_plan_13 : decode cX11_plan 13 = .ok (.ireturn, 1) := by decide +kernel
theorem dX11_done_0 : decode cX11_done 0 = .ok (.iload_n 1, 1) := by decide +kernel
theorem dX11_done_1 : decode cX11_done 1 = .ok (.ifCond .eq 12, 3) := by decide +kernel
theorem dX11_done_4 : decode cX11_done 4 = .ok (.iload_n 1, 1) := by decide +kernel
theorem dX11_done_5 : decode cX11_done 5 = .ok (.iconst 1, 1) := by decide +kernel
theorem dX11_done_6 : decode cX11_done 6 = .ok (.if_icmp .eq 7, 3) := by decide +kernel
theorem dX11_done_9 : decode cX11_done 9 = .ok (.sipush (-10001), 3) := by decide +kernel
theorem dX11_done_12 : decode cX11_done 12 = .ok (.ireturn, 1) := by decide +kernel
theorem dX11_done_13 : decode cX11_done 13 = .ok (.aload_n 0, 1) := by decide +kernel
theorem dX11_done_14 : decode cX11_done 14 = .ok (.getfield 23, 3) := by decide +kernel
theorem dX11_done_17 : decode cX11_done 17 = .ok (.invokevirtual 244, 3) := by decide +kernel
theorem dX11_done_20 : decode cX11_done 20 = .ok (.astore_n 2, 1) := by decide +kernel
theorem dX11_done_21 : decode cX11_done 21 = .ok (.iload_n 1, 1) := by decide +kernel
theorem dX11_done_22 : decode cX11_done 22 = .ok (.ifCond .ne 17, 3) := by decide +kernel
theorem dX11_done_25 : decode cX11_done 25 = .ok (.aload_n 0, 1) := by decide +kernel
theorem dX11_done_26 : decode cX11_done 26 = .ok (.getfield 23, 3) := by decide +kernel
theorem dX11_done_29 : decode cX11_done 29 = .ok (.aload_n 2, 1) := by decide +kernel
theorem dX11_done_30 : decode cX11_done 30 = .ok (.invokevirtual 175, 3) := by decide +kernel
theorem dX11_done_33 : decode cX11_done 33 = .ok (.invokestatic 179, 3) := by decide +kernel
theorem dX11_done_36 : decode cX11_done 36 = .ok (.goto 11, 3) := by decide +kernel
theorem dX11_done_39 : decode cX11_done 39 = .ok (.aload_n 0, 1) := by decide +kernel
theorem dX11_done_40 : decode cX11_done 40 = .ok (.getfield 23, 3) := by decide +kernel
theorem dX11_done_43 : decode cX11_done 43 = .ok (.aload_n 2, 1) := by decide +kernel
theorem dX11_done_44 : decode cX11_done 44 = .ok (.invokevirtual 184, 3) := by decide +kernel
theorem dX11_done_47 : decode cX11_done 47 = .ok (.ireturn, 1) := by decide +kernel
theorem dX11_book_0 : decode cX11_book 0 = .ok (.aload_n 0, 1) := by decide +kernel
theorem dX11_book_1 : decode cX11_book 1 = .ok (.aload_n 0, 1) := by decide +kernel
theorem dX11_book_2 : decode cX11_book 2 = .ok (.getfield 23, 3) := by decide +kernel
theorem dX11_book_5 : decode cX11_book 5 = .ok (.getfield 248, 3) := by decide +kernel
theorem dX11_book_8 : decode cX11_book 8 = .ok (.iload_n 1, 1) := by decide +kernel
theorem dX11_book_9 : decode cX11_book 9 = .ok (.iload_n 2, 1) := by decide +kernel
theorem dX11_book_10 : decode cX11_book 10 = .ok (.invokevirtual 240, 3) := by decide +kernel
theorem dX11_book_13 : decode cX11_book 13 = .ok (.ireturn, 1) := by decide +kernel
theorem dX11_looked_0 : decode cX11_looked 0 = .ok (.iconst 0, 1) := by decide +kernel
theorem dX11_looked_1 : decode cX11_looked 1 = .ok (.istore_n 1, 1) := by decide +kernel
theorem dX11_looked_2 : decode cX11_looked 2 = .ok (.iload_n 1, 1) := by decide +kernel
theorem dX11_looked_3 : decode cX11_looked 3 = .ok (.aload_n 0, 1) := by decide +kernel
theorem dX11_looked_4 : decode cX11_looked 4 = .ok (.getfield 23, 3) := by decide +kernel
theorem dX11_looked_7 : decode cX11_looked 7 = .ok (.getfield 248, 3) := by decide +kernel
theorem dX11_looked_10 : decode cX11_looked 10 = .ok (.invokevirtual 51, 3) := by decide +kernel
theorem dX11_looked_13 : decode cX11_looked 13 = .ok (.iconst 2, 1) := by decide +kernel
theorem dX11_looked_14 : decode cX11_looked 14 = .ok (.idiv, 1) := by decide +kernel
theorem dX11_looked_15 : decode cX11_looked 15 = .ok (.if_icmp .ge 52, 3) := by decide +kernel
theorem dX11_looked_18 : decode cX11_looked 18 = .ok (.aload_n 0, 1) := by decide +kernel
theorem dX11_looked_19 : decode cX11_looked 19 = .ok (.getfield 23, 3) := by decide +kernel
theorem dX11_looked_22 : decode cX11_looked 22 = .ok (.getfield 99, 3) := by decide +kernel
theorem dX11_looked_25 : decode cX11_looked 25 = .ok (.aload_n 0, 1) := by decide +kernel
theorem dX11_looked_26 : decode cX11_looked 26 = .ok (.getfield 23, 3) := by decide +kernel
theorem dX11_looked_29 : decode cX11_looked 29 = .ok (.getfield 248, 3) := by decide +kernel
theorem dX11_looked_32 : decode cX11_looked 32 = .ok (.iconst 2, 1) := by decide +kernel
theorem dX11_looked_33 : decode cX11_looked 33 = .ok (.iload_n 1, 1) := by decide +kernel
theorem dX11_looked_34 : decode cX11_looked 34 = .ok (.imul, 1) := by decide +kernel
theorem dX11_looked_35 : decode cX11_looked 35 = .ok (.invokevirtual 131, 3) := by decide +kernel
theorem dX11_looked_38 : decode cX11_looked 38 = .ok (.invokevirtual 131, 3) := by decide +kernel
theorem dX11_looked_41 : decode cX11_looked 41 = .ok (.aload_n 0, 1) := by decide +kernel
theorem dX11_looked_42 : decode cX11_looked 42 = .ok (.getfield 23, 3) := by decide +kernel
theorem dX11_looked_45 : decode cX11_looked 45 = .ok (.getfield 248, 3) := by decide +kernel
theorem dX11_looked_48 : decode cX11_looked 48 = .ok (.iconst 2, 1) := by decide +kernel
theorem dX11_looked_49 : decode cX11_looked 49 = .ok (.iload_n 1, 1) := by decide +kernel
theorem dX11_looked_50 : decode cX11_looked 50 = .ok (.imul, 1) := by decide +kernel
theorem dX11_looked_51 : decode cX11_looked 51 = .ok (.iconst 1, 1) := by decide +kernel
theorem dX11_looked_52 : decode cX11_looked 52 = .ok (.iadd, 1) := by decide +kernel
theorem dX11_looked_53 : decode cX11_looked 53 = .ok (.invokevirtual 131, 3) := by decide +kernel
theorem dX11_looked_56 : decode cX11_looked 56 = .ok (.if_icmp .eq 5, 3) := by decide +kernel
theorem dX11_looked_59 : decode cX11_looked 59 = .ok (.iload_n 1, 1) := by decide +kernel
theorem dX11_looked_60 : decode cX11_looked 60 = .ok (.ireturn, 1) := by decide +kernel
theorem dX11_looked_61 : decode cX11_looked 61 = .ok (.iinc 1 1, 3) := by decide +kernel
theorem dX11_looked_64 : decode cX11_looked 64 = .ok (.goto (-62), 3) := by decide +kernel
theorem dX11_looked_67 : decode cX11_looked 67 = .ok (.bipush (-5), 2) := by decide +kernel
theorem dX11_looked_69 : decode cX11_looked 69 = .ok (.ireturn, 1) := by decide +kernel
theorem dX11_act_0 : decode cX11_act 0 = .ok (.aload_n 0, 1) := by decide +kernel
theorem dX11_act_1 : decode cX11_act 1 = .ok (.getfield 16, 3) := by decide +kernel
theorem dX11_act_4 : decode cX11_act 4 = .ok (.invokevirtual 66, 3) := by decide +kernel
theorem dX11_act_7 : decode cX11_act 7 = .ok (.aload_n 0, 1) := by decide +kernel
theorem dX11_act_8 : decode cX11_act 8 = .ok (.getfield 23, 3) := by decide +kernel
theorem dX11_act_11 : decode cX11_act 11 = .ok (.iload_n 1, 1) := by decide +kernel
theorem dX11_act_12 : decode cX11_act 12 = .ok (.invokevirtual 106, 3) := by decide +kernel
theorem dX11_act_15 : decode cX11_act 15 = .ok (.astore 4, 2) := by decide +kernel
theorem dX11_act_17 : decode cX11_act 17 = .ok (.aload 4, 2) := by decide +kernel
theorem dX11_act_19 : decode cX11_act 19 = .ok (.ifnonnull 5, 3) := by decide +kernel
theorem dX11_act_22 : decode cX11_act 22 = .ok (.iconst 0, 1) := by decide +kernel
theorem dX11_act_23 : decode cX11_act 23 = .ok (.ireturn, 1) := by decide +kernel
theorem dX11_act_24 : decode cX11_act 24 = .ok (.iload_n 2, 1) := by decide +kernel
theorem dX11_act_25 : decode cX11_act 25 = .ok (.tableswitch 48 0 2 #[27, 34, 41], 27) := by decide +kernel
theorem dX11_act_52 : decode cX11_act 52 = .ok (.aload 4, 2) := by decide +kernel
theorem dX11_act_54 : decode cX11_act 54 = .ok (.iload_n 3, 1) := by decide +kernel
theorem dX11_act_55 : decode cX11_act 55 = .ok (.invokevirtual 251, 3) := by decide +kernel
theorem dX11_act_58 : decode cX11_act 58 = .ok (.ireturn, 1) := by decide +kernel
theorem dX11_act_59 : decode cX11_act 59 = .ok (.aload 4, 2) := by decide +kernel
theorem dX11_act_61 : decode cX11_act 61 = .ok (.iload_n 3, 1) := by decide +kernel
theorem dX11_act_62 : decode cX11_act 62 = .ok (.invokevirtual 254, 3) := by decide +kernel
theorem dX11_act_65 : decode cX11_act 65 = .ok (.ireturn, 1) := by decide +kernel
theorem dX11_act_66 : decode cX11_act 66 = .ok (.aload 4, 2) := by decide +kernel
theorem dX11_act_68 : decode cX11_act 68 = .ok (.iload_n 3, 1) := by decide +kernel
theorem dX11_act_69 : decode cX11_act 69 = .ok (.invokevirtual 257, 3) := by decide +kernel
theorem dX11_act_72 : decode cX11_act 72 = .ok (.ireturn, 1) := by decide +kernel
theorem dX11_act_73 : decode cX11_act 73 = .ok (.iconst 0, 1) := by decide +kernel
theorem dX11_act_74 : decode cX11_act 74 = .ok (.ireturn, 1) := by decide +kernel
theorem dX11_trace_0 : decode cX11_trace 0 = .ok (.iload_n 1, 1) := by decide +kernel
theorem dX11_trace_1 : decode cX11_trace 1 = .ok (.ifCond .lt 31, 3) := by decide +kernel
theorem dX11_trace_4 : decode cX11_trace 4 = .ok (.iload_n 1, 1) := by decide +kernel
theorem dX11_trace_5 : decode cX11_trace 5 = .ok (.bipush 20, 2) := by decide +kernel
theorem dX11_trace_7 : decode cX11_trace 7 = .ok (.if_icmp .ge 25, 3) := by decide +kernel
theorem dX11_trace_10 : decode cX11_trace 10 = .ok (.iload_n 1, 1) := by decide +kernel
theorem dX11_trace_11 : decode cX11_trace 11 = .ok (.aload_n 0, 1) := by decide +kernel
theorem dX11_trace_12 : decode cX11_trace 12 = .ok (.getfield 16, 3) := by decide +kernel
theorem dX11_trace_15 : decode cX11_trace 15 = .ok (.invokevirtual 51, 3) := by decide +kernel
theorem dX11_trace_18 : decode cX11_trace 18 = .ok (.if_icmp .ge 14, 3) := by decide +kernel
theorem dX11_trace_21 : decode cX11_trace 21 = .ok (.aload_n 0, 1) := by decide +kernel
theorem dX11_trace_22 : decode cX11_trace 22 = .ok (.getfield 16, 3) := by decide +kernel
theorem dX11_trace_25 : decode cX11_trace 25 = .ok (.iload_n 1, 1) := by decide +kernel
theorem dX11_trace_26 : decode cX11_trace 26 = .ok (.invokevirtual 131, 3) := by decide +kernel
theorem dX11_trace_29 : decode cX11_trace 29 = .ok (.goto 4, 3) := by decide +kernel
theorem dX11_trace_32 : decode cX11_trace 32 = .ok (.iconst (-1), 1) := by decide +kernel
theorem dX11_trace_33 : decode cX11_trace 33 = .ok (.ireturn, 1) := by decide +kernel
theorem dX11_as_0 : decode cX11_as 0 = .ok (.aload_n 0, 1) := by decide +kernel
theorem dX11_as_1 : decode cX11_as 1 = .ok (.getfield 23, 3) := by decide +kernel
theorem dX11_as_4 : decode cX11_as 4 = .ok (.iload_n 1, 1) := by decide +kernel
theorem dX11_as_5 : decode cX11_as 5 = .ok (.invokevirtual 106, 3) := by decide +kernel
theorem dX11_as_8 : decode cX11_as 8 = .ok (.astore_n 3, 1) := by decide +kernel
theorem dX11_as_9 : decode cX11_as 9 = .ok (.aload_n 3, 1) := by decide +kernel
theorem dX11_as_10 : decode cX11_as 10 = .ok (.ifnull 13, 3) := by decide +kernel
theorem dX11_as_13 : decode cX11_as 13 = .ok (.iload_n 2, 1) := by decide +kernel
theorem dX11_as_14 : decode cX11_as 14 = .ok (.ifCond .lt 9, 3) := by decide +kernel
theorem dX11_as_17 : decode cX11_as 17 = .ok (.iload_n 2, 1) := by decide +kernel
theorem dX11_as_18 : decode cX11_as 18 = .ok (.bipush 7, 2) := by decide +kernel
theorem dX11_as_20 : decode cX11_as 20 = .ok (.if_icmp .lt 5, 3) := by decide +kernel
theorem dX11_as_23 : decode cX11_as 23 = .ok (.iconst (-1), 1) := by decide +kernel
theorem dX11_as_24 : decode cX11_as 24 = .ok (.ireturn, 1) := by decide +kernel
theorem dX11_as_25 : decode cX11_as 25 = .ok (.aload_n 3, 1) := by decide +kernel
theorem dX11_as_26 : decode cX11_as 26 = .ok (.iload_n 2, 1) := by decide +kernel
theorem dX11_as_27 : decode cX11_as 27 = .ok (.invokestatic 260, 3) := by decide +kernel
theorem dX11_as_30 : decode cX11_as 30 = .ok (.ifCond .eq 10, 3) := by decide +kernel
theorem dX11_as_33 : decode cX11_as 33 = .ok (.aload_n 3, 1) := by decide +kernel
theorem dX11_as_34 : decode cX11_as 34 = .ok (.getfield 115, 3) := by decide +kernel
theorem dX11_as_37 : decode cX11_as 37 = .ok (.goto 5, 3) := by decide +kernel
theorem dX11_as_40 : decode cX11_as 40 = .ok (.bipush (-6), 2) := by decide +kernel
theorem dX11_as_42 : decode cX11_as 42 = .ok (.ireturn, 1) := by decide +kernel
theorem dX11_image_0 : decode cX11_image 0 = .ok (.aload_n 0, 1) := by decide +kernel
theorem dX11_image_1 : decode cX11_image 1 = .ok (.getfield 27, 3) := by decide +kernel
theorem dX11_image_4 : decode cX11_image 4 = .ok (.aload_n 0, 1) := by decide +kernel
theorem dX11_image_5 : decode cX11_image 5 = .ok (.getfield 23, 3) := by decide +kernel
theorem dX11_image_8 : decode cX11_image 8 = .ok (.invokevirtual 264, 3) := by decide +kernel
theorem dX11_image_11 : decode cX11_image 11 = .ok (.aload_n 0, 1) := by decide +kernel
theorem dX11_image_12 : decode cX11_image 12 = .ok (.iconst 1, 1) := by decide +kernel
theorem dX11_image_13 : decode cX11_image 13 = .ok (.putfield 267, 3) := by decide +kernel
theorem dX11_image_16 : decode cX11_image 16 = .ok (.aload_n 0, 1) := by decide +kernel
theorem dX11_image_17 : decode cX11_image 17 = .ok (.getfield 23, 3) := by decide +kernel
theorem dX11_image_20 : decode cX11_image 20 = .ok (.invokevirtual 83, 3) := by decide +kernel
theorem dX11_image_23 : decode cX11_image 23 = .ok (.ireturn, 1) := by decide +kernel
theorem dX11_undo_0 : decode cX11_undo 0 = .ok (.aload_n 0, 1) := by decide +kernel
theorem dX11_undo_1 : decode cX11_undo 1 = .ok (.getfield 267, 3) := by decide +kernel
theorem dX11_undo_4 : decode cX11_undo 4 = .ok (.ifCond .ne 6, 3) := by decide +kernel
theorem dX11_undo_7 : decode cX11_undo 7 = .ok (.bipush (-3), 2) := by decide +kernel
theorem dX11_undo_9 : decode cX11_undo 9 = .ok (.ireturn, 1) := by decide +kernel
theorem dX11_undo_10 : decode cX11_undo 10 = .ok (.aload_n 0, 1) := by decide +kernel
theorem dX11_undo_11 : decode cX11_undo 11 = .ok (.getfield 23, 3) := by decide +kernel
theorem dX11_undo_14 : decode cX11_undo 14 = .ok (.aload_n 0, 1) := by decide +kernel
theorem dX11_undo_15 : decode cX11_undo 15 = .ok (.getfield 27, 3) := by decide +kernel
theorem dX11_undo_18 : decode cX11_undo 18 = .ok (.invokevirtual 264, 3) := by decide +kernel
theorem dX11_undo_21 : decode cX11_undo 21 = .ok (.aload_n 0, 1) := by decide +kernel
theorem dX11_undo_22 : decode cX11_undo 22 = .ok (.getfield 23, 3) := by decide +kernel
theorem dX11_undo_25 : decode cX11_undo 25 = .ok (.invokevirtual 83, 3) := by decide +kernel
theorem dX11_undo_28 : decode cX11_undo 28 = .ok (.ireturn, 1) := by decide +kernel
theorem dX11_count_0 : decode cX11_count 0 = .ok (.iload_n 1, 1) := by decide +kernel
theorem dX11_count_1 : decode cX11_count 1 = .ok (.tableswitch 117 0 6 #[43, 51, 59, 72, 85, 98, 109], 43) := by decide +kernel
theorem dX11_count_44 : decode cX11_count 44 = .ok (.aload_n 0, 1) := by decide +kernel
theorem dX11_count_45 : decode cX11_count 45 = .ok (.getfield 23, 3) := by decide +kernel
theorem dX11_count_48 : decode cX11_count 48 = .ok (.invokevirtual 83, 3) := by decide +kernel
theorem dX11_count_51 : decode cX11_count 51 = .ok (.ireturn, 1) := by decide +kernel
theorem dX11_count_52 : decode cX11_count 52 = .ok (.aload_n 0, 1) := by decide +kernel
theorem dX11_count_53 : decode cX11_count 53 = .ok (.getfield 23, 3) := by decide +kernel
theorem dX11_count_56 : decode cX11_count 56 = .ok (.getfield 58, 3) := by decide +kernel
theorem dX11_count_59 : decode cX11_count 59 = .ok (.ireturn, 1) := by decide +kernel
theorem dX11_count_60 : decode cX11_count 60 = .ok (.aload_n 0, 1) := by decide +kernel
theorem dX11_count_61 : decode cX11_count 61 = .ok (.getfield 23, 3) := by decide +kernel
theorem dX11_count_64 : decode cX11_count 64 = .ok (.getfield 224, 3) := by decide +kernel
theorem dX11_count_67 : decode cX11_count 67 = .ok (.invokevirtual 51, 3) := by decide +kernel
theorem dX11_count_70 : decode cX11_count 70 = .ok (.iconst 3, 1) := by decide +kernel
theorem dX11_count_71 : decode cX11_count 71 = .ok (.idiv, 1) := by decide +kernel
theorem dX11_count_72 : decode cX11_count 72 = .ok (.ireturn, 1) := by decide +kernel
theorem dX11_count_73 : decode cX11_count 73 = .ok (.aload_n 0, 1) := by decide +kernel
theorem dX11_count_74 : decode cX11_count 74 = .ok (.getfield 23, 3) := by decide +kernel
theorem dX11_count_77 : decode cX11_count 77 = .ok (.getfield 237, 3) := by decide +kernel
theorem dX11_count_80 : decode cX11_count 80 = .ok (.invokevirtual 51, 3) := by decide +kernel
theorem dX11_count_83 : decode cX11_count 83 = .ok (.iconst 2, 1) := by decide +kernel
theorem dX11_count_84 : decode cX11_count 84 = .ok (.idiv, 1) := by decide +kernel
theorem dX11_count_85 : decode cX11_count 85 = .ok (.ireturn, 1) := by decide +kernel
theorem dX11_count_86 : decode cX11_count 86 = .ok (.aload_n 0, 1) := by decide +kernel
theorem dX11_count_87 : decode cX11_count 87 = .ok (.getfield 23, 3) := by decide +kernel
theorem dX11_count_90 : decode cX11_count 90 = .ok (.getfield 248, 3) := by decide +kernel
theorem dX11_count_93 : decode cX11_count 93 = .ok (.invokevirtual 51, 3) := by decide +kernel
theorem dX11_count_96 : decode cX11_count 96 = .ok (.iconst 2, 1) := by decide +kernel
theorem dX11_count_97 : decode cX11_count 97 = .ok (.idiv, 1) := by decide +kernel
theorem dX11_count_98 : decode cX11_count 98 = .ok (.ireturn, 1) := by decide +kernel
theorem dX11_count_99 : decode cX11_count 99 = .ok (.aload_n 0, 1) := by decide +kernel
theorem dX11_count_100 : decode cX11_count 100 = .ok (.getfield 23, 3) := by decide +kernel
theorem dX11_count_103 : decode cX11_count 103 = .ok (.getfield 32, 3) := by decide +kernel
theorem dX11_count_106 : decode cX11_count 106 = .ok (.invokevirtual 51, 3) := by decide +kernel
theorem dX11_count_109 : decode cX11_count 109 = .ok (.ireturn, 1) := by decide +kernel
theorem dX11_count_110 : decode cX11_count 110 = .ok (.aload_n 0, 1) := by decide +kernel
theorem dX11_count_111 : decode cX11_count 111 = .ok (.getfield 16, 3) := by decide +kernel
theorem dX11_count_114 : decode cX11_count 114 = .ok (.invokevirtual 51, 3) := by decide +kernel
theorem dX11_count_117 : decode cX11_count 117 = .ok (.ireturn, 1) := by decide +kernel
theorem dX11_count_118 : decode cX11_count 118 = .ok (.iconst (-1), 1) := by decide +kernel
theorem dX11_count_119 : decode cX11_count 119 = .ok (.ireturn, 1) := by decide +kernel
theorem dX11_isPlace_0 : decode cX11_isPlace 0 = .ok (.iload_n 0, 1) := by decide +kernel
theorem dX11_isPlace_1 : decode cX11_isPlace 1 = .ok (.ifCond .lt 12, 3) := by decide +kernel
theorem dX11_isPlace_4 : decode cX11_isPlace 4 = .ok (.iload_n 0, 1) := by decide +kernel
theorem dX11_isPlace_5 : decode cX11_isPlace 5 = .ok (.iconst 4, 1) := by decide +kernel
theorem dX11_isPlace_6 : decode cX11_isPlace 6 = .ok (.if_icmp .ge 7, 3) := by decide +kernel
theorem dX11_isPlace_9 : decode cX11_isPlace 9 = .ok (.iconst 1, 1) := by decide +kernel
theorem dX11_isPlace_10 : decode cX11_isPlace 10 = .ok (.goto 4, 3) := by decide +kernel
theorem dX11_isPlace_13 : decode cX11_isPlace 13 = .ok (.iconst 0, 1) := by decide +kernel
theorem dX11_isPlace_14 : decode cX11_isPlace 14 = .ok (.ireturn, 1) := by decide +kernel
theorem dX11_isSpot_0 : decode cX11_isSpot 0 = .ok (.iload_n 0, 1) := by decide +kernel
theorem dX11_isSpot_1 : decode cX11_isSpot 1 = .ok (.ifCond .lt 23, 3) := by decide +kernel
theorem dX11_isSpot_4 : decode cX11_isSpot 4 = .ok (.iload_n 0, 1) := by decide +kernel
theorem dX11_isSpot_5 : decode cX11_isSpot 5 = .ok (.bipush 30, 2) := by decide +kernel
theorem dX11_isSpot_7 : decode cX11_isSpot 7 = .ok (.if_icmp .ge 17, 3) := by decide +kernel
theorem dX11_isSpot_10 : decode cX11_isSpot 10 = .ok (.iload_n 1, 1) := by decide +kernel
theorem dX11_isSpot_11 : decode cX11_isSpot 11 = .ok (.ifCond .lt 13, 3) := by decide +kernel
theorem dX11_isSpot_14 : decode cX11_isSpot 14 = .ok (.iload_n 1, 1) := by decide +kernel
theorem dX11_isSpot_15 : decode cX11_isSpot 15 = .ok (.bipush 12, 2) := by decide +kernel
theorem dX11_isSpot_17 : decode cX11_isSpot 17 = .ok (.if_icmp .ge 7, 3) := by decide +kernel
theorem dX11_isSpot_20 : decode cX11_isSpot 20 = .ok (.iconst 1, 1) := by decide +kernel
theorem dX11_isSpot_21 : decode cX11_isSpot 21 = .ok (.goto 4, 3) := by decide +kernel
theorem dX11_isSpot_24 : decode cX11_isSpot 24 = .ok (.iconst 0, 1) := by decide +kernel
theorem dX11_isSpot_25 : decode cX11_isSpot 25 = .ok (.ireturn, 1) := by decide +kernel
theorem dX11_hasBit_0 : decode cX11_hasBit 0 = .ok (.iload_n 0, 1) := by decide +kernel
theorem dX11_hasBit_1 : decode cX11_hasBit 1 = .ok (.iload_n 1, 1) := by decide +kernel
theorem dX11_hasBit_2 : decode cX11_hasBit 2 = .ok (.ishr, 1) := by decide +kernel
theorem dX11_hasBit_3 : decode cX11_hasBit 3 = .ok (.iconst 1, 1) := by decide +kernel
theorem dX11_hasBit_4 : decode cX11_hasBit 4 = .ok (.iand, 1) := by decide +kernel
theorem dX11_hasBit_5 : decode cX11_hasBit 5 = .ok (.ifCond .eq 7, 3) := by decide +kernel
theorem dX11_hasBit_8 : decode cX11_hasBit 8 = .ok (.iconst 1, 1) := by decide +kernel
theorem dX11_hasBit_9 : decode cX11_hasBit 9 = .ok (.goto 4, 3) := by decide +kernel
theorem dX11_hasBit_12 : decode cX11_hasBit 12 = .ok (.iconst 0, 1) := by decide +kernel
theorem dX11_hasBit_13 : decode cX11_hasBit 13 = .ok (.ireturn, 1) := by decide +kernel
theorem dX11_outward_0 : decode cX11_outward 0 = .ok (.iload_n 0, 1) := by decide +kernel
theorem dX11_outward_1 : decode cX11_outward 1 = .ok (.iconst 4, 1) := by decide +kernel
theorem dX11_outward_2 : decode cX11_outward 2 = .ok (.if_icmp .ne 8, 3) := by decide +kernel
theorem dX11_outward_5 : decode cX11_outward 5 = .ok (.bipush (-5), 2) := by decide +kernel
theorem dX11_outward_7 : decode cX11_outward 7 = .ok (.goto 4, 3) := by decide +kernel
theorem dX11_outward_10 : decode cX11_outward 10 = .ok (.iload_n 0, 1) := by decide +kernel
theorem dX11_outward_11 : decode cX11_outward 11 = .ok (.ireturn, 1) := by decide +kernel
theorem dX11_put_0 : decode cX11_put 0 = .ok (.aload_n 0, 1) := by decide +kernel
theorem dX11_put_1 : decode cX11_put 1 = .ok (.getfield 23, 3) := by decide +kernel
theorem dX11_put_4 : decode cX11_put 4 = .ok (.getfield 99, 3) := by decide +kernel
theorem dX11_put_7 : decode cX11_put 7 = .ok (.iload_n 1, 1) := by decide +kernel
theorem dX11_put_8 : decode cX11_put 8 = .ok (.invokevirtual 131, 3) := by decide +kernel
theorem dX11_put_11 : decode cX11_put 11 = .ok (.istore_n 3, 1) := by decide +kernel
theorem dX11_put_12 : decode cX11_put 12 = .ok (.aload_n 0, 1) := by decide +kernel
theorem dX11_put_13 : decode cX11_put 13 = .ok (.getfield 23, 3) := by decide +kernel
theorem dX11_put_16 : decode cX11_put 16 = .ok (.getfield 99, 3) := by decide +kernel
theorem dX11_put_19 : decode cX11_put 19 = .ok (.iload_n 1, 1) := by decide +kernel
theorem dX11_put_20 : decode cX11_put 20 = .ok (.iload_n 2, 1) := by decide +kernel
theorem dX11_put_21 : decode cX11_put 21 = .ok (.invokevirtual 102, 3) := by decide +kernel
theorem dX11_put_24 : decode cX11_put 24 = .ok (.iload_n 3, 1) := by decide +kernel
theorem dX11_put_25 : decode cX11_put 25 = .ok (.invokestatic 134, 3) := by decide +kernel
theorem dX11_put_28 : decode cX11_put 28 = .ok (.ireturn, 1) := by decide +kernel
theorem dX11_named_0 : decode cX11_named 0 = .ok (.aload_n 0, 1) := by decide +kernel
theorem dX11_named_1 : decode cX11_named 1 = .ok (.getfield 23, 3) := by decide +kernel
theorem dX11_named_4 : decode cX11_named 4 = .ok (.invokevirtual 83, 3) := by decide +kernel
theorem dX11_named_7 : decode cX11_named 7 = .ok (.istore 6, 2) := by decide +kernel
theorem dX11_named_9 : decode cX11_named 9 = .ok (.iload_n 1, 1) := by decide +kernel
theorem dX11_named_10 : decode cX11_named 10 = .ok (.tableswitch 158 1 6 #[38, 58, 78, 98, 118, 138], 38) := by decide +kernel
theorem dX11_named_48 : decode cX11_named 48 = .ok (.new 271, 3) := by decide +kernel
theorem dX11_named_51 : decode cX11_named 51 = .ok (.dup, 1) := by decide +kernel
theorem dX11_named_52 : decode cX11_named 52 = .ok (.aload_n 0, 1) := by decide +kernel
theorem dX11_named_53 : decode cX11_named 53 = .ok (.getfield 16, 3) := by decide +kernel
theorem dX11_named_56 : decode cX11_named 56 = .ok (.iload 6, 2) := by decide +kernel
theorem dX11_named_58 : decode cX11_named 58 = .ok (.iload_n 2, 1) := by decide +kernel
theorem dX11_named_59 : decode cX11_named 59 = .ok (.iload_n 3, 1) := by decide +kernel
theorem dX11_named_60 : decode cX11_named 60 = .ok (.iload 4, 2) := by decide +kernel
theorem dX11_named_62 : decode cX11_named 62 = .ok (.iload 5, 2) := by decide +kernel
theorem dX11_named_64 : decode cX11_named 64 = .ok (.invokespecial 273, 3) := by decide +kernel
theorem dX11_named_67 : decode cX11_named 67 = .ok (.areturn, 1) := by decide +kernel
theorem dX11_named_68 : decode cX11_named 68 = .ok (.new 276, 3) := by decide +kernel
theorem dX11_named_71 : decode cX11_named 71 = .ok (.dup, 1) := by decide +kernel
theorem dX11_named_72 : decode cX11_named 72 = .ok (.aload_n 0, 1) := by decide +kernel
theorem dX11_named_73 : decode cX11_named 73 = .ok (.getfield 16, 3) := by decide +kernel
theorem dX11_named_76 : decode cX11_named 76 = .ok (.iload 6, 2) := by decide +kernel
theorem dX11_named_78 : decode cX11_named 78 = .ok (.iload_n 2, 1) := by decide +kernel
theorem dX11_named_79 : decode cX11_named 79 = .ok (.iload_n 3, 1) := by decide +kernel
theorem dX11_named_80 : decode cX11_named 80 = .ok (.iload 4, 2) := by decide +kernel
theorem dX11_named_82 : decode cX11_named 82 = .ok (.iload 5, 2) := by decide +kernel
theorem dX11_named_84 : decode cX11_named 84 = .ok (.invokespecial 278, 3) := by decide +kernel
theorem dX11_named_87 : decode cX11_named 87 = .ok (.areturn, 1) := by decide +kernel
theorem dX11_named_88 : decode cX11_named 88 = .ok (.new 279, 3) := by decide +kernel
theorem dX11_named_91 : decode cX11_named 91 = .ok (.dup, 1) := by decide +kernel
theorem dX11_named_92 : decode cX11_named 92 = .ok (.aload_n 0, 1) := by decide +kernel
theorem dX11_named_93 : decode cX11_named 93 = .ok (.getfield 16, 3) := by decide +kernel
theorem dX11_named_96 : decode cX11_named 96 = .ok (.iload 6, 2) := by decide +kernel
theorem dX11_named_98 : decode cX11_named 98 = .ok (.iload_n 2, 1) := by decide +kernel
theorem dX11_named_99 : decode cX11_named 99 = .ok (.iload_n 3, 1) := by decide +kernel
theorem dX11_named_100 : decode cX11_named 100 = .ok (.iload 4, 2) := by decide +kernel
theorem dX11_named_102 : decode cX11_named 102 = .ok (.iload 5, 2) := by decide +kernel
theorem dX11_named_104 : decode cX11_named 104 = .ok (.invokespecial 281, 3) := by decide +kernel
theorem dX11_named_107 : decode cX11_named 107 = .ok (.areturn, 1) := by decide +kernel
theorem dX11_named_108 : decode cX11_named 108 = .ok (.new 282, 3) := by decide +kernel
theorem dX11_named_111 : decode cX11_named 111 = .ok (.dup, 1) := by decide +kernel
theorem dX11_named_112 : decode cX11_named 112 = .ok (.aload_n 0, 1) := by decide +kernel
theorem dX11_named_113 : decode cX11_named 113 = .ok (.getfield 16, 3) := by decide +kernel
theorem dX11_named_116 : decode cX11_named 116 = .ok (.iload 6, 2) := by decide +kernel
theorem dX11_named_118 : decode cX11_named 118 = .ok (.iload_n 2, 1) := by decide +kernel
theorem dX11_named_119 : decode cX11_named 119 = .ok (.iload_n 3, 1) := by decide +kernel
theorem dX11_named_120 : decode cX11_named 120 = .ok (.iload 4, 2) := by decide +kernel
theorem dX11_named_122 : decode cX11_named 122 = .ok (.iload 5, 2) := by decide +kernel
theorem dX11_named_124 : decode cX11_named 124 = .ok (.invokespecial 284, 3) := by decide +kernel
theorem dX11_named_127 : decode cX11_named 127 = .ok (.areturn, 1) := by decide +kernel
theorem dX11_named_128 : decode cX11_named 128 = .ok (.new 285, 3) := by decide +kernel
theorem dX11_named_131 : decode cX11_named 131 = .ok (.dup, 1) := by decide +kernel
theorem dX11_named_132 : decode cX11_named 132 = .ok (.aload_n 0, 1) := by decide +kernel
theorem dX11_named_133 : decode cX11_named 133 = .ok (.getfield 16, 3) := by decide +kernel
theorem dX11_named_136 : decode cX11_named 136 = .ok (.iload 6, 2) := by decide +kernel
theorem dX11_named_138 : decode cX11_named 138 = .ok (.iload_n 2, 1) := by decide +kernel
theorem dX11_named_139 : decode cX11_named 139 = .ok (.iload_n 3, 1) := by decide +kernel
theorem dX11_named_140 : decode cX11_named 140 = .ok (.iload 4, 2) := by decide +kernel
theorem dX11_named_142 : decode cX11_named 142 = .ok (.iload 5, 2) := by decide +kernel
theorem dX11_named_144 : decode cX11_named 144 = .ok (.invokespecial 287, 3) := by decide +kernel
theorem dX11_named_147 : decode cX11_named 147 = .ok (.areturn, 1) := by decide +kernel
theorem dX11_named_148 : decode cX11_named 148 = .ok (.new 158, 3) := by decide +kernel
theorem dX11_named_151 : decode cX11_named 151 = .ok (.dup, 1) := by decide +kernel
theorem dX11_named_152 : decode cX11_named 152 = .ok (.aload_n 0, 1) := by decide +kernel
theorem dX11_named_153 : decode cX11_named 153 = .ok (.getfield 16, 3) := by decide +kernel
theorem dX11_named_156 : decode cX11_named 156 = .ok (.iload 6, 2) := by decide +kernel
theorem dX11_named_158 : decode cX11_named 158 = .ok (.iload_n 2, 1) := by decide +kernel
theorem dX11_named_159 : decode cX11_named 159 = .ok (.iload_n 3, 1) := by decide +kernel
theorem dX11_named_160 : decode cX11_named 160 = .ok (.iload 4, 2) := by decide +kernel
theorem dX11_named_162 : decode cX11_named 162 = .ok (.iload 5, 2) := by decide +kernel
theorem dX11_named_164 : decode cX11_named 164 = .ok (.invokespecial 288, 3) := by decide +kernel
theorem dX11_named_167 : decode cX11_named 167 = .ok (.areturn, 1) := by decide +kernel
theorem dX11_named_168 : decode cX11_named 168 = .ok (.new 111, 3) := by decide +kernel
theorem dX11_named_171 : decode cX11_named 171 = .ok (.dup, 1) := by decide +kernel
theorem dX11_named_172 : decode cX11_named 172 = .ok (.aload_n 0, 1) := by decide +kernel
theorem dX11_named_173 : decode cX11_named 173 = .ok (.getfield 16, 3) := by decide +kernel
theorem dX11_named_176 : decode cX11_named 176 = .ok (.iload 6, 2) := by decide +kernel
theorem dX11_named_178 : decode cX11_named 178 = .ok (.iload_n 2, 1) := by decide +kernel
theorem dX11_named_179 : decode cX11_named 179 = .ok (.iload_n 3, 1) := by decide +kernel
theorem dX11_named_180 : decode cX11_named 180 = .ok (.iload 4, 2) := by decide +kernel
theorem dX11_named_182 : decode cX11_named 182 = .ok (.iload 5, 2) := by decide +kernel
theorem dX11_named_184 : decode cX11_named 184 = .ok (.invokespecial 289, 3) := by decide +kernel
theorem dX11_named_187 : decode cX11_named 187 = .ok (.areturn, 1) := by decide +kernel
theorem dX11_isOfKind_0 : decode cX11_isOfKind 0 = .ok (.iload_n 1, 1) := by decide +kernel
theorem dX11_isOfKind_1 : decode cX11_isOfKind 1 = .ok (.tableswitch 69 1 6 #[39, 44, 49, 54, 59, 64], 39) := by decide +kernel
theorem dX11_isOfKind_40 : decode cX11_isOfKind 40 = .ok (.aload_n 0, 1) := by decide +kernel
theorem dX11_isOfKind_41 : decode cX11_isOfKind 41 = .ok (.instanceof 271, 3) := by decide +kernel
theorem dX11_isOfKind_44 : decode cX11_isOfKind 44 = .ok (.ireturn, 1) := by decide +kernel
theorem dX11_isOfKind_45 : decode cX11_isOfKind 45 = .ok (.aload_n 0, 1) := by decide +kernel
theorem dX11_isOfKind_46 : decode cX11_isOfKind 46 = .ok (.instanceof 276, 3) := by decide +kernel
theorem dX11_isOfKind_49 : decode cX11_isOfKind 49 = .ok (.ireturn, 1) := by decide +kernel
theorem dX11_isOfKind_50 : decode cX11_isOfKind 50 = .ok (.aload_n 0, 1) := by decide +kernel
theorem dX11_isOfKind_51 : decode cX11_isOfKind 51 = .ok (.instanceof 279, 3) := by decide +kernel
theorem dX11_isOfKind_54 : decode cX11_isOfKind 54 = .ok (.ireturn, 1) := by decide +kernel
theorem dX11_isOfKind_55 : decode cX11_isOfKind 55 = .ok (.aload_n 0, 1) := by decide +kernel
theorem dX11_isOfKind_56 : decode cX11_isOfKind 56 = .ok (.instanceof 282, 3) := by decide +kernel
theorem dX11_isOfKind_59 : decode cX11_isOfKind 59 = .ok (.ireturn, 1) := by decide +kernel
theorem dX11_isOfKind_60 : decode cX11_isOfKind 60 = .ok (.aload_n 0, 1) := by decide +kernel
theorem dX11_isOfKind_61 : decode cX11_isOfKind 61 = .ok (.instanceof 285, 3) := by decide +kernel
theorem dX11_isOfKind_64 : decode cX11_isOfKind 64 = .ok (.ireturn, 1) := by decide +kernel
theorem dX11_isOfKind_65 : decode cX11_isOfKind 65 = .ok (.aload_n 0, 1) := by decide +kernel
theorem dX11_isOfKind_66 : decode cX11_isOfKind 66 = .ok (.instanceof 158, 3) := by decide +kernel
theorem dX11_isOfKind_69 : decode cX11_isOfKind 69 = .ok (.ireturn, 1) := by decide +kernel
theorem dX11_isOfKind_70 : decode cX11_isOfKind 70 = .ok (.iconst 1, 1) := by decide +kernel
theorem dX11_isOfKind_71 : decode cX11_isOfKind 71 = .ok (.ireturn, 1) := by decide +kernel
theorem dX11_written_0 : decode cX11_written 0 = .ok (.iload_n 2, 1) := by decide +kernel
theorem dX11_written_1 : decode cX11_written 1 = .ok (.iconst (-1), 1) := by decide +kernel
theorem dX11_written_2 : decode cX11_written 2 = .ok (.if_icmp .ne 9, 3) := by decide +kernel
theorem dX11_written_5 : decode cX11_written 5 = .ok (.aload_n 1, 1) := by decide +kernel
theorem dX11_written_6 : decode cX11_written 6 = .ok (.invokevirtual 66, 3) := by decide +kernel
theorem dX11_written_9 : decode cX11_written 9 = .ok (.iconst 0, 1) := by decide +kernel
theorem dX11_written_10 : decode cX11_written 10 = .ok (.ireturn, 1) := by decide +kernel
theorem dX11_written_11 : decode cX11_written 11 = .ok (.aload_n 0, 1) := by decide +kernel
theorem dX11_written_12 : decode cX11_written 12 = .ok (.getfield 23, 3) := by decide +kernel
theorem dX11_written_15 : decode cX11_written 15 = .ok (.iload_n 2, 1) := by decide +kernel
theorem dX11_written_16 : decode cX11_written 16 = .ok (.invokevirtual 151, 3) := by decide +kernel
theorem dX11_written_19 : decode cX11_written 19 = .ok (.ifCond .eq 12, 3) := by decide +kernel
theorem dX11_written_22 : decode cX11_written 22 = .ok (.iload_n 3, 1) := by decide +kernel
theorem dX11_written_23 : decode cX11_written 23 = .ok (.ifCond .lt 8, 3) := by decide +kernel
theorem dX11_written_26 : decode cX11_written 26 = .ok (.iload_n 3, 1) := by decide +kernel
theorem dX11_written_27 : decode cX11_written 27 = .ok (.iconst 4, 1) := by decide +kernel
theorem dX11_written_28 : decode cX11_written 28 = .ok (.if_icmp .le 5, 3) := by decide +kernel
theorem dX11_written_31 : decode cX11_written 31 = .ok (.iconst (-1), 1) := by decide +kernel
theorem dX11_written_32 : decode cX11_written 32 = .ok (.ireturn, 1) := by decide +kernel
theorem dX11_written_33 : decode cX11_written 33 = .ok (.aload_n 1, 1) := by decide +kernel
theorem dX11_written_34 : decode cX11_written 34 = .ok (.invokevirtual 51, 3) := by decide +kernel
theorem dX11_written_37 : decode cX11_written 37 = .ok (.bipush 16, 2) := by decide +kernel
theorem dX11_written_39 : decode cX11_written 39 = .ok (.if_icmp .lt 6, 3) := by decide +kernel
theorem dX11_written_42 : decode cX11_written 42 = .ok (.bipush (-4), 2) := by decide +kernel
theorem dX11_written_44 : decode cX11_written 44 = .ok (.ireturn, 1) := by decide +kernel
theorem dX11_written_45 : decode cX11_written 45 = .ok (.aload_n 1, 1) := by decide +kernel
theorem dX11_written_46 : decode cX11_written 46 = .ok (.iload_n 2, 1) := by decide +kernel
theorem dX11_written_47 : decode cX11_written 47 = .ok (.invokevirtual 55, 3) := by decide +kernel
theorem dX11_written_50 : decode cX11_written 50 = .ok (.aload_n 1, 1) := by decide +kernel
theorem dX11_written_51 : decode cX11_written 51 = .ok (.iload_n 3, 1) := by decide +kernel
theorem dX11_written_52 : decode cX11_written 52 = .ok (.invokevirtual 55, 3) := by decide +kernel
theorem dX11_written_55 : decode cX11_written 55 = .ok (.aload_n 1, 1) := by decide +kernel
theorem dX11_written_56 : decode cX11_written 56 = .ok (.invokevirtual 51, 3) := by decide +kernel
theorem dX11_written_59 : decode cX11_written 59 = .ok (.iconst 2, 1) := by decide +kernel
theorem dX11_written_60 : decode cX11_written 60 = .ok (.idiv, 1) := by decide +kernel
theorem dX11_written_61 : decode cX11_written 61 = .ok (.ireturn, 1) := by decide +kernel
theorem dX11_fraction_0 : decode cX11_fraction 0 = .ok (.iload_n 1, 1) := by decide +kernel
theorem dX11_fraction_1 : decode cX11_fraction 1 = .ok (.ifCond .le 12, 3) := by decide +kernel
theorem dX11_fraction_4 : decode cX11_fraction 4 = .ok (.iload_n 2, 1) := by decide +kernel
theorem dX11_fraction_5 : decode cX11_fraction 5 = .ok (.ifCond .eq 12, 3) := by decide +kernel
theorem dX11_fraction_8 : decode cX11_fraction 8 = .ok (.iload_n 2, 1) := by decide +kernel
theorem dX11_fraction_9 : decode cX11_fraction 9 = .ok (.iconst 1, 1) := by decide +kernel
theorem dX11_fraction_10 : decode cX11_fraction 10 = .ok (.if_icmp .eq 7, 3) := by decide +kernel
theorem dX11_fraction_13 : decode cX11_fraction 13 = .ok (.ldc2_w 231, 3) := by decide +kernel
theorem dX11_fraction_16 : decode cX11_fraction 16 = .ok (.lreturn, 1) := by decide +kernel
theorem dX11_fraction_17 : decode cX11_fraction 17 = .ok (.iload_n 2, 1) := by decide +kernel
theorem dX11_fraction_18 : decode cX11_fraction 18 = .ok (.ifCond .ne 7, 3) := by decide +kernel
theorem dX11_fraction_21 : decode cX11_fraction 21 = .ok (.iload_n 0, 1) := by decide +kernel
theorem dX11_fraction_22 : decode cX11_fraction 22 = .ok (.goto 4, 3) := by decide +kernel
theorem dX11_fraction_25 : decode cX11_fraction 25 = .ok (.iload_n 1, 1) := by decide +kernel
theorem dX11_fraction_26 : decode cX11_fraction 26 = .ok (.istore_n 3, 1) := by decide +kernel
theorem dX11_fraction_27 : decode cX11_fraction 27 = .ok (.iload_n 1, 1) := by decide +kernel
theorem dX11_fraction_28 : decode cX11_fraction 28 = .ok (.istore 4, 2) := by decide +kernel
theorem dX11_fraction_30 : decode cX11_fraction 30 = .ok (.iload 4, 2) := by decide +kernel
theorem dX11_fraction_32 : decode cX11_fraction 32 = .ok (.iconst 1, 1) := by decide +kernel
theorem dX11_fraction_33 : decode cX11_fraction 33 = .ok (.if_icmp .le 29, 3) := by decide +kernel
theorem dX11_fraction_36 : decode cX11_fraction 36 = .ok (.iload_n 0, 1) := by decide +kernel
theorem dX11_fraction_37 : decode cX11_fraction 37 = .ok (.iload 4, 2) := by decide +kernel
theorem dX11_fraction_39 : decode cX11_fraction 39 = .ok (.irem, 1) := by decide +kernel
theorem dX11_fraction_40 : decode cX11_fraction 40 = .ok (.ifCond .ne 16, 3) := by decide +kernel
theorem dX11_fraction_43 : decode cX11_fraction 43 = .ok (.iload_n 1, 1) := by decide +kernel
theorem dX11_fraction_44 : decode cX11_fraction 44 = .ok (.iload 4, 2) := by decide +kernel
theorem dX11_fraction_46 : decode cX11_fraction 46 = .ok (.irem, 1) := by decide +kernel
theorem dX11_fraction_47 : decode cX11_fraction 47 = .ok (.ifCond .ne 9, 3) := by decide +kernel
theorem dX11_fraction_50 : decode cX11_fraction 50 = .ok (.iload_n 3, 1) := by decide +kernel
theorem dX11_fraction_51 : decode cX11_fraction 51 = .ok (.iload 4, 2) := by decide +kernel
theorem dX11_fraction_53 : decode cX11_fraction 53 = .ok (.idiv, 1) := by decide +kernel
theorem dX11_fraction_54 : decode cX11_fraction 54 = .ok (.i2l, 1) := by decide +kernel
theorem dX11_fraction_55 : decode cX11_fraction 55 = .ok (.lreturn, 1) := by decide +kernel
theorem dX11_fraction_56 : decode cX11_fraction 56 = .ok (.iinc 4 (-1), 3) := by decide +kernel
theorem dX11_fraction_59 : decode cX11_fraction 59 = .ok (.goto (-29), 3) := by decide +kernel
theorem dX11_fraction_62 : decode cX11_fraction 62 = .ok (.iload_n 3, 1) := by decide +kernel
theorem dX11_fraction_63 : decode cX11_fraction 63 = .ok (.i2l, 1) := by decide +kernel
theorem dX11_fraction_64 : decode cX11_fraction 64 = .ok (.lreturn, 1) := by decide +kernel
theorem dX12_init_0 : decode cX12_init 0 = .ok (.aload_n 0, 1) := by decide +kernel
theorem dX12_init_1 : decode cX12_init 1 = .ok (.invokespecial 3, 3) := by decide +kernel
theorem dX12_init_4 : decode cX12_init 4 = .ok (.aload_n 0, 1) := by decide +kernel
theorem dX12_init_5 : decode cX12_init 5 = .ok (.sipush 939, 3) := by decide +kernel
theorem dX12_init_8 : decode cX12_init 8 = .ok (.newarray .int, 2) := by decide +kernel
theorem dX12_init_10 : decode cX12_init 10 = .ok (.putfield 9, 3) := by decide +kernel
theorem dX12_init_13 : decode cX12_init 13 = .ok (.aload_n 0, 1) := by decide +kernel
theorem dX12_init_14 : decode cX12_init 14 = .ok (.sipush 939, 3) := by decide +kernel
theorem dX12_init_17 : decode cX12_init 17 = .ok (.newarray .int, 2) := by decide +kernel
theorem dX12_init_19 : decode cX12_init 19 = .ok (.putfield 15, 3) := by decide +kernel
theorem dX12_init_22 : decode cX12_init 22 = .ok (.aload_n 0, 1) := by decide +kernel
theorem dX12_init_23 : decode cX12_init 23 = .ok (.bipush 6, 2) := by decide +kernel
theorem dX12_init_25 : decode cX12_init 25 = .ok (.newarray .int, 2) := by decide +kernel
theorem dX12_init_27 : decode cX12_init 27 = .ok (.putfield 18, 3) := by decide +kernel
theorem dX12_init_30 : decode cX12_init 30 = .ok (.aload_n 0, 1) := by decide +kernel
theorem dX12_init_31 : decode cX12_init 31 = .ok (.bipush 64, 2) := by decide +kernel
theorem dX12_init_33 : decode cX12_init 33 = .ok (.newarray .boolean, 2) := by decide +kernel
theorem dX12_init_35 : decode cX12_init 35 = .ok (.putfield 21, 3) := by decide +kernel
theorem dX12_init_38 : decode cX12_init 38 = .ok (.aload_n 0, 1) := by decide +kernel
theorem dX12_init_39 : decode cX12_init 39 = .ok (.bipush 28, 2) := by decide +kernel
theorem dX12_init_41 : decode cX12_init 41 = .ok (.newarray .boolean, 2) := by decide +kernel
theorem dX12_init_43 : decode cX12_init 43 = .ok (.putfield 25, 3) := by decide +kernel
theorem dX12_init_46 : decode cX12_init 46 = .ok (.aload_n 0, 1) := by decide +kernel
theorem dX12_init_47 : decode cX12_init 47 = .ok (.bipush 28, 2) := by decide +kernel
theorem dX12_init_49 : decode cX12_init 49 = .ok (.newarray .int, 2) := by decide +kernel
theorem dX12_init_51 : decode cX12_init 51 = .ok (.putfield 28, 3) := by decide +kernel
theorem dX12_init_54 : decode cX12_init 54 = .ok (.aload_n 0, 1) := by decide +kernel
theorem dX12_init_55 : decode cX12_init 55 = .ok (.bipush 28, 2) := by decide +kernel
theorem dX12_init_57 : decode cX12_init 57 = .ok (.newarray .int, 2) := by decide +kernel
theorem dX12_init_59 : decode cX12_init 59 = .ok (.putfield 31, 3) := by decide +kernel
theorem dX12_init_62 : decode cX12_init 62 = .ok (.aload_n 0, 1) := by decide +kernel
theorem dX12_init_63 : decode cX12_init 63 = .ok (.bipush 7, 2) := by decide +kernel
theorem dX12_init_65 : decode cX12_init 65 = .ok (.newarray .int, 2) := by decide +kernel
theorem dX12_init_67 : decode cX12_init 67 = .ok (.putfield 34, 3) := by decide +kernel
theorem dX12_init_70 : decode cX12_init 70 = .ok (.aload_n 0, 1) := by decide +kernel
theorem dX12_init_71 : decode cX12_init 71 = .ok (.bipush 7, 2) := by decide +kernel
theorem dX12_init_73 : decode cX12_init 73 = .ok (.newarray .int, 2) := by decide +kernel
theorem dX12_init_75 : decode cX12_init 75 = .ok (.putfield 37, 3) := by decide +kernel
theorem dX12_init_78 : decode cX12_init 78 = .ok (.aload_n 0, 1) := by decide +kernel
theorem dX12_init_79 : decode cX12_init 79 = .ok (.bipush 7, 2) := by decide +kernel
theorem dX12_init_81 : decode cX12_init 81 = .ok (.newarray .int, 2) := by decide +kernel
theorem dX12_init_83 : decode cX12_init 83 = .ok (.putfield 40, 3) := by decide +kernel
theorem dX12_init_86 : decode cX12_init 86 = .ok (.aload_n 0, 1) := by decide +kernel
theorem dX12_init_87 : decode cX12_init 87 = .ok (.bipush 7, 2) := by decide +kernel
theorem dX12_init_89 : decode cX12_init 89 = .ok (.newarray .int, 2) := by decide +kernel
theorem dX12_init_91 : decode cX12_init 91 = .ok (.putfield 43, 3) := by decide +kernel
theorem dX12_init_94 : decode cX12_init 94 = .ok (.aload_n 0, 1) := by decide +kernel
theorem dX12_init_95 : decode cX12_init 95 = .ok (.bipush 7, 2) := by decide +kernel
theorem dX12_init_97 : decode cX12_init 97 = .ok (.newarray .int, 2) := by decide +kernel
theorem dX12_init_99 : decode cX12_init 99 = .ok (.putfield 46, 3) := by decide +kernel
theorem dX12_init_102 : decode cX12_init 102 = .ok (.aload_n 0, 1) := by decide +kernel
theorem dX12_init_103 : decode cX12_init 103 = .ok (.bipush 20, 2) := by decide +kernel
theorem dX12_init_105 : decode cX12_init 105 = .ok (.newarray .int, 2) := by decide +kernel
theorem dX12_init_107 : decode cX12_init 107 = .ok (.putfield 49, 3) := by decide +kernel
theorem dX12_init_110 : decode cX12_init 110 = .ok (.aload_n 0, 1) := by decide +kernel
theorem dX12_init_111 : decode cX12_init 111 = .ok (.getfield 9, 3) := by decide +kernel
theorem dX12_init_114 : decode cX12_init 114 = .ok (.bipush 6, 2) := by decide +kernel
theorem dX12_init_116 : decode cX12_init 116 = .ok (.iconst (-1), 1) := by decide +kernel
theorem dX12_init_117 : decode cX12_init 117 = .ok (.iastore, 1) := by decide +kernel
theorem dX12_init_118 : decode cX12_init 118 = .ok (.return_, 1) := by decide +kernel
theorem dX12_in_0 : decode cX12_in 0 = .ok (.iload_n 0, 1) := by decide +kernel
theorem dX12_in_1 : decode cX12_in 1 = .ok (.iload_n 1, 1) := by decide +kernel
theorem dX12_in_2 : decode cX12_in 2 = .ok (.if_icmp .lt 12, 3) := by decide +kernel
theorem dX12_in_5 : decode cX12_in 5 = .ok (.iload_n 0, 1) := by decide +kernel
theorem dX12_in_6 : decode cX12_in 6 = .ok (.iload_n 2, 1) := by decide +kernel
theorem dX12_in_7 : decode cX12_in 7 = .ok (.if_icmp .gt 7, 3) := by decide +kernel
theorem dX12_in_10 : decode cX12_in 10 = .ok (.iconst 1, 1) := by decide +kernel
theorem dX12_in_11 : decode cX12_in 11 = .ok (.goto 4, 3) := by decide +kernel
theorem dX12_in_14 : decode cX12_in 14 = .ok (.iconst 0, 1) := by decide +kernel
theorem dX12_in_15 : decode cX12_in 15 = .ok (.ireturn, 1) := by decide +kernel
theorem dX12_within_0 : decode cX12_within 0 = .ok (.iload_n 0, 1) := by decide +kernel
theorem dX12_within_1 : decode cX12_within 1 = .ok (.iload_n 1, 1) := by decide +kernel
theorem dX12_within_2 : decode cX12_within 2 = .ok (.if_icmp .ge 7, 3) := by decide +kernel
theorem dX12_within_5 : decode cX12_within 5 = .ok (.iload_n 1, 1) := by decide +kernel
theorem dX12_within_6 : decode cX12_within 6 = .ok (.goto 13, 3) := by decide +kernel
theorem dX12_within_9 : decode cX12_within 9 = .ok (.iload_n 0, 1) := by decide +kernel
theorem dX12_within_10 : decode cX12_within 10 = .ok (.iload_n 2, 1) := by decide +kernel
theorem dX12_within_11 : decode cX12_within 11 = .ok (.if_icmp .le 7, 3) := by decide +kernel
theorem dX12_within_14 : decode cX12_within 14 = .ok (.iload_n 2, 1) := by decide +kernel
theorem dX12_within_15 : decode cX12_within 15 = .ok (.goto 4, 3) := by decide +kernel
theorem dX12_within_18 : decode cX12_within 18 = .ok (.iload_n 0, 1) := by decide +kernel
theorem dX12_within_19 : decode cX12_within 19 = .ok (.ireturn, 1) := by decide +kernel
theorem dX12_apart_0 : decode cX12_apart 0 = .ok (.iload_n 0, 1) := by decide +kernel
theorem dX12_apart_1 : decode cX12_apart 1 = .ok (.iload_n 1, 1) := by decide +kernel
theorem dX12_apart_2 : decode cX12_apart 2 = .ok (.if_icmp .ge 9, 3) := by decide +kernel
theorem dX12_apart_5 : decode cX12_apart 5 = .ok (.iload_n 1, 1) := by decide +kernel
theorem dX12_apart_6 : decode cX12_apart 6 = .ok (.iload_n 0, 1) := by decide +kernel
theorem dX12_apart_7 : decode cX12_apart 7 = .ok (.isub, 1) := by decide +kernel
theorem dX12_apart_8 : decode cX12_apart 8 = .ok (.goto 6, 3) := by decide +kernel
theorem dX12_apart_11 : decode cX12_apart 11 = .ok (.iload_n 0, 1) := by decide +kernel
theorem dX12_apart_12 : decode cX12_apart 12 = .ok (.iload_n 1, 1) := by decide +kernel
theorem dX12_apart_13 : decode cX12_apart 13 = .ok (.isub, 1) := by decide +kernel
theorem dX12_apart_14 : decode cX12_apart 14 = .ok (.ireturn, 1) := by decide +kernel
theorem dX12_isName_0 : decode cX12_isName 0 = .ok (.iload_n 1, 1) := by decide +kernel
theorem dX12_isName_1 : decode cX12_isName 1 = .ok (.iconst 0, 1) := by decide +kernel
theorem dX12_isName_2 : decode cX12_isName 2 = .ok (.aload_n 0, 1) := by decide +kernel
theorem dX12_isName_3 : decode cX12_isName 3 = .ok (.getfield 9, 3) := by decide +kernel
theorem dX12_isName_6 : decode cX12_isName 6 = .ok (.iconst 0, 1) := by decide +kernel
theorem dX12_isName_7 : decode cX12_isName 7 = .ok (.iaload, 1) := by decide +kernel
theorem dX12_isName_8 : decode cX12_isName 8 = .ok (.iconst 1, 1) := by decide +kernel
theorem dX12_isName_9 : decode cX12_isName 9 = .ok (.isub, 1) := by decide +kernel
theorem dX12_isName_10 : decode cX12_isName 10 = .ok (.invokestatic 56, 3) := by decide +kernel
theorem dX12_isName_13 : decode cX12_isName 13 = .ok (.ireturn, 1) := by decide +kernel
theorem dX12_isPlace_0 : decode cX12_isPlace 0 = .ok (.iload_n 0, 1) := by decide +kernel
theorem dX12_isPlace_1 : decode cX12_isPlace 1 = .ok (.iconst 0, 1) := by decide +kernel
theorem dX12_isPlace_2 : decode cX12_isPlace 2 = .ok (.iconst 3, 1) := by decide +kernel
theorem dX12_isPlace_3 : decode cX12_isPlace 3 = .ok (.invokestatic 56, 3) := by decide +kernel
theorem dX12_isPlace_6 : decode cX12_isPlace 6 = .ok (.ireturn, 1) := by decide +kernel
theorem dX12_orNone_0 : decode cX12_orNone 0 = .ok (.iload_n 0, 1) := by decide +kernel
theorem dX12_orNone_1 : decode cX12_orNone 1 = .ok (.iconst 4, 1) := by decide +kernel
theorem dX12_orNone_2 : decode cX12_orNone 2 = .ok (.if_icmp .ne 8, 3) := by decide +kernel
theorem dX12_orNone_5 : decode cX12_orNone 5 = .ok (.bipush (-5), 2) := by decide +kernel
theorem dX12_orNone_7 : decode cX12_orNone 7 = .ok (.goto 4, 3) := by decide +kernel
theorem dX12_orNone_10 : decode cX12_orNone 10 = .ok (.iload_n 0, 1) := by decide +kernel
theorem dX12_orNone_11 : decode cX12_orNone 11 = .ok (.ireturn, 1) := by decide +kernel
theorem dX12_feed_0 : decode cX12_feed 0 = .ok (.iload_n 1, 1) := by decide +kernel
theorem dX12_feed_1 : decode cX12_feed 1 = .ok (.iconst 0, 1) := by decide +kernel
theorem dX12_feed_2 : decode cX12_feed 2 = .ok (.bipush 127, 2) := by decide +kernel
theorem dX12_feed_4 : decode cX12_feed 4 = .ok (.invokestatic 56, 3) := by decide +kernel
theorem dX12_feed_7 : decode cX12_feed 7 = .ok (.ifCond .ne 6, 3) := by decide +kernel
theorem dX12_feed_10 : decode cX12_feed 10 = .ok (.bipush (-2), 2) := by decide +kernel
theorem dX12_feed_12 : decode cX12_feed 12 = .ok (.ireturn, 1) := by decide +kernel
theorem dX12_feed_13 : decode cX12_feed 13 = .ok (.aload_n 0, 1) := by decide +kernel
theorem dX12_feed_14 : decode cX12_feed 14 = .ok (.getfield 9, 3) := by decide +kernel
theorem dX12_feed_17 : decode cX12_feed 17 = .ok (.iconst 5, 1) := by decide +kernel
theorem dX12_feed_18 : decode cX12_feed 18 = .ok (.iaload, 1) := by decide +kernel
theorem dX12_feed_19 : decode cX12_feed 19 = .ok (.bipush 100, 2) := by decide +kernel
theorem dX12_feed_21 : decode cX12_feed 21 = .ok (.if_icmp .ne 6, 3) := by decide +kernel
theorem dX12_feed_24 : decode cX12_feed 24 = .ok (.bipush (-4), 2) := by decide +kernel
theorem dX12_feed_26 : decode cX12_feed 26 = .ok (.ireturn, 1) := by decide +kernel
theorem dX12_feed_27 : decode cX12_feed 27 = .ok (.aload_n 0, 1) := by decide +kernel
theorem dX12_feed_28 : decode cX12_feed 28 = .ok (.getfield 9, 3) := by decide +kernel
theorem dX12_feed_31 : decode cX12_feed 31 = .ok (.bipush 124, 2) := by decide +kernel
theorem dX12_feed_33 : decode cX12_feed 33 = .ok (.aload_n 0, 1) := by decide +kernel
theorem dX12_feed_34 : decode cX12_feed 34 = .ok (.getfield 9, 3) := by decide +kernel
theorem dX12_feed_37 : decode cX12_feed 37 = .ok (.iconst 5, 1) := by decide +kernel
theorem dX12_feed_38 : decode cX12_feed 38 = .ok (.iaload, 1) := by decide +kernel
theorem dX12_feed_39 : decode cX12_feed 39 = .ok (.iadd, 1) := by decide +kernel
theorem dX12_feed_40 : decode cX12_feed 40 = .ok (.iload_n 1, 1) := by decide +kernel
theorem dX12_feed_41 : decode cX12_feed 41 = .ok (.iastore, 1) := by decide +kernel
theorem dX12_feed_42 : decode cX12_feed 42 = .ok (.aload_n 0, 1) := by decide +kernel
theorem dX12_feed_43 : decode cX12_feed 43 = .ok (.getfield 9, 3) := by decide +kernel
theorem dX12_feed_46 : decode cX12_feed 46 = .ok (.iconst 5, 1) := by decide +kernel
theorem dX12_feed_47 : decode cX12_feed 47 = .ok (.dup2, 1) := by decide +kernel
theorem dX12_feed_48 : decode cX12_feed 48 = .ok (.iaload, 1) := by decide +kernel
theorem dX12_feed_49 : decode cX12_feed 49 = .ok (.iconst 1, 1) := by decide +kernel
theorem dX12_feed_50 : decode cX12_feed 50 = .ok (.iadd, 1) := by decide +kernel
theorem dX12_feed_51 : decode cX12_feed 51 = .ok (.iastore, 1) := by decide +kernel
theorem dX12_feed_52 : decode cX12_feed 52 = .ok (.aload_n 0, 1) := by decide +kernel
theorem dX12_feed_53 : decode cX12_feed 53 = .ok (.getfield 9, 3) := by decide +kernel
theorem dX12_feed_56 : decode cX12_feed 56 = .ok (.iconst 5, 1) := by decide +kernel
theorem dX12_feed_57 : decode cX12_feed 57 = .ok (.iaload, 1) := by decide +kernel
theorem dX12_feed_58 : decode cX12_feed 58 = .ok (.ireturn, 1) := by decide +kernel
theorem dX12_here_0 : decode cX12_here 0 = .ok (.aload_n 0, 1) := by decide +kernel
theorem dX12_here_1 : decode cX12_here 1 = .ok (.getfield 60, 3) := by decide +kernel
theorem dX12_here_4 : decode cX12_here 4 = .ok (.aload_n 0, 1) := by decide +kernel
theorem dX12_here_5 : decode cX12_here 5 = .ok (.getfield 63, 3) := by decide +kernel
theorem dX12_here_8 : decode cX12_here 8 = .ok (.if_icmp .ge 18, 3) := by decide +kernel
theorem dX12_here_11 : decode cX12_here 11 = .ok (.aload_n 0, 1) := by decide +kernel
theorem dX12_here_12 : decode cX12_here 12 = .ok (.getfield 9, 3) := by decide +kernel
theorem dX12_here_15 : decode cX12_here 15 = .ok (.bipush 124, 2) := by decide +kernel
theorem dX12_here_17 : decode cX12_here 17 = .ok (.aload_n 0, 1) := by decide +kernel
theorem dX12_here_18 : decode cX12_here 18 = .ok (.getfield 60, 3) := by decide +kernel
theorem dX12_here_21 : decode cX12_here 21 = .ok (.iadd, 1) := by decide +kernel
theorem dX12_here_22 : decode cX12_here 22 = .ok (.iaload, 1) := by decide +kernel
theorem dX12_here_23 : decode cX12_here 23 = .ok (.goto 4, 3) := by decide +kernel
theorem dX12_here_26 : decode cX12_here 26 = .ok (.iconst (-1), 1) := by decide +kernel
theorem dX12_here_27 : decode cX12_here 27 = .ok (.ireturn, 1) := by decide +kernel
theorem dX12_must_0 : decode cX12_must 0 = .ok (.aload_n 0, 1) := by decide +kernel
theorem dX12_must_1 : decode cX12_must 1 = .ok (.aload_n 0, 1) := by decide +kernel
theorem dX12_must_2 : decode cX12_must 2 = .ok (.getfield 66, 3) := by decide +kernel
theorem dX12_must_5 : decode cX12_must 5 = .ok (.ifCond .ne 11, 3) := by decide +kernel
theorem dX12_must_8 : decode cX12_must 8 = .ok (.aload_n 0, 1) := by decide +kernel
theorem dX12_must_9 : decode cX12_must 9 = .ok (.invokevirtual 70, 3) := by decide +kernel
theorem dX12_must_12 : decode cX12_must 12 = .ok (.iload_n 1, 1) := by decide +kernel
theorem dX12_must_13 : decode cX12_must 13 = .ok (.if_icmp .eq 7, 3) := by decide +kernel
theorem dX12_must_16 : decode cX12_must 16 = .ok (.iconst 1, 1) := by decide +kernel
theorem dX12_must_17 : decode cX12_must 17 = .ok (.goto 4, 3) := by decide +kernel
theorem dX12_must_20 : decode cX12_must 20 = .ok (.iconst 0, 1) := by decide +kernel
theorem dX12_must_21 : decode cX12_must 21 = .ok (.putfield 66, 3) := by decide +kernel
theorem dX12_must_24 : decode cX12_must 24 = .ok (.aload_n 0, 1) := by decide +kernel
theorem dX12_must_25 : decode cX12_must 25 = .ok (.dup, 1) := by decide +kernel
theorem dX12_must_26 : decode cX12_must 26 = .ok (.getfield 60, 3) := by decide +kernel
theorem dX12_must_29 : decode cX12_must 29 = .ok (.aload_n 0, 1) := by decide +kernel
theorem dX12_must_30 : decode cX12_must 30 = .ok (.getfield 66, 3) := by decide +kernel
theorem dX12_must_33 : decode cX12_must 33 = .ok (.ifCond .eq 7, 3) := by decide +kernel
theorem dX12_must_36 : decode cX12_must 36 = .ok (.iconst 0, 1) := by decide +kernel
theorem dX12_must_37 : decode cX12_must 37 = .ok (.goto 4, 3) := by decide +kernel
theorem dX12_must_40 : decode cX12_must 40 = .ok (.iconst 1, 1) := by decide +kernel
theorem dX12_must_41 : decode cX12_must 41 = .ok (.iadd, 1) := by decide +kernel
theorem dX12_must_42 : decode cX12_must 42 = .ok (.putfield 60, 3) := by decide +kernel
theorem dX12_must_45 : decode cX12_must 45 = .ok (.return_, 1) := by decide +kernel
theorem dX12_spells_0 : decode cX12_spells 0 = .ok (.iconst 0, 1) := by decide +kernel
theorem dX12_spells_1 : decode cX12_spells 1 = .ok (.istore_n 2, 1) := by decide +kernel
theorem dX12_spells_2 : decode cX12_spells 2 = .ok (.iload_n 2, 1) := by decide +kernel
theorem dX12_spells_3 : decode cX12_spells 3 = .ok (.aload_n 1, 1) := by decide +kernel
theorem dX12_spells_4 : decode cX12_spells 4 = .ok (.invokevirtual 74, 3) := by decide +kernel
theorem dX12_spells_7 : decode cX12_spells 7 = .ok (.if_icmp .ge 18, 3) := by decide +kernel
theorem dX12_spells_10 : decode cX12_spells 10 = .ok (.aload_n 0, 1) := by decide +kernel
theorem dX12_spells_11 : decode cX12_spells 11 = .ok (.aload_n 1, 1) := by decide +kernel
theorem dX12_spells_12 : decode cX12_spells 12 = .ok (.iload_n 2, 1) := by decide +kernel
theorem dX12_spells_13 : decode cX12_spells 13 = .ok (.invokevirtual 79, 3) := by decide +kernel
theorem dX12_spells_16 : decode cX12_spells 16 = .ok (.invokevirtual 83, 3) := by decide +kernel
theorem dX12_spells_19 : decode cX12_spells 19 = .ok (.iinc 2 1, 3) := by decide +kernel
theorem dX12_spells_22 : decode cX12_spells 22 = .ok (.goto (-20), 3) := by decide +kernel
theorem dX12_spells_25 : decode cX12_spells 25 = .ok (.return_, 1) := by decide +kernel
theorem dX12_figures_0 : decode cX12_figures 0 = .ok (.aload_n 0, 1) := by decide +kernel
theorem dX12_figures_1 : decode cX12_figures 1 = .ok (.aload_n 0, 1) := by decide +kernel
theorem dX12_figures_2 : decode cX12_figures 2 = .ok (.getfield 66, 3) := by decide +kernel
theorem dX12_figures_5 : decode cX12_figures 5 = .ok (.ifCond .ne 17, 3) := by decide +kernel
theorem dX12_figures_8 : decode cX12_figures 8 = .ok (.aload_n 0, 1) := by decide +kernel
theorem dX12_figures_9 : decode cX12_figures 9 = .ok (.invokevirtual 70, 3) := by decide +kernel
theorem dX12_figures_12 : decode cX12_figures 12 = .ok (.bipush 48, 2) := by decide +kernel
theorem dX12_figures_14 : decode cX12_figures 14 = .ok (.bipush 57, 2) := by decide +kernel
theorem dX12_figures_16 : decode cX12_figures 16 = .ok (.invokestatic 56, 3) := by decide +kernel
theorem dX12_figures_19 : decode cX12_figures 19 = .ok (.ifCond .ne 7, 3) := by decide +kernel
theorem dX12_figures_22 : decode cX12_figures 22 = .ok (.iconst 1, 1) := by decide +kernel
theorem dX12_figures_23 : decode cX12_figures 23 = .ok (.goto 4, 3) := by decide +kernel
theorem dX12_figures_26 : decode cX12_figures 26 = .ok (.iconst 0, 1) := by decide +kernel
theorem dX12_figures_27 : decode cX12_figures 27 = .ok (.putfield 66, 3) := by decide +kernel
theorem dX12_figures_30 : decode cX12_figures 30 = .ok (.iconst 0, 1) := by decide +kernel
theorem dX12_figures_31 : decode cX12_figures 31 = .ok (.istore_n 1, 1) := by decide +kernel
theorem dX12_figures_32 : decode cX12_figures 32 = .ok (.iconst 0, 1) := by decide +kernel
theorem dX12_figures_33 : decode cX12_figures 33 = .ok (.istore_n 2, 1) := by decide +kernel
theorem dX12_figures_34 : decode cX12_figures 34 = .ok (.iload_n 2, 1) := by decide +kernel
theorem dX12_figures_35 : decode cX12_figures 35 = .ok (.iconst 2, 1) := by decide +kernel
theorem dX12_figures_36 : decode cX12_figures 36 = .ok (.if_icmp .ge 61, 3) := by decide +kernel
theorem dX12_figures_39 : decode cX12_figures 39 = .ok (.aload_n 0, 1) := by decide +kernel
theorem dX12_figures_40 : decode cX12_figures 40 = .ok (.getfield 66, 3) := by decide +kernel
theorem dX12_figures_43 : decode cX12_figures 43 = .ok (.ifCond .ne 54, 3) := by decide +kernel
theorem dX12_figures_46 : decode cX12_figures 46 = .ok (.aload_n 0, 1) := by decide +kernel
theorem dX12_figures_47 : decode cX12_figures 47 = .ok (.invokevirtual 70, 3) := by decide +kernel
theorem dX12_figures_50 : decode cX12_figures 50 = .ok (.bipush 48, 2) := by decide +kernel
theorem dX12_figures_52 : decode cX12_figures 52 = .ok (.bipush 57, 2) := by decide +kernel
theorem dX12_figures_54 : decode cX12_figures 54 = .ok (.invokestatic 56, 3) := by decide +kernel
theorem dX12_figures_57 : decode cX12_figures 57 = .ok (.ifCond .eq 40, 3) := by decide +kernel
theorem dX12_figures_60 : decode cX12_figures 60 = .ok (.iload_n 2, 1) := by decide +kernel
theorem dX12_figures_61 : decode cX12_figures 61 = .ok (.ifCond .eq 7, 3) := by decide +kernel
theorem dX12_figures_64 : decode cX12_figures 64 = .ok (.iload_n 1, 1) := by decide +kernel
theorem dX12_figures_65 : decode cX12_figures 65 = .ok (.ifCond .le 32, 3) := by decide +kernel
theorem dX12_figures_68 : decode cX12_figures 68 = .ok (.bipush 10, 2) := by decide +kernel
theorem dX12_figures_70 : decode cX12_figures 70 = .ok (.iload_n 1, 1) := by decide +kernel
theorem dX12_figures_71 : decode cX12_figures 71 = .ok (.imul, 1) := by decide +kernel
theorem dX12_figures_72 : decode cX12_figures 72 = .ok (.aload_n 0, 1) := by decide +kernel
theorem dX12_figures_73 : decode cX12_figures 73 = .ok (.invokevirtual 70, 3) := by decide +kernel
theorem dX12_figures_76 : decode cX12_figures 76 = .ok (.iadd, 1) := by decide +kernel
theorem dX12_figures_77 : decode cX12_figures 77 = .ok (.bipush 48, 2) := by decide +kernel
theorem dX12_figures_79 : decode cX12_figures 79 = .ok (.isub, 1) := by decide +kernel
theorem dX12_figures_80 : decode cX12_figures 80 = .ok (.istore_n 1, 1) := by decide +kernel
theorem dX12_figures_81 : decode cX12_figures 81 = .ok (.aload_n 0, 1) := by decide +kernel
theorem dX12_figures_82 : decode cX12_figures 82 = .ok (.dup, 1) := by decide +kernel
theorem dX12_figures_83 : decode cX12_figures 83 = .ok (.getfield 60, 3) := by decide +kernel
theorem dX12_figures_86 : decode cX12_figures 86 = .ok (.iconst 1, 1) := by decide +kernel
theorem dX12_figures_87 : decode cX12_figures 87 = .ok (.iadd, 1) := by decide +kernel
theorem dX12_figures_88 : decode cX12_figures 88 = .ok (.putfield 60, 3) := by decide +kernel
theorem dX12_figures_91 : decode cX12_figures 91 = .ok (.iinc 2 1, 3) := by decide +kernel
theorem dX12_figures_94 : decode cX12_figures 94 = .ok (.goto (-60), 3) := by decide +kernel
theorem dX12_figures_97 : decode cX12_figures 97 = .ok (.iload_n 1, 1) := by decide +kernel
theorem dX12_figures_98 : decode cX12_figures 98 = .ok (.ireturn, 1) := by decide +kernel
theorem dX12_among_0 : decode cX12_among 0 = .ok (.iconst 0, 1) := by decide +kernel
theorem dX12_among_1 : decode cX12_among 1 = .ok (.istore_n 2, 1) := by decide +kernel
theorem dX12_among_2 : decode cX12_among 2 = .ok (.iload_n 2, 1) := by decide +kernel
theorem dX12_among_3 : decode cX12_among 3 = .ok (.aload_n 1, 1) := by decide +kernel
theorem dX12_among_4 : decode cX12_among 4 = .ok (.invokevirtual 74, 3) := by decide +kernel
theorem dX12_among_7 : decode cX12_among 7 = .ok (.if_icmp .ge 33, 3) := by decide +kernel
theorem dX12_among_10 : decode cX12_among 10 = .ok (.aload_n 0, 1) := by decide +kernel
theorem dX12_among_11 : decode cX12_among 11 = .ok (.invokevirtual 70, 3) := by decide +kernel
theorem dX12_among_14 : decode cX12_among 14 = .ok (.aload_n 1, 1) := by decide +kernel
theorem dX12_among_15 : decode cX12_among 15 = .ok (.iload_n 2, 1) := by decide +kernel
theorem dX12_among_16 : decode cX12_among 16 = .ok (.invokevirtual 79, 3) := by decide +kernel
theorem dX12_among_19 : decode cX12_among 19 = .ok (.if_icmp .ne 15, 3) := by decide +kernel
theorem dX12_among_22 : decode cX12_among 22 = .ok (.aload_n 0, 1) := by decide +kernel
theorem dX12_among_23 : decode cX12_among 23 = .ok (.dup, 1) := by decide +kernel
theorem dX12_among_24 : decode cX12_among 24 = .ok (.getfield 60, 3) := by decide +kernel
theorem dX12_among_27 : decode cX12_among 27 = .ok (.iconst 1, 1) := by decide +kernel
theorem dX12_among_28 : decode cX12_among 28 = .ok (.iadd, 1) := by decide +kernel
theorem dX12_among_29 : decode cX12_among 29 = .ok (.putfield 60, 3) := by decide +kernel
theorem dX12_among_32 : decode cX12_among 32 = .ok (.iload_n 2, 1) := by decide +kernel
theorem dX12_among_33 : decode cX12_among 33 = .ok (.ireturn, 1) := by decide +kernel
theorem dX12_among_34 : decode cX12_among 34 = .ok (.iinc 2 1, 3) := by decide +kernel
theorem dX12_among_37 : decode cX12_among 37 = .ok (.goto (-35), 3) := by decide +kernel
theorem dX12_among_40 : decode cX12_among 40 = .ok (.iconst (-1), 1) := by decide +kernel
theorem dX12_among_41 : decode cX12_among 41 = .ok (.ireturn, 1) := by decide +kernel
theorem dX12_emits_0 : decode cX12_emits 0 = .ok (.aload_n 0, 1) := by decide +kernel
theorem dX12_emits_1 : decode cX12_emits 1 = .ok (.getfield 66, 3) := by decide +kernel
theorem dX12_emits_4 : decode cX12_emits 4 = .ok (.ifCond .ne 52, 3) := by decide +kernel
theorem dX12_emits_7 : decode cX12_emits 7 = .ok (.aload_n 0, 1) := by decide +kernel
theorem dX12_emits_8 : decode cX12_emits 8 = .ok (.getfield 9, 3) := by decide +kernel
theorem dX12_emits_11 : decode cX12_emits 11 = .ok (.sipush 239, 3) := by decide +kernel
theorem dX12_emits_14 : decode cX12_emits 14 = .ok (.sipush 140, 3) := by decide +kernel
theorem dX12_emits_17 : decode cX12_emits 17 = .ok (.aload_n 0, 1) := by decide +kernel
theorem dX12_emits_18 : decode cX12_emits 18 = .ok (.getfield 87, 3) := by decide +kernel
theorem dX12_emits_21 : decode cX12_emits 21 = .ok (.imul, 1) := by decide +kernel
theorem dX12_emits_22 : decode cX12_emits 22 = .ok (.iadd, 1) := by decide +kernel
theorem dX12_emits_23 : decode cX12_emits 23 = .ok (.aload_n 0, 1) := by decide +kernel
theorem dX12_emits_24 : decode cX12_emits 24 = .ok (.getfield 9, 3) := by decide +kernel
theorem dX12_emits_27 : decode cX12_emits 27 = .ok (.sipush 234, 3) := by decide +kernel
theorem dX12_emits_30 : decode cX12_emits 30 = .ok (.aload_n 0, 1) := by decide +kernel
theorem dX12_emits_31 : decode cX12_emits 31 = .ok (.getfield 87, 3) := by decide +kernel
theorem dX12_emits_34 : decode cX12_emits 34 = .ok (.iadd, 1) := by decide +kernel
theorem dX12_emits_35 : decode cX12_emits 35 = .ok (.iaload, 1) := by decide +kernel
theorem dX12_emits_36 : decode cX12_emits 36 = .ok (.iadd, 1) := by decide +kernel
theorem dX12_emits_37 : decode cX12_emits 37 = .ok (.iload_n 1, 1) := by decide +kernel
theorem dX12_emits_38 : decode cX12_emits 38 = .ok (.iastore, 1) := by decide +kernel
theorem dX12_emits_39 : decode cX12_emits 39 = .ok (.aload_n 0, 1) := by decide +kernel
theorem dX12_emits_40 : decode cX12_emits 40 = .ok (.getfield 9, 3) := by decide +kernel
theorem dX12_emits_43 : decode cX12_emits 43 = .ok (.sipush 234, 3) := by decide +kernel
theorem dX12_emits_46 : decode cX12_emits 46 = .ok (.aload_n 0, 1) := by decide +kernel
theorem dX12_emits_47 : decode cX12_emits 47 = .ok (.getfield 87, 3) := by decide +kernel
theorem dX12_emits_50 : decode cX12_emits 50 = .ok (.iadd, 1) := by decide +kernel
theorem dX12_emits_51 : decode cX12_emits 51 = .ok (.dup2, 1) := by decide +kernel
theorem dX12_emits_52 : decode cX12_emits 52 = .ok (.iaload, 1) := by decide +kernel
theorem dX12_emits_53 : decode cX12_emits 53 = .ok (.iconst 1, 1) := by decide +kernel
theorem dX12_emits_54 : decode cX12_emits 54 = .ok (.iadd, 1) := by decide +kernel
theorem dX12_emits_55 : decode cX12_emits 55 = .ok (.iastore, 1) := by decide +kernel
theorem dX12_emits_56 : decode cX12_emits 56 = .ok (.return_, 1) := by decide +kernel
theorem dX12_factor_0 : decode cX12_factor 0 = .ok (.aload_n 0, 1) := by decide +kernel
theorem dX12_factor_1 : decode cX12_factor 1 = .ok (.getfield 66, 3) := by decide +kernel
theorem dX12_factor_4 : decode cX12_factor 4 = .ok (.ifCond .eq 4, 3) := by decide +kernel
theorem dX12_factor_7 : decode cX12_factor 7 = .ok (.return_, 1) := by decide +kernel
theorem dX12_factor_8 : decode cX12_factor 8 = .ok (.aload_n 0, 1) := by decide +kernel
theorem dX12_factor_9 : decode cX12_factor 9 = .ok (.invokevirtual 70, 3) := by decide +kernel
theorem dX12_factor_12 : decode cX12_factor 12 = .ok (.istore_n 1, 1) := by decide +kernel
theorem dX12_factor_13 : decode cX12_factor 13 = .ok (.iload_n 1, 1) := by decide +kernel
theorem dX12_factor_14 : decode cX12_factor 14 = .ok (.bipush 33, 2) := by decide +kernel
theorem dX12_factor_16 : decode cX12_factor 16 = .ok (.if_icmp .eq 9, 3) := by decide +kernel
theorem dX12_factor_19 : decode cX12_factor 19 = .ok (.iload_n 1, 1) := by decide +kernel
theorem dX12_factor_20 : decode cX12_factor 20 = .ok (.bipush 40, 2) := by decide +kernel
theorem dX12_factor_22 : decode cX12_factor 22 = .ok (.if_icmp .ne 90, 3) := by decide +kernel
theorem dX12_factor_25 : decode cX12_factor 25 = .ok (.aload_n 0, 1) := by decide +kernel
theorem dX12_factor_26 : decode cX12_factor 26 = .ok (.aload_n 0, 1) := by decide +kernel
theorem dX12_factor_27 : decode cX12_factor 27 = .ok (.getfield 90, 3) := by decide +kernel
theorem dX12_factor_30 : decode cX12_factor 30 = .ok (.iconst 5, 1) := by decide +kernel
theorem dX12_factor_31 : decode cX12_factor 31 = .ok (.if_icmp .ne 7, 3) := by decide +kernel
theorem dX12_factor_34 : decode cX12_factor 34 = .ok (.iconst 1, 1) := by decide +kernel
theorem dX12_factor_35 : decode cX12_factor 35 = .ok (.goto 4, 3) := by decide +kernel
theorem dX12_factor_38 : decode cX12_factor 38 = .ok (.iconst 0, 1) := by decide +kernel
theorem dX12_factor_39 : decode cX12_factor 39 = .ok (.putfield 66, 3) := by decide +kernel
theorem dX12_factor_42 : decode cX12_factor 42 = .ok (.aload_n 0, 1) := by decide +kernel
theorem dX12_factor_43 : decode cX12_factor 43 = .ok (.dup, 1) := by decide +kernel
theorem dX12_factor_44 : decode cX12_factor 44 = .ok (.getfield 90, 3) := by decide +kernel
theorem dX12_factor_47 : decode cX12_factor 47 = .ok (.iconst 1, 1) := by decide +kernel
theorem dX12_factor_48 : decode cX12_factor 48 = .ok (.iadd, 1) := by decide +kernel
theorem dX12_factor_49 : decode cX12_factor 49 = .ok (.putfield 90, 3) := by decide +kernel
theorem dX12_factor_52 : decode cX12_factor 52 = .ok (.aload_n 0, 1) := by decide +kernel
theorem dX12_factor_53 : decode cX12_factor 53 = .ok (.dup, 1) := by decide +kernel
theorem dX12_factor_54 : decode cX12_factor 54 = .ok (.getfield 60, 3) := by decide +kernel
theorem dX12_factor_57 : decode cX12_factor 57 = .ok (.aload_n 0, 1) := by decide +kernel
theorem dX12_factor_58 : decode cX12_factor 58 = .ok (.getfield 66, 3) := by decide +kernel
theorem dX12_factor_61 : decode cX12_factor 61 = .ok (.ifCond .eq 7, 3) := by decide +kernel
theorem dX12_factor_64 : decode cX12_factor 64 = .ok (.iconst 0, 1) := by decide +kernel
theorem dX12_factor_65 : decode cX12_factor 65 = .ok (.goto 4, 3) := by decide +kernel
theorem dX12_factor_68 : decode cX12_factor 68 = .ok (.iconst 1, 1) := by decide +kernel
theorem dX12_factor_69 : decode cX12_factor 69 = .ok (.iadd, 1) := by decide +kernel
theorem dX12_factor_70 : decode cX12_factor 70 = .ok (.putfield 60, 3) := by decide +kernel
theorem dX12_factor_73 : decode cX12_factor 73 = .ok (.iload_n 1, 1) := by decide +kernel
theorem dX12_factor_74 : decode cX12_factor 74 = .ok (.bipush 33, 2) := by decide +kernel
theorem dX12_factor_76 : decode cX12_factor 76 = .ok (.if_icmp .ne 15, 3) := by decide +kernel
theorem dX12_factor_79 : decode cX12_factor 79 = .ok (.aload_n 0, 1) := by decide +kernel
theorem dX12_factor_80 : decode cX12_factor 80 = .ok (.invokevirtual 93, 3) := by decide +kernel
theorem dX12_factor_83 : decode cX12_factor 83 = .ok (.aload_n 0, 1) := by decide +kernel
theorem dX12_factor_84 : decode cX12_factor 84 = .ok (.iconst (-1), 1) := by decide +kernel
theorem dX12_factor_85 : decode cX12_factor 85 = .ok (.invokevirtual 96, 3) := by decide +kernel
theorem dX12_factor_88 : decode cX12_factor 88 = .ok (.goto 13, 3) := by decide +kernel
theorem dX12_factor_91 : decode cX12_factor 91 = .ok (.aload_n 0, 1) := by decide +kernel
theorem dX12_factor_92 : decode cX12_factor 92 = .ok (.invokevirtual 99, 3) := by decide +kernel
theorem dX12_factor_95 : decode cX12_factor 95 = .ok (.aload_n 0, 1) := by decide +kernel
theorem dX12_factor_96 : decode cX12_factor 96 = .ok (.bipush 41, 2) := by decide +kernel
theorem dX12_factor_98 : decode cX12_factor 98 = .ok (.invokevirtual 83, 3) := by decide +kernel
theorem dX12_factor_101 : decode cX12_factor 101 = .ok (.aload_n 0, 1) := by decide +kernel
theorem dX12_factor_102 : decode cX12_factor 102 = .ok (.dup, 1) := by decide +kernel
theorem dX12_factor_103 : decode cX12_factor 103 = .ok (.getfield 90, 3) := by decide +kernel
theorem dX12_factor_106 : decode cX12_factor 106 = .ok (.iconst 1, 1) := by decide +kernel
theorem dX12_factor_107 : decode cX12_factor 107 = .ok (.isub, 1) := by decide +kernel
theorem dX12_factor_108 : decode cX12_factor 108 = .ok (.putfield 90, 3) := by decide +kernel
theorem dX12_factor_111 : decode cX12_factor 111 = .ok (.return_, 1) := by decide +kernel
theorem dX12_factor_112 : decode cX12_factor 112 = .ok (.aload_n 0, 1) := by decide +kernel
theorem dX12_factor_113 : decode cX12_factor 113 = .ok (.ldc 102, 2) := by decide +kernel
theorem dX12_factor_115 : decode cX12_factor 115 = .ok (.invokevirtual 104, 3) := by decide +kernel
theorem dX12_factor_118 : decode cX12_factor 118 = .ok (.istore_n 2, 1) := by decide +kernel
theorem dX12_factor_119 : decode cX12_factor 119 = .ok (.aload_n 0, 1) := by decide +kernel
theorem dX12_factor_120 : decode cX12_factor 120 = .ok (.iload_n 2, 1) := by decide +kernel
theorem dX12_factor_121 : decode cX12_factor 121 = .ok (.iconst (-1), 1) := by decide +kernel
theorem dX12_factor_122 : decode cX12_factor 122 = .ok (.if_icmp .ne 7, 3) := by decide +kernel
theorem dX12_factor_125 : decode cX12_factor 125 = .ok (.iconst 1, 1) := by decide +kernel
theorem dX12_factor_126 : decode cX12_factor 126 = .ok (.goto 4, 3) := by decide +kernel
theorem dX12_factor_129 : decode cX12_factor 129 = .ok (.iconst 0, 1) := by decide +kernel
theorem dX12_factor_130 : decode cX12_factor 130 = .ok (.putfield 66, 3) := by decide +kernel
theorem dX12_factor_133 : decode cX12_factor 133 = .ok (.aload_n 0, 1) := by decide +kernel
theorem dX12_factor_134 : decode cX12_factor 134 = .ok (.getfield 66, 3) := by decide +kernel
theorem dX12_factor_137 : decode cX12_factor 137 = .ok (.ifCond .eq 7, 3) := by decide +kernel
theorem dX12_factor_140 : decode cX12_factor 140 = .ok (.iconst 0, 1) := by decide +kernel
theorem dX12_factor_141 : decode cX12_factor 141 = .ok (.goto 9, 3) := by decide +kernel
theorem dX12_factor_144 : decode cX12_factor 144 = .ok (.aload_n 0, 1) := by decide +kernel
theorem dX12_factor_145 : decode cX12_factor 145 = .ok (.ldc 108, 2) := by decide +kernel
theorem dX12_factor_147 : decode cX12_factor 147 = .ok (.invokevirtual 104, 3) := by decide +kernel
theorem dX12_factor_150 : decode cX12_factor 150 = .ok (.istore_n 3, 1) := by decide +kernel
theorem dX12_factor_151 : decode cX12_factor 151 = .ok (.aload_n 0, 1) := by decide +kernel
theorem dX12_factor_152 : decode cX12_factor 152 = .ok (.aload_n 0, 1) := by decide +kernel
theorem dX12_factor_153 : decode cX12_factor 153 = .ok (.getfield 66, 3) := by decide +kernel
theorem dX12_factor_156 : decode cX12_factor 156 = .ok (.ifCond .ne 8, 3) := by decide +kernel
theorem dX12_factor_159 : decode cX12_factor 159 = .ok (.iload_n 3, 1) := by decide +kernel
theorem dX12_factor_160 : decode cX12_factor 160 = .ok (.iconst (-1), 1) := by decide +kernel
theorem dX12_factor_161 : decode cX12_factor 161 = .ok (.if_icmp .ne 7, 3) := by decide +kernel
theorem dX12_factor_164 : decode cX12_factor 164 = .ok (.iconst 1, 1) := by decide +kernel
theorem dX12_factor_165 : decode cX12_factor 165 = .ok (.goto 4, 3) := by decide +kernel
theorem dX12_factor_168 : decode cX12_factor 168 = .ok (.iconst 0, 1) := by decide +kernel
theorem dX12_factor_169 : decode cX12_factor 169 = .ok (.putfield 66, 3) := by decide +kernel
theorem dX12_factor_172 : decode cX12_factor 172 = .ok (.aload_n 0, 1) := by decide +kernel
theorem dX12_factor_173 : decode cX12_factor 173 = .ok (.invokevirtual 110, 3) := by decide +kernel
theorem dX12_factor_176 : decode cX12_factor 176 = .ok (.istore 4, 2) := by decide +kernel
theorem dX12_factor_178 : decode cX12_factor 178 = .ok (.aload_n 0, 1) := by decide +kernel
theorem dX12_factor_179 : decode cX12_factor 179 = .ok (.iload_n 2, 1) := by decide +kernel
theorem dX12_factor_180 : decode cX12_factor 180 = .ok (.bipush 8, 2) := by decide +kernel
theorem dX12_factor_182 : decode cX12_factor 182 = .ok (.iload_n 3, 1) := by decide +kernel
theorem dX12_factor_183 : decode cX12_factor 183 = .ok (.imul, 1) := by decide +kernel
theorem dX12_factor_184 : decode cX12_factor 184 = .ok (.iadd, 1) := by decide +kernel
theorem dX12_factor_185 : decode cX12_factor 185 = .ok (.bipush 32, 2) := by decide +kernel
theorem dX12_factor_187 : decode cX12_factor 187 = .ok (.iload 4, 2) := by decide +kernel
theorem dX12_factor_189 : decode cX12_factor 189 = .ok (.imul, 1) := by decide +kernel
theorem dX12_factor_190 : decode cX12_factor 190 = .ok (.iadd, 1) := by decide +kernel
theorem dX12_factor_191 : decode cX12_factor 191 = .ok (.invokevirtual 96, 3) := by decide +kernel
theorem dX12_factor_194 : decode cX12_factor 194 = .ok (.return_, 1) := by decide +kernel
theorem dX12_every_0 : decode cX12_every 0 = .ok (.aload_n 0, 1) := by decide +kernel
theorem dX12_every_1 : decode cX12_every 1 = .ok (.invokevirtual 93, 3) := by decide +kernel
theorem dX12_every_4 : decode cX12_every 4 = .ok (.aload_n 0, 1) := by decide +kernel
theorem dX12_every_5 : decode cX12_every 5 = .ok (.getfield 66, 3) := by decide +kernel
theorem dX12_every_8 : decode cX12_every 8 = .ok (.ifCond .ne 35, 3) := by decide +kernel
theorem dX12_every_11 : decode cX12_every 11 = .ok (.aload_n 0, 1) := by decide +kernel
theorem dX12_every_12 : decode cX12_every 12 = .ok (.invokevirtual 70, 3) := by decide +kernel
theorem dX12_every_15 : decode cX12_every 15 = .ok (.bipush 38, 2) := by decide +kernel
theorem dX12_every_17 : decode cX12_every 17 = .ok (.if_icmp .ne 26, 3) := by decide +kernel
theorem dX12_every_20 : decode cX12_every 20 = .ok (.aload_n 0, 1) := by decide +kernel
theorem dX12_every_21 : decode cX12_every 21 = .ok (.dup, 1) := by decide +kernel
theorem dX12_every_22 : decode cX12_every 22 = .ok (.getfield 60, 3) := by decide +kernel
theorem dX12_every_25 : decode cX12_every 25 = .ok (.iconst 1, 1) := by decide +kernel
theorem dX12_every_26 : decode cX12_every 26 = .ok (.iadd, 1) := by decide +kernel
theorem dX12_every_27 : decode cX12_every 27 = .ok (.putfield 60, 3) := by decide +kernel
theorem dX12_every_30 : decode cX12_every 30 = .ok (.aload_n 0, 1) := by decide +kernel
theorem dX12_every_31 : decode cX12_every 31 = .ok (.invokevirtual 93, 3) := by decide +kernel
theorem dX12_every_34 : decode cX12_every 34 = .ok (.aload_n 0, 1) := by decide +kernel
theorem dX12_every_35 : decode cX12_every 35 = .ok (.bipush (-2), 2) := by decide +kernel
theorem dX12_every_37 : decode cX12_every 37 = .ok (.invokevirtual 96, 3) := by decide +kernel
theorem dX12_every_40 : decode cX12_every 40 = .ok (.goto (-36), 3) := by decide +kernel
theorem dX12_every_43 : decode cX12_every 43 = .ok (.return_, 1) := by decide +kernel
theorem dX12_some_0 : decode cX12_some 0 = .ok (.aload_n 0, 1) := by decide +kernel
theorem dX12_some_1 : decode cX12_some 1 = .ok (.invokevirtual 113, 3) := by decide +kernel
theorem dX12_some_4 : decode cX12_some 4 = .ok (.aload_n 0, 1) := by decide +kernel
theorem dX12_some_5 : decode cX12_some 5 = .ok (.getfield 66, 3) := by decide +kernel
theorem dX12_some_8 : decode cX12_some 8 = .ok (.ifCond .ne 35, 3) := by decide +kernel
theorem dX12_some_11 : decode cX12_some 11 = .ok (.aload_n 0, 1) := by decide +kernel
theorem dX12_some_12 : decode cX12_some 12 = .ok (.invokevirtual 70, 3) := by decide +kernel
theorem dX12_some_15 : decode cX12_some 15 = .ok (.bipush 124, 2) := by decide +kernel
theorem dX12_some_17 : decode cX12_some 17 = .ok (.if_icmp .ne 26, 3) := by decide +kernel
theorem dX12_some_20 : decode cX12_some 20 = .ok (.aload_n 0, 1) := by decide +kernel
theorem dX12_some_21 : decode cX12_some 21 = .ok (.dup, 1) := by decide +kernel
theorem dX12_some_22 : decode cX12_some 22 = .ok (.getfield 60, 3) := by decide +kernel
theorem dX12_some_25 : decode cX12_some 25 = .ok (.iconst 1, 1) := by decide +kernel
theorem dX12_some_26 : decode cX12_some 26 = .ok (.iadd, 1) := by decide +kernel
theorem dX12_some_27 : decode cX12_some 27 = .ok (.putfield 60, 3) := by decide +kernel
theorem dX12_some_30 : decode cX12_some 30 = .ok (.aload_n 0, 1) := by decide +kernel
theorem dX12_some_31 : decode cX12_some 31 = .ok (.invokevirtual 113, 3) := by decide +kernel
theorem dX12_some_34 : decode cX12_some 34 = .ok (.aload_n 0, 1) := by decide +kernel
theorem dX12_some_35 : decode cX12_some 35 = .ok (.bipush (-3), 2) := by decide +kernel
theorem dX12_some_37 : decode cX12_some 37 = .ok (.invokevirtual 96, 3) := by decide +kernel
theorem dX12_some_40 : decode cX12_some 40 = .ok (.goto (-36), 3) := by decide +kernel
theorem dX12_some_43 : decode cX12_some 43 = .ok (.return_, 1) := by decide +kernel
theorem dX12_much_0 : decode cX12_much 0 = .ok (.aload_n 0, 1) := by decide +kernel
theorem dX12_much_1 : decode cX12_much 1 = .ok (.aload_n 2, 1) := by decide +kernel
theorem dX12_much_2 : decode cX12_much 2 = .ok (.invokevirtual 116, 3) := by decide +kernel
theorem dX12_much_5 : decode cX12_much 5 = .ok (.aload_n 0, 1) := by decide +kernel
theorem dX12_much_6 : decode cX12_much 6 = .ok (.invokevirtual 110, 3) := by decide +kernel
theorem dX12_much_9 : decode cX12_much 9 = .ok (.istore_n 3, 1) := by decide +kernel
theorem dX12_much_10 : decode cX12_much 10 = .ok (.aload_n 0, 1) := by decide +kernel
theorem dX12_much_11 : decode cX12_much 11 = .ok (.bipush 32, 2) := by decide +kernel
theorem dX12_much_13 : decode cX12_much 13 = .ok (.invokevirtual 83, 3) := by decide +kernel
theorem dX12_much_16 : decode cX12_much 16 = .ok (.aload_n 0, 1) := by decide +kernel
theorem dX12_much_17 : decode cX12_much 17 = .ok (.invokevirtual 99, 3) := by decide +kernel
theorem dX12_much_20 : decode cX12_much 20 = .ok (.aload_n 0, 1) := by decide +kernel
theorem dX12_much_21 : decode cX12_much 21 = .ok (.iload_n 1, 1) := by decide +kernel
theorem dX12_much_22 : decode cX12_much 22 = .ok (.iload_n 3, 1) := by decide +kernel
theorem dX12_much_23 : decode cX12_much 23 = .ok (.isub, 1) := by decide +kernel
theorem dX12_much_24 : decode cX12_much 24 = .ok (.invokevirtual 96, 3) := by decide +kernel
theorem dX12_much_27 : decode cX12_much 27 = .ok (.return_, 1) := by decide +kernel
theorem dX12_tellsHere_0 : decode cX12_tellsHere 0 = .ok (.aload_n 0, 1) := by decide +kernel
theorem dX12_tellsHere_1 : decode cX12_tellsHere 1 = .ok (.aload_n 2, 1) := by decide +kernel
theorem dX12_tellsHere_2 : decode cX12_tellsHere 2 = .ok (.invokevirtual 116, 3) := by decide +kernel
theorem dX12_tellsHere_5 : decode cX12_tellsHere 5 = .ok (.aload_n 0, 1) := by decide +kernel
theorem dX12_tellsHere_6 : decode cX12_tellsHere 6 = .ok (.invokevirtual 110, 3) := by decide +kernel
theorem dX12_tellsHere_9 : decode cX12_tellsHere 9 = .ok (.istore_n 3, 1) := by decide +kernel
theorem dX12_tellsHere_10 : decode cX12_tellsHere 10 = .ok (.aload_n 0, 1) := by decide +kernel
theorem dX12_tellsHere_11 : decode cX12_tellsHere 11 = .ok (.getfield 66, 3) := by decide +kernel
theorem dX12_tellsHere_14 : decode cX12_tellsHere 14 = .ok (.ifCond .ne 15, 3) := by decide +kernel
theorem dX12_tellsHere_17 : decode cX12_tellsHere 17 = .ok (.aload_n 0, 1) := by decide +kernel
theorem dX12_tellsHere_18 : decode cX12_tellsHere 18 = .ok (.getfield 9, 3) := by decide +kernel
theorem dX12_tellsHere_21 : decode cX12_tellsHere 21 = .ok (.iload_n 1, 1) := by decide +kernel
theorem dX12_tellsHere_22 : decode cX12_tellsHere 22 = .ok (.aload_n 0, 1) := by decide +kernel
theorem dX12_tellsHere_23 : decode cX12_tellsHere 23 = .ok (.getfield 87, 3) := by decide +kernel
theorem dX12_tellsHere_26 : decode cX12_tellsHere 26 = .ok (.iadd, 1) := by decide +kernel
theorem dX12_tellsHere_27 : decode cX12_tellsHere 27 = .ok (.iload_n 3, 1) := by decide +kernel
theorem dX12_tellsHere_28 : decode cX12_tellsHere 28 = .ok (.iastore, 1) := by decide +kernel
theorem dX12_tellsHere_29 : decode cX12_tellsHere 29 = .ok (.return_, 1) := by decide +kernel
theorem dX12_clauseHere_0 : decode cX12_clauseHere 0 = .ok (.aload_n 0, 1) := by decide +kernel
theorem dX12_clauseHere_1 : decode cX12_clauseHere 1 = .ok (.invokevirtual 70, 3) := by decide +kernel
theorem dX12_clauseHere_4 : decode cX12_clauseHere 4 = .ok (.lookupswitch 91 #[(98, 79), (108, 68), (114, 56), (119, 44)], 44) := by decide +kernel
theorem dX12_clauseHere_48 : decode cX12_clauseHere 48 = .ok (.aload_n 0, 1) := by decide +kernel
theorem dX12_clauseHere_49 : decode cX12_clauseHere 49 = .ok (.sipush 224, 3) := by decide +kernel
theorem dX12_clauseHere_52 : decode cX12_clauseHere 52 = .ok (.ldc 120, 2) := by decide +kernel
theorem dX12_clauseHere_54 : decode cX12_clauseHere 54 = .ok (.invokevirtual 122, 3) := by decide +kernel
theorem dX12_clauseHere_57 : decode cX12_clauseHere 57 = .ok (.goto 43, 3) := by decide +kernel
theorem dX12_clauseHere_60 : decode cX12_clauseHere 60 = .ok (.aload_n 0, 1) := by decide +kernel
theorem dX12_clauseHere_61 : decode cX12_clauseHere 61 = .ok (.sipush 229, 3) := by decide +kernel
theorem dX12_clauseHere_64 : decode cX12_clauseHere 64 = .ok (.ldc 126, 2) := by decide +kernel
theorem dX12_clauseHere_66 : decode cX12_clauseHere 66 = .ok (.invokevirtual 122, 3) := by decide +kernel
theorem dX12_clauseHere_69 : decode cX12_clauseHere 69 = .ok (.goto 31, 3) := by decide +kernel
theorem dX12_clauseHere_72 : decode cX12_clauseHere 72 = .ok (.aload_n 0, 1) := by decide +kernel
theorem dX12_clauseHere_73 : decode cX12_clauseHere 73 = .ok (.bipush (-10), 2) := by decide +kernel
theorem dX12_clauseHere_75 : decode cX12_clauseHere 75 = .ok (.ldc 128, 2) := by decide +kernel
theorem dX12_clauseHere_77 : decode cX12_clauseHere 77 = .ok (.invokevirtual 130, 3) := by decide +kernel
theorem dX12_clauseHere_80 : decode cX12_clauseHere 80 = .ok (.goto 20, 3) := by decide +kernel
theorem dX12_clauseHere_83 : decode cX12_clauseHere 83 = .ok (.aload_n 0, 1) := by decide +kernel
theorem dX12_clauseHere_84 : decode cX12_clauseHere 84 = .ok (.sipush (-200), 3) := by decide +kernel
theorem dX12_clauseHere_87 : decode cX12_clauseHere 87 = .ok (.ldc 133, 2) := by decide +kernel
theorem dX12_clauseHere_89 : decode cX12_clauseHere 89 = .ok (.invokevirtual 130, 3) := by decide +kernel
theorem dX12_clauseHere_92 : decode cX12_clauseHere 92 = .ok (.goto 8, 3) := by decide +kernel
theorem dX12_clauseHere_95 : decode cX12_clauseHere 95 = .ok (.aload_n 0, 1) := by decide +kernel
theorem dX12_clauseHere_96 : decode cX12_clauseHere 96 = .ok (.iconst 1, 1) := by decide +kernel
theorem dX12_clauseHere_97 : decode cX12_clauseHere 97 = .ok (.putfield 66, 3) := by decide +kernel
theorem dX12_clauseHere_100 : decode cX12_clauseHere 100 = .ok (.return_, 1) := by decide +kernel
theorem dX12_map_0 : decode cX12_map 0 = .ok (.aload_n 0, 1) := by decide +kernel
theorem dX12_map_1 : decode cX12_map 1 = .ok (.getfield 9, 3) := by decide +kernel
theorem dX12_map_4 : decode cX12_map 4 = .ok (.iconst 1, 1) := by decide +kernel
theorem dX12_map_5 : decode cX12_map 5 = .ok (.iaload, 1) := by decide +kernel
theorem dX12_map_6 : decode cX12_map 6 = .ok (.iconst 5, 1) := by decide +kernel
theorem dX12_map_7 : decode cX12_map 7 = .ok (.if_icmp .ne 6, 3) := by decide +kernel
theorem dX12_map_10 : decode cX12_map 10 = .ok (.bipush (-4), 2) := by decide +kernel
theorem dX12_map_12 : decode cX12_map 12 = .ok (.ireturn, 1) := by decide +kernel
theorem dX12_map_13 : decode cX12_map 13 = .ok (.aload_n 0, 1) := by decide +kernel
theorem dX12_map_14 : decode cX12_map 14 = .ok (.aload_n 0, 1) := by decide +kernel
theorem dX12_map_15 : decode cX12_map 15 = .ok (.getfield 9, 3) := by decide +kernel
theorem dX12_map_18 : decode cX12_map 18 = .ok (.iconst 1, 1) := by decide +kernel
theorem dX12_map_19 : decode cX12_map 19 = .ok (.iaload, 1) := by decide +kernel
theorem dX12_map_20 : decode cX12_map 20 = .ok (.putfield 87, 3) := by decide +kernel
theorem dX12_map_23 : decode cX12_map 23 = .ok (.aload_n 0, 1) := by decide +kernel
theorem dX12_map_24 : decode cX12_map 24 = .ok (.aload_n 0, 1) := by decide +kernel
theorem dX12_map_25 : decode cX12_map 25 = .ok (.getfield 9, 3) := by decide +kernel
theorem dX12_map_28 : decode cX12_map 28 = .ok (.iconst 5, 1) := by decide +kernel
theorem dX12_map_29 : decode cX12_map 29 = .ok (.iaload, 1) := by decide +kernel
theorem dX12_map_30 : decode cX12_map 30 = .ok (.putfield 63, 3) := by decide +kernel
theorem dX12_map_33 : decode cX12_map 33 = .ok (.aload_n 0, 1) := by decide +kernel
theorem dX12_map_34 : decode cX12_map 34 = .ok (.getfield 9, 3) := by decide +kernel
theorem dX12_map_37 : decode cX12_map 37 = .ok (.iconst 5, 1) := by decide +kernel
theorem dX12_map_38 : decode cX12_map 38 = .ok (.iconst 0, 1) := by decide +kernel
theorem dX12_map_39 : decode cX12_map 39 = .ok (.iastore, 1) := by decide +kernel
theorem dX12_map_40 : decode cX12_map 40 = .ok (.aload_n 0, 1) := by decide +kernel
theorem dX12_map_41 : decode cX12_map 41 = .ok (.getfield 9, 3) := by decide +kernel
theorem dX12_map_44 : decode cX12_map 44 = .ok (.sipush 224, 3) := by decide +kernel
theorem dX12_map_47 : decode cX12_map 47 = .ok (.aload_n 0, 1) := by decide +kernel
theorem dX12_map_48 : decode cX12_map 48 = .ok (.getfield 87, 3) := by decide +kernel
theorem dX12_map_51 : decode cX12_map 51 = .ok (.iadd, 1) := by decide +kernel
theorem dX12_map_52 : decode cX12_map 52 = .ok (.bipush 24, 2) := by decide +kernel
theorem dX12_map_54 : decode cX12_map 54 = .ok (.iastore, 1) := by decide +kernel
theorem dX12_map_55 : decode cX12_map 55 = .ok (.aload_n 0, 1) := by decide +kernel
theorem dX12_map_56 : decode cX12_map 56 = .ok (.getfield 9, 3) := by decide +kernel
theorem dX12_map_59 : decode cX12_map 59 = .ok (.sipush 229, 3) := by decide +kernel
theorem dX12_map_62 : decode cX12_map 62 = .ok (.aload_n 0, 1) := by decide +kernel
theorem dX12_map_63 : decode cX12_map 63 = .ok (.getfield 87, 3) := by decide +kernel
theorem dX12_map_66 : decode cX12_map 66 = .ok (.iadd, 1) := by decide +kernel
theorem dX12_map_67 : decode cX12_map 67 = .ok (.bipush 99, 2) := by decide +kernel
theorem dX12_map_69 : decode cX12_map 69 = .ok (.iastore, 1) := by decide +kernel
theorem dX12_map_70 : decode cX12_map 70 = .ok (.aload_n 0, 1) := by decide +kernel
theorem dX12_map_71 : decode cX12_map 71 = .ok (.getfield 9, 3) := by decide +kernel
theorem dX12_map_74 : decode cX12_map 74 = .ok (.sipush 234, 3) := by decide +kernel
theorem dX12_map_77 : decode cX12_map 77 = .ok (.aload_n 0, 1) := by decide +kernel
theorem dX12_map_78 : decode cX12_map 78 = .ok (.getfield 87, 3) := by decide +kernel
theorem dX12_map_81 : decode cX12_map 81 = .ok (.iadd, 1) := by decide +kernel
theorem dX12_map_82 : decode cX12_map 82 = .ok (.iconst 0, 1) := by decide +kernel
theorem dX12_map_83 : decode cX12_map 83 = .ok (.iastore, 1) := by decide +kernel
theorem dX12_map_84 : decode cX12_map 84 = .ok (.aload_n 0, 1) := by decide +kernel
theorem dX12_map_85 : decode cX12_map 85 = .ok (.iconst 0, 1) := by decide +kernel
theorem dX12_map_86 : decode cX12_map 86 = .ok (.putfield 60, 3) := by decide +kernel
theorem dX12_map_89 : decode cX12_map 89 = .ok (.aload_n 0, 1) := by decide +kernel
theorem dX12_map_90 : decode cX12_map 90 = .ok (.iconst 0, 1) := by decide +kernel
theorem dX12_map_91 : decode cX12_map 91 = .ok (.putfield 66, 3) := by decide +kernel
theorem dX12_map_94 : decode cX12_map 94 = .ok (.aload_n 0, 1) := by decide +kernel
theorem dX12_map_95 : decode cX12_map 95 = .ok (.iconst 0, 1) := by decide +kernel
theorem dX12_map_96 : decode cX12_map 96 = .ok (.putfield 90, 3) := by decide +kernel
theorem dX12_map_99 : decode cX12_map 99 = .ok (.iconst 1, 1) := by decide +kernel
theorem dX12_map_100 : decode cX12_map 100 = .ok (.istore_n 1, 1) := by decide +kernel
theorem dX12_map_101 : decode cX12_map 101 = .ok (.aload_n 0, 1) := by decide +kernel
theorem dX12_map_102 : decode cX12_map 102 = .ok (.invokevirtual 135, 3) := by decide +kernel
theorem dX12_map_105 : decode cX12_map 105 = .ok (.aload_n 0, 1) := by decide +kernel
theorem dX12_map_106 : decode cX12_map 106 = .ok (.getfield 66, 3) := by decide +kernel
theorem dX12_map_109 : decode cX12_map 109 = .ok (.ifCond .ne 38, 3) := by decide +kernel
theorem dX12_map_112 : decode cX12_map 112 = .ok (.iload_n 1, 1) := by decide +kernel
theorem dX12_map_113 : decode cX12_map 113 = .ok (.bipush 10, 2) := by decide +kernel
theorem dX12_map_115 : decode cX12_map 115 = .ok (.if_icmp .ge 32, 3) := by decide +kernel
theorem dX12_map_118 : decode cX12_map 118 = .ok (.aload_n 0, 1) := by decide +kernel
theorem dX12_map_119 : decode cX12_map 119 = .ok (.invokevirtual 70, 3) := by decide +kernel
theorem dX12_map_122 : decode cX12_map 122 = .ok (.bipush 59, 2) := by decide +kernel
theorem dX12_map_124 : decode cX12_map 124 = .ok (.if_icmp .ne 23, 3) := by decide +kernel
theorem dX12_map_127 : decode cX12_map 127 = .ok (.aload_n 0, 1) := by decide +kernel
theorem dX12_map_128 : decode cX12_map 128 = .ok (.dup, 1) := by decide +kernel
theorem dX12_map_129 : decode cX12_map 129 = .ok (.getfield 60, 3) := by decide +kernel
theorem dX12_map_132 : decode cX12_map 132 = .ok (.iconst 1, 1) := by decide +kernel
theorem dX12_map_133 : decode cX12_map 133 = .ok (.iadd, 1) := by decide +kernel
theorem dX12_map_134 : decode cX12_map 134 = .ok (.putfield 60, 3) := by decide +kernel
theorem dX12_map_137 : decode cX12_map 137 = .ok (.aload_n 0, 1) := by decide +kernel
theorem dX12_map_138 : decode cX12_map 138 = .ok (.invokevirtual 135, 3) := by decide +kernel
theorem dX12_map_141 : decode cX12_map 141 = .ok (.iinc 1 1, 3) := by decide +kernel
theorem dX12_map_144 : decode cX12_map 144 = .ok (.goto (-39), 3) := by decide +kernel
theorem dX12_map_147 : decode cX12_map 147 = .ok (.aload_n 0, 1) := by decide +kernel
theorem dX12_map_148 : decode cX12_map 148 = .ok (.getfield 66, 3) := by decide +kernel
theorem dX12_map_151 : decode cX12_map 151 = .ok (.ifCond .ne 14, 3) := by decide +kernel
theorem dX12_map_154 : decode cX12_map 154 = .ok (.aload_n 0, 1) := by decide +kernel
theorem dX12_map_155 : decode cX12_map 155 = .ok (.getfield 60, 3) := by decide +kernel
theorem dX12_map_158 : decode cX12_map 158 = .ok (.aload_n 0, 1) := by decide +kernel
theorem dX12_map_159 : decode cX12_map 159 = .ok (.getfield 63, 3) := by decide +kernel
theorem dX12_map_162 : decode cX12_map 162 = .ok (.if_icmp .eq 11, 3) := by decide +kernel
theorem dX12_map_165 : decode cX12_map 165 = .ok (.bipush (-10), 2) := by decide +kernel
theorem dX12_map_167 : decode cX12_map 167 = .ok (.aload_n 0, 1) := by decide +kernel
theorem dX12_map_168 : decode cX12_map 168 = .ok (.getfield 60, 3) := by decide +kernel
theorem dX12_map_171 : decode cX12_map 171 = .ok (.isub, 1) := by decide +kernel
theorem dX12_map_172 : decode cX12_map 172 = .ok (.ireturn, 1) := by decide +kernel
theorem dX12_map_173 : decode cX12_map 173 = .ok (.aload_n 0, 1) := by decide +kernel
theorem dX12_map_174 : decode cX12_map 174 = .ok (.getfield 9, 3) := by decide +kernel
theorem dX12_map_177 : decode cX12_map 177 = .ok (.iconst 1, 1) := by decide +kernel
theorem dX12_map_178 : decode cX12_map 178 = .ok (.dup2, 1) := by decide +kernel
theorem dX12_map_179 : decode cX12_map 179 = .ok (.iaload, 1) := by decide +kernel
theorem dX12_map_180 : decode cX12_map 180 = .ok (.iconst 1, 1) := by decide +kernel
theorem dX12_map_181 : decode cX12_map 181 = .ok (.iadd, 1) := by decide +kernel
theorem dX12_map_182 : decode cX12_map 182 = .ok (.iastore, 1) := by decide +kernel
theorem dX12_map_183 : decode cX12_map 183 = .ok (.aload_n 0, 1) := by decide +kernel
theorem dX12_map_184 : decode cX12_map 184 = .ok (.getfield 9, 3) := by decide +kernel
theorem dX12_map_187 : decode cX12_map 187 = .ok (.bipush 6, 2) := by decide +kernel
theorem dX12_map_189 : decode cX12_map 189 = .ok (.aload_n 0, 1) := by decide +kernel
theorem dX12_map_190 : decode cX12_map 190 = .ok (.getfield 87, 3) := by decide +kernel
theorem dX12_map_193 : decode cX12_map 193 = .ok (.iastore, 1) := by decide +kernel
theorem dX12_map_194 : decode cX12_map 194 = .ok (.aload_n 0, 1) := by decide +kernel
theorem dX12_map_195 : decode cX12_map 195 = .ok (.getfield 87, 3) := by decide +kernel
theorem dX12_map_198 : decode cX12_map 198 = .ok (.ireturn, 1) := by decide +kernel
theorem dX12_tellsOf_0 : decode cX12_tellsOf 0 = .ok (.aload_n 0, 1) := by decide +kernel
theorem dX12_tellsOf_1 : decode cX12_tellsOf 1 = .ok (.getfield 9, 3) := by decide +kernel
theorem dX12_tellsOf_4 : decode cX12_tellsOf 4 = .ok (.bipush 6, 2) := by decide +kernel
theorem dX12_tellsOf_6 : decode cX12_tellsOf 6 = .ok (.iaload, 1) := by decide +kernel
theorem dX12_tellsOf_7 : decode cX12_tellsOf 7 = .ok (.iconst (-1), 1) := by decide +kernel
theorem dX12_tellsOf_8 : decode cX12_tellsOf 8 = .ok (.if_icmp .ne 7, 3) := by decide +kernel
theorem dX12_tellsOf_11 : decode cX12_tellsOf 11 = .ok (.iload_n 2, 1) := by decide +kernel
theorem dX12_tellsOf_12 : decode cX12_tellsOf 12 = .ok (.goto 17, 3) := by decide +kernel
theorem dX12_tellsOf_15 : decode cX12_tellsOf 15 = .ok (.aload_n 0, 1) := by decide +kernel
theorem dX12_tellsOf_16 : decode cX12_tellsOf 16 = .ok (.getfield 9, 3) := by decide +kernel
theorem dX12_tellsOf_19 : decode cX12_tellsOf 19 = .ok (.iload_n 1, 1) := by decide +kernel
theorem dX12_tellsOf_20 : decode cX12_tellsOf 20 = .ok (.aload_n 0, 1) := by decide +kernel
theorem dX12_tellsOf_21 : decode cX12_tellsOf 21 = .ok (.getfield 9, 3) := by decide +kernel
theorem dX12_tellsOf_24 : decode cX12_tellsOf 24 = .ok (.bipush 6, 2) := by decide +kernel
theorem dX12_tellsOf_26 : decode cX12_tellsOf 26 = .ok (.iaload, 1) := by decide +kernel
theorem dX12_tellsOf_27 : decode cX12_tellsOf 27 = .ok (.iadd, 1) := by decide +kernel
theorem dX12_tellsOf_28 : decode cX12_tellsOf 28 = .ok (.iaload, 1) := by decide +kernel
theorem dX12_tellsOf_29 : decode cX12_tellsOf 29 = .ok (.ireturn, 1) := by decide +kernel
theorem dX12_wideNow_0 : decode cX12_wideNow 0 = .ok (.aload_n 0, 1) := by decide +kernel
theorem dX12_wideNow_1 : decode cX12_wideNow 1 = .ok (.sipush 224, 3) := by decide +kernel
theorem dX12_wideNow_4 : decode cX12_wideNow 4 = .ok (.bipush 24, 2) := by decide +kernel
theorem dX12_wideNow_6 : decode cX12_wideNow 6 = .ok (.invokevirtual 138, 3) := by decide +kernel
theorem dX12_wideNow_9 : decode cX12_wideNow 9 = .ok (.bipush 10, 2) := by decide +kernel
theorem dX12_wideNow_11 : decode cX12_wideNow 11 = .ok (.bipush 30, 2) := by decide +kernel
theorem dX12_wideNow_13 : decode cX12_wideNow 13 = .ok (.invokestatic 142, 3) := by decide +kernel
theorem dX12_wideNow_16 : decode cX12_wideNow 16 = .ok (.ireturn, 1) := by decide +kernel
theorem dX12_riverNow_0 : decode cX12_riverNow 0 = .ok (.aload_n 0, 1) := by decide +kernel
theorem dX12_riverNow_1 : decode cX12_riverNow 1 = .ok (.sipush 229, 3) := by decide +kernel
theorem dX12_riverNow_4 : decode cX12_riverNow 4 = .ok (.bipush 99, 2) := by decide +kernel
theorem dX12_riverNow_6 : decode cX12_riverNow 6 = .ok (.invokevirtual 138, 3) := by decide +kernel
theorem dX12_riverNow_9 : decode cX12_riverNow 9 = .ok (.ireturn, 1) := by decide +kernel
theorem dX12_looks_0 : decode cX12_looks 0 = .ok (.aload_n 0, 1) := by decide +kernel
theorem dX12_looks_1 : decode cX12_looks 1 = .ok (.getfield 18, 3) := by decide +kernel
theorem dX12_looks_4 : decode cX12_looks 4 = .ok (.iconst 0, 1) := by decide +kernel
theorem dX12_looks_5 : decode cX12_looks 5 = .ok (.iload_n 1, 1) := by decide +kernel
theorem dX12_looks_6 : decode cX12_looks 6 = .ok (.iastore, 1) := by decide +kernel
theorem dX12_looks_7 : decode cX12_looks 7 = .ok (.aload_n 0, 1) := by decide +kernel
theorem dX12_looks_8 : decode cX12_looks 8 = .ok (.getfield 18, 3) := by decide +kernel
theorem dX12_looks_11 : decode cX12_looks 11 = .ok (.iconst 1, 1) := by decide +kernel
theorem dX12_looks_12 : decode cX12_looks 12 = .ok (.aload_n 0, 1) := by decide +kernel
theorem dX12_looks_13 : decode cX12_looks 13 = .ok (.getfield 9, 3) := by decide +kernel
theorem dX12_looks_16 : decode cX12_looks 16 = .ok (.bipush 7, 2) := by decide +kernel
theorem dX12_looks_18 : decode cX12_looks 18 = .ok (.iload_n 1, 1) := by decide +kernel
theorem dX12_looks_19 : decode cX12_looks 19 = .ok (.iadd, 1) := by decide +kernel
theorem dX12_looks_20 : decode cX12_looks 20 = .ok (.iaload, 1) := by decide +kernel
theorem dX12_looks_21 : decode cX12_looks 21 = .ok (.iastore, 1) := by decide +kernel
theorem dX12_looks_22 : decode cX12_looks 22 = .ok (.aload_n 0, 1) := by decide +kernel
theorem dX12_looks_23 : decode cX12_looks 23 = .ok (.getfield 18, 3) := by decide +kernel
theorem dX12_looks_26 : decode cX12_looks 26 = .ok (.iconst 2, 1) := by decide +kernel
theorem dX12_looks_27 : decode cX12_looks 27 = .ok (.aload_n 0, 1) := by decide +kernel
theorem dX12_looks_28 : decode cX12_looks 28 = .ok (.getfield 9, 3) := by decide +kernel
theorem dX12_looks_31 : decode cX12_looks 31 = .ok (.bipush 14, 2) := by decide +kernel
theorem dX12_looks_33 : decode cX12_looks 33 = .ok (.iload_n 1, 1) := by decide +kernel
theorem dX12_looks_34 : decode cX12_looks 34 = .ok (.iadd, 1) := by decide +kernel
theorem dX12_looks_35 : decode cX12_looks 35 = .ok (.iaload, 1) := by decide +kernel
theorem dX12_looks_36 : decode cX12_looks 36 = .ok (.iastore, 1) := by decide +kernel
theorem dX12_looks_37 : decode cX12_looks 37 = .ok (.aload_n 0, 1) := by decide +kernel
theorem dX12_looks_38 : decode cX12_looks 38 = .ok (.getfield 18, 3) := by decide +kernel
theorem dX12_looks_41 : decode cX12_looks 41 = .ok (.iconst 3, 1) := by decide +kernel
theorem dX12_looks_42 : decode cX12_looks 42 = .ok (.iload_n 2, 1) := by decide +kernel
theorem dX12_looks_43 : decode cX12_looks 43 = .ok (.iastore, 1) := by decide +kernel
theorem dX12_looks_44 : decode cX12_looks 44 = .ok (.aload_n 0, 1) := by decide +kernel
theorem dX12_looks_45 : decode cX12_looks 45 = .ok (.getfield 18, 3) := by decide +kernel
theorem dX12_looks_48 : decode cX12_looks 48 = .ok (.iconst 4, 1) := by decide +kernel
theorem dX12_looks_49 : decode cX12_looks 49 = .ok (.aload_n 0, 1) := by decide +kernel
theorem dX12_looks_50 : decode cX12_looks 50 = .ok (.getfield 9, 3) := by decide +kernel
theorem dX12_looks_53 : decode cX12_looks 53 = .ok (.bipush 28, 2) := by decide +kernel
theorem dX12_looks_55 : decode cX12_looks 55 = .ok (.iload_n 1, 1) := by decide +kernel
theorem dX12_looks_56 : decode cX12_looks 56 = .ok (.iadd, 1) := by decide +kernel
theorem dX12_looks_57 : decode cX12_looks 57 = .ok (.iaload, 1) := by decide +kernel
theorem dX12_looks_58 : decode cX12_looks 58 = .ok (.iconst 3, 1) := by decide +kernel
theorem dX12_looks_59 : decode cX12_looks 59 = .ok (.idiv, 1) := by decide +kernel
theorem dX12_looks_60 : decode cX12_looks 60 = .ok (.iastore, 1) := by decide +kernel
theorem dX12_looks_61 : decode cX12_looks 61 = .ok (.aload_n 0, 1) := by decide +kernel
theorem dX12_looks_62 : decode cX12_looks 62 = .ok (.getfield 18, 3) := by decide +kernel
theorem dX12_looks_65 : decode cX12_looks 65 = .ok (.iconst 5, 1) := by decide +kernel
theorem dX12_looks_66 : decode cX12_looks 66 = .ok (.aload_n 0, 1) := by decide +kernel
theorem dX12_looks_67 : decode cX12_looks 67 = .ok (.getfield 9, 3) := by decide +kernel
theorem dX12_looks_70 : decode cX12_looks 70 = .ok (.bipush 21, 2) := by decide +kernel
theorem dX12_looks_72 : decode cX12_looks 72 = .ok (.iload_n 1, 1) := by decide +kernel
theorem dX12_looks_73 : decode cX12_looks 73 = .ok (.iadd, 1) := by decide +kernel
theorem dX12_looks_74 : decode cX12_looks 74 = .ok (.iaload, 1) := by decide +kernel
theorem dX12_looks_75 : decode cX12_looks 75 = .ok (.iastore, 1) := by decide +kernel
theorem dX12_looks_76 : decode cX12_looks 76 = .ok (.iconst 0, 1) := by decide +kernel
theorem dX12_looks_77 : decode cX12_looks 77 = .ok (.istore_n 3, 1) := by decide +kernel
theorem dX12_looks_78 : decode cX12_looks 78 = .ok (.aload_n 0, 1) := by decide +kernel
theorem dX12_looks_79 : decode cX12_looks 79 = .ok (.sipush 234, 3) := by decide +kernel
theorem dX12_looks_82 : decode cX12_looks 82 = .ok (.iconst 0, 1) := by decide +kernel
theorem dX12_looks_83 : decode cX12_looks 83 = .ok (.invokevirtual 138, 3) := by decide +kernel
theorem dX12_looks_86 : decode cX12_looks 86 = .ok (.istore 4, 2) := by decide +kernel
theorem dX12_looks_88 : decode cX12_looks 88 = .ok (.sipush 239, 3) := by decide +kernel
theorem dX12_looks_91 : decode cX12_looks 91 = .ok (.sipush 140, 3) := by decide +kernel
theorem dX12_looks_94 : decode cX12_looks 94 = .ok (.aload_n 0, 1) := by decide +kernel
theorem dX12_looks_95 : decode cX12_looks 95 = .ok (.getfield 9, 3) := by decide +kernel
theorem dX12_looks_98 : decode cX12_looks 98 = .ok (.bipush 6, 2) := by decide +kernel
theorem dX12_looks_100 : decode cX12_looks 100 = .ok (.iaload, 1) := by decide +kernel
theorem dX12_looks_101 : decode cX12_looks 101 = .ok (.imul, 1) := by decide +kernel
theorem dX12_looks_102 : decode cX12_looks 102 = .ok (.iadd, 1) := by decide +kernel
theorem dX12_looks_103 : decode cX12_looks 103 = .ok (.istore 5, 2) := by decide +kernel
theorem dX12_looks_105 : decode cX12_looks 105 = .ok (.iconst 0, 1) := by decide +kernel
theorem dX12_looks_106 : decode cX12_looks 106 = .ok (.istore 6, 2) := by decide +kernel
theorem dX12_looks_108 : decode cX12_looks 108 = .ok (.iload 5, 2) := by decide +kernel
theorem dX12_looks_110 : decode cX12_looks 110 = .ok (.istore 7, 2) := by decide +kernel
theorem dX12_looks_112 : decode cX12_looks 112 = .ok (.iload 7, 2) := by decide +kernel
end
section
theorem dX12_looks_114 : decode cX12_looks 114 = .ok (.iload 5, 2) := by decide +kernel
theorem dX12_looks_116 : decode cX12_looks 116 = .ok (.iload 4, 2) := by decide +kernel
theorem dX12_looks_118 : decode cX12_looks 118 = .ok (.iadd, 1) := by decide +kernel
theorem dX12_looks_119 : decode cX12_looks 119 = .ok (.if_icmp .ge 300, 3) := by decide +kernel
theorem dX12_looks_122 : decode cX12_looks 122 = .ok (.aload_n 0, 1) := by decide +kernel
theorem dX12_looks_123 : decode cX12_looks 123 = .ok (.getfield 9, 3) := by decide +kernel
theorem dX12_looks_126 : decode cX12_looks 126 = .ok (.iload 7, 2) := by decide +kernel
theorem dX12_looks_128 : decode cX12_looks 128 = .ok (.iaload, 1) := by decide +kernel
theorem dX12_looks_129 : decode cX12_looks 129 = .ok (.istore 8, 2) := by decide +kernel
theorem dX12_looks_131 : decode cX12_looks 131 = .ok (.iload 8, 2) := by decide +kernel
theorem dX12_looks_133 : decode cX12_looks 133 = .ok (.ifCond .lt 97, 3) := by decide +kernel
theorem dX12_looks_136 : decode cX12_looks 136 = .ok (.aload_n 0, 1) := by decide +kernel
theorem dX12_looks_137 : decode cX12_looks 137 = .ok (.getfield 18, 3) := by decide +kernel
theorem dX12_looks_140 : decode cX12_looks 140 = .ok (.iload 8, 2) := by decide +kernel
theorem dX12_looks_142 : decode cX12_looks 142 = .ok (.bipush 8, 2) := by decide +kernel
theorem dX12_looks_144 : decode cX12_looks 144 = .ok (.irem, 1) := by decide +kernel
theorem dX12_looks_145 : decode cX12_looks 145 = .ok (.iaload, 1) := by decide +kernel
theorem dX12_looks_146 : decode cX12_looks 146 = .ok (.istore 9, 2) := by decide +kernel
theorem dX12_looks_148 : decode cX12_looks 148 = .ok (.iload 8, 2) := by decide +kernel
theorem dX12_looks_150 : decode cX12_looks 150 = .ok (.bipush 8, 2) := by decide +kernel
theorem dX12_looks_152 : decode cX12_looks 152 = .ok (.idiv, 1) := by decide +kernel
theorem dX12_looks_153 : decode cX12_looks 153 = .ok (.iconst 4, 1) := by decide +kernel
theorem dX12_looks_154 : decode cX12_looks 154 = .ok (.irem, 1) := by decide +kernel
theorem dX12_looks_155 : decode cX12_looks 155 = .ok (.istore 10, 2) := by decide +kernel
theorem dX12_looks_157 : decode cX12_looks 157 = .ok (.iload 8, 2) := by decide +kernel
theorem dX12_looks_159 : decode cX12_looks 159 = .ok (.bipush 32, 2) := by decide +kernel
theorem dX12_looks_161 : decode cX12_looks 161 = .ok (.idiv, 1) := by decide +kernel
theorem dX12_looks_162 : decode cX12_looks 162 = .ok (.istore 11, 2) := by decide +kernel
theorem dX12_looks_164 : decode cX12_looks 164 = .ok (.aload_n 0, 1) := by decide +kernel
theorem dX12_looks_165 : decode cX12_looks 165 = .ok (.getfield 21, 3) := by decide +kernel
theorem dX12_looks_168 : decode cX12_looks 168 = .ok (.iload 6, 2) := by decide +kernel
theorem dX12_looks_170 : decode cX12_looks 170 = .ok (.iload 10, 2) := by decide +kernel
theorem dX12_looks_172 : decode cX12_looks 172 = .ok (.ifCond .ne 18, 3) := by decide +kernel
theorem dX12_looks_175 : decode cX12_looks 175 = .ok (.iload 9, 2) := by decide +kernel
theorem dX12_looks_177 : decode cX12_looks 177 = .ok (.iload 11, 2) := by decide +kernel
theorem dX12_looks_179 : decode cX12_looks 179 = .ok (.if_icmp .ge 7, 3) := by decide +kernel
theorem dX12_looks_182 : decode cX12_looks 182 = .ok (.iconst 1, 1) := by decide +kernel
theorem dX12_looks_183 : decode cX12_looks 183 = .ok (.goto 40, 3) := by decide +kernel
theorem dX12_looks_186 : decode cX12_looks 186 = .ok (.iconst 0, 1) := by decide +kernel
theorem dX12_looks_187 : decode cX12_looks 187 = .ok (.goto 36, 3) := by decide +kernel
theorem dX12_looks_190 : decode cX12_looks 190 = .ok (.iload 10, 2) := by decide +kernel
theorem dX12_looks_192 : decode cX12_looks 192 = .ok (.iconst 1, 1) := by decide +kernel
theorem dX12_looks_193 : decode cX12_looks 193 = .ok (.if_icmp .ne 18, 3) := by decide +kernel
theorem dX12_looks_196 : decode cX12_looks 196 = .ok (.iload 9, 2) := by decide +kernel
theorem dX12_looks_198 : decode cX12_looks 198 = .ok (.iload 11, 2) := by decide +kernel
theorem dX12_looks_200 : decode cX12_looks 200 = .ok (.if_icmp .ne 7, 3) := by decide +kernel
theorem dX12_looks_203 : decode cX12_looks 203 = .ok (.iconst 1, 1) := by decide +kernel
theorem dX12_looks_204 : decode cX12_looks 204 = .ok (.goto 19, 3) := by decide +kernel
theorem dX12_looks_207 : decode cX12_looks 207 = .ok (.iconst 0, 1) := by decide +kernel
theorem dX12_looks_208 : decode cX12_looks 208 = .ok (.goto 15, 3) := by decide +kernel
theorem dX12_looks_211 : decode cX12_looks 211 = .ok (.iload 9, 2) := by decide +kernel
theorem dX12_looks_213 : decode cX12_looks 213 = .ok (.iload 11, 2) := by decide +kernel
theorem dX12_looks_215 : decode cX12_looks 215 = .ok (.if_icmp .le 7, 3) := by decide +kernel
theorem dX12_looks_218 : decode cX12_looks 218 = .ok (.iconst 1, 1) := by decide +kernel
theorem dX12_looks_219 : decode cX12_looks 219 = .ok (.goto 4, 3) := by decide +kernel
theorem dX12_looks_222 : decode cX12_looks 222 = .ok (.iconst 0, 1) := by decide +kernel
theorem dX12_looks_223 : decode cX12_looks 223 = .ok (.bastore, 1) := by decide +kernel
theorem dX12_looks_224 : decode cX12_looks 224 = .ok (.iinc 6 1, 3) := by decide +kernel
theorem dX12_looks_227 : decode cX12_looks 227 = .ok (.goto 186, 3) := by decide +kernel
theorem dX12_looks_230 : decode cX12_looks 230 = .ok (.iload 8, 2) := by decide +kernel
theorem dX12_looks_232 : decode cX12_looks 232 = .ok (.iconst (-1), 1) := by decide +kernel
theorem dX12_looks_233 : decode cX12_looks 233 = .ok (.if_icmp .ne 32, 3) := by decide +kernel
theorem dX12_looks_236 : decode cX12_looks 236 = .ok (.aload_n 0, 1) := by decide +kernel
theorem dX12_looks_237 : decode cX12_looks 237 = .ok (.getfield 21, 3) := by decide +kernel
theorem dX12_looks_240 : decode cX12_looks 240 = .ok (.iload 6, 2) := by decide +kernel
theorem dX12_looks_242 : decode cX12_looks 242 = .ok (.iconst 1, 1) := by decide +kernel
theorem dX12_looks_243 : decode cX12_looks 243 = .ok (.isub, 1) := by decide +kernel
theorem dX12_looks_244 : decode cX12_looks 244 = .ok (.aload_n 0, 1) := by decide +kernel
theorem dX12_looks_245 : decode cX12_looks 245 = .ok (.getfield 21, 3) := by decide +kernel
theorem dX12_looks_248 : decode cX12_looks 248 = .ok (.iload 6, 2) := by decide +kernel
theorem dX12_looks_250 : decode cX12_looks 250 = .ok (.iconst 1, 1) := by decide +kernel
theorem dX12_looks_251 : decode cX12_looks 251 = .ok (.isub, 1) := by decide +kernel
theorem dX12_looks_252 : decode cX12_looks 252 = .ok (.baload, 1) := by decide +kernel
theorem dX12_looks_253 : decode cX12_looks 253 = .ok (.ifCond .ne 7, 3) := by decide +kernel
theorem dX12_looks_256 : decode cX12_looks 256 = .ok (.iconst 1, 1) := by decide +kernel
theorem dX12_looks_257 : decode cX12_looks 257 = .ok (.goto 4, 3) := by decide +kernel
theorem dX12_looks_260 : decode cX12_looks 260 = .ok (.iconst 0, 1) := by decide +kernel
theorem dX12_looks_261 : decode cX12_looks 261 = .ok (.bastore, 1) := by decide +kernel
theorem dX12_looks_262 : decode cX12_looks 262 = .ok (.goto 151, 3) := by decide +kernel
theorem dX12_looks_265 : decode cX12_looks 265 = .ok (.iload 8, 2) := by decide +kernel
theorem dX12_looks_267 : decode cX12_looks 267 = .ok (.bipush (-10), 2) := by decide +kernel
theorem dX12_looks_269 : decode cX12_looks 269 = .ok (.if_icmp .le 82, 3) := by decide +kernel
theorem dX12_looks_272 : decode cX12_looks 272 = .ok (.iinc 6 (-1), 3) := by decide +kernel
theorem dX12_looks_275 : decode cX12_looks 275 = .ok (.aload_n 0, 1) := by decide +kernel
theorem dX12_looks_276 : decode cX12_looks 276 = .ok (.getfield 21, 3) := by decide +kernel
theorem dX12_looks_279 : decode cX12_looks 279 = .ok (.iload 6, 2) := by decide +kernel
theorem dX12_looks_281 : decode cX12_looks 281 = .ok (.iconst 1, 1) := by decide +kernel
theorem dX12_looks_282 : decode cX12_looks 282 = .ok (.isub, 1) := by decide +kernel
theorem dX12_looks_283 : decode cX12_looks 283 = .ok (.iload 8, 2) := by decide +kernel
theorem dX12_looks_285 : decode cX12_looks 285 = .ok (.bipush (-2), 2) := by decide +kernel
theorem dX12_looks_287 : decode cX12_looks 287 = .ok (.if_icmp .ne 33, 3) := by decide +kernel
theorem dX12_looks_290 : decode cX12_looks 290 = .ok (.aload_n 0, 1) := by decide +kernel
theorem dX12_looks_291 : decode cX12_looks 291 = .ok (.getfield 21, 3) := by decide +kernel
theorem dX12_looks_294 : decode cX12_looks 294 = .ok (.iload 6, 2) := by decide +kernel
theorem dX12_looks_296 : decode cX12_looks 296 = .ok (.iconst 1, 1) := by decide +kernel
theorem dX12_looks_297 : decode cX12_looks 297 = .ok (.isub, 1) := by decide +kernel
theorem dX12_looks_298 : decode cX12_looks 298 = .ok (.baload, 1) := by decide +kernel
theorem dX12_looks_299 : decode cX12_looks 299 = .ok (.ifCond .eq 17, 3) := by decide +kernel
theorem dX12_looks_302 : decode cX12_looks 302 = .ok (.aload_n 0, 1) := by decide +kernel
theorem dX12_looks_303 : decode cX12_looks 303 = .ok (.getfield 21, 3) := by decide +kernel
theorem dX12_looks_306 : decode cX12_looks 306 = .ok (.iload 6, 2) := by decide +kernel
theorem dX12_looks_308 : decode cX12_looks 308 = .ok (.baload, 1) := by decide +kernel
theorem dX12_looks_309 : decode cX12_looks 309 = .ok (.ifCond .eq 7, 3) := by decide +kernel
theorem dX12_looks_312 : decode cX12_looks 312 = .ok (.iconst 1, 1) := by decide +kernel
theorem dX12_looks_313 : decode cX12_looks 313 = .ok (.goto 34, 3) := by decide +kernel
theorem dX12_looks_316 : decode cX12_looks 316 = .ok (.iconst 0, 1) := by decide +kernel
theorem dX12_looks_317 : decode cX12_looks 317 = .ok (.goto 30, 3) := by decide +kernel
theorem dX12_looks_320 : decode cX12_looks 320 = .ok (.aload_n 0, 1) := by decide +kernel
theorem dX12_looks_321 : decode cX12_looks 321 = .ok (.getfield 21, 3) := by decide +kernel
theorem dX12_looks_324 : decode cX12_looks 324 = .ok (.iload 6, 2) := by decide +kernel
theorem dX12_looks_326 : decode cX12_looks 326 = .ok (.iconst 1, 1) := by decide +kernel
theorem dX12_looks_327 : decode cX12_looks 327 = .ok (.isub, 1) := by decide +kernel
theorem dX12_looks_328 : decode cX12_looks 328 = .ok (.baload, 1) := by decide +kernel
theorem dX12_looks_329 : decode cX12_looks 329 = .ok (.ifCond .ne 13, 3) := by decide +kernel
theorem dX12_looks_332 : decode cX12_looks 332 = .ok (.aload_n 0, 1) := by decide +kernel
theorem dX12_looks_333 : decode cX12_looks 333 = .ok (.getfield 21, 3) := by decide +kernel
theorem dX12_looks_336 : decode cX12_looks 336 = .ok (.iload 6, 2) := by decide +kernel
theorem dX12_looks_338 : decode cX12_looks 338 = .ok (.baload, 1) := by decide +kernel
theorem dX12_looks_339 : decode cX12_looks 339 = .ok (.ifCond .eq 7, 3) := by decide +kernel
theorem dX12_looks_342 : decode cX12_looks 342 = .ok (.iconst 1, 1) := by decide +kernel
theorem dX12_looks_343 : decode cX12_looks 343 = .ok (.goto 4, 3) := by decide +kernel
theorem dX12_looks_346 : decode cX12_looks 346 = .ok (.iconst 0, 1) := by decide +kernel
theorem dX12_looks_347 : decode cX12_looks 347 = .ok (.bastore, 1) := by decide +kernel
theorem dX12_looks_348 : decode cX12_looks 348 = .ok (.goto 65, 3) := by decide +kernel
theorem dX12_looks_351 : decode cX12_looks 351 = .ok (.iconst 0, 1) := by decide +kernel
theorem dX12_looks_352 : decode cX12_looks 352 = .ok (.istore 6, 2) := by decide +kernel
theorem dX12_looks_354 : decode cX12_looks 354 = .ok (.aload_n 0, 1) := by decide +kernel
theorem dX12_looks_355 : decode cX12_looks 355 = .ok (.getfield 21, 3) := by decide +kernel
theorem dX12_looks_358 : decode cX12_looks 358 = .ok (.iconst 0, 1) := by decide +kernel
theorem dX12_looks_359 : decode cX12_looks 359 = .ok (.baload, 1) := by decide +kernel
theorem dX12_looks_360 : decode cX12_looks 360 = .ok (.istore 9, 2) := by decide +kernel
theorem dX12_looks_362 : decode cX12_looks 362 = .ok (.iload_n 3, 1) := by decide +kernel
theorem dX12_looks_363 : decode cX12_looks 363 = .ok (.iload 9, 2) := by decide +kernel
theorem dX12_looks_365 : decode cX12_looks 365 = .ok (.ifCond .eq 19, 3) := by decide +kernel
theorem dX12_looks_368 : decode cX12_looks 368 = .ok (.iload 8, 2) := by decide +kernel
theorem dX12_looks_370 : decode cX12_looks 370 = .ok (.sipush (-200), 3) := by decide +kernel
theorem dX12_looks_373 : decode cX12_looks 373 = .ok (.if_icmp .le 11, 3) := by decide +kernel
theorem dX12_looks_376 : decode cX12_looks 376 = .ok (.bipush (-10), 2) := by decide +kernel
theorem dX12_looks_378 : decode cX12_looks 378 = .ok (.iload 8, 2) := by decide +kernel
theorem dX12_looks_380 : decode cX12_looks 380 = .ok (.isub, 1) := by decide +kernel
theorem dX12_looks_381 : decode cX12_looks 381 = .ok (.goto 4, 3) := by decide +kernel
theorem dX12_looks_384 : decode cX12_looks 384 = .ok (.iconst 0, 1) := by decide +kernel
theorem dX12_looks_385 : decode cX12_looks 385 = .ok (.iadd, 1) := by decide +kernel
theorem dX12_looks_386 : decode cX12_looks 386 = .ok (.istore_n 3, 1) := by decide +kernel
theorem dX12_looks_387 : decode cX12_looks 387 = .ok (.iload_n 3, 1) := by decide +kernel
theorem dX12_looks_388 : decode cX12_looks 388 = .ok (.iload 9, 2) := by decide +kernel
theorem dX12_looks_390 : decode cX12_looks 390 = .ok (.ifCond .eq 20, 3) := by decide +kernel
theorem dX12_looks_393 : decode cX12_looks 393 = .ok (.iload 8, 2) := by decide +kernel
theorem dX12_looks_395 : decode cX12_looks 395 = .ok (.sipush (-200), 3) := by decide +kernel
theorem dX12_looks_398 : decode cX12_looks 398 = .ok (.if_icmp .gt 12, 3) := by decide +kernel
theorem dX12_looks_401 : decode cX12_looks 401 = .ok (.sipush (-200), 3) := by decide +kernel
theorem dX12_looks_404 : decode cX12_looks 404 = .ok (.iload 8, 2) := by decide +kernel
theorem dX12_looks_406 : decode cX12_looks 406 = .ok (.isub, 1) := by decide +kernel
theorem dX12_looks_407 : decode cX12_looks 407 = .ok (.goto 4, 3) := by decide +kernel
theorem dX12_looks_410 : decode cX12_looks 410 = .ok (.iconst 0, 1) := by decide +kernel
theorem dX12_looks_411 : decode cX12_looks 411 = .ok (.isub, 1) := by decide +kernel
theorem dX12_looks_412 : decode cX12_looks 412 = .ok (.istore_n 3, 1) := by decide +kernel
theorem dX12_looks_413 : decode cX12_looks 413 = .ok (.iinc 7 1, 3) := by decide +kernel
theorem dX12_looks_416 : decode cX12_looks 416 = .ok (.goto (-304), 3) := by decide +kernel
theorem dX12_looks_419 : decode cX12_looks 419 = .ok (.iload_n 3, 1) := by decide +kernel
theorem dX12_looks_420 : decode cX12_looks 420 = .ok (.ireturn, 1) := by decide +kernel
theorem dX12_lengthOf_0 : decode cX12_lengthOf 0 = .ok (.aload_n 0, 1) := by decide +kernel
theorem dX12_lengthOf_1 : decode cX12_lengthOf 1 = .ok (.getfield 9, 3) := by decide +kernel
theorem dX12_lengthOf_4 : decode cX12_lengthOf 4 = .ok (.bipush 21, 2) := by decide +kernel
theorem dX12_lengthOf_6 : decode cX12_lengthOf 6 = .ok (.iload_n 1, 1) := by decide +kernel
theorem dX12_lengthOf_7 : decode cX12_lengthOf 7 = .ok (.iadd, 1) := by decide +kernel
theorem dX12_lengthOf_8 : decode cX12_lengthOf 8 = .ok (.iaload, 1) := by decide +kernel
theorem dX12_lengthOf_9 : decode cX12_lengthOf 9 = .ok (.istore_n 2, 1) := by decide +kernel
theorem dX12_lengthOf_10 : decode cX12_lengthOf 10 = .ok (.aload_n 0, 1) := by decide +kernel
theorem dX12_lengthOf_11 : decode cX12_lengthOf 11 = .ok (.getfield 9, 3) := by decide +kernel
theorem dX12_lengthOf_14 : decode cX12_lengthOf 14 = .ok (.bipush 7, 2) := by decide +kernel
theorem dX12_lengthOf_16 : decode cX12_lengthOf 16 = .ok (.iload_n 1, 1) := by decide +kernel
theorem dX12_lengthOf_17 : decode cX12_lengthOf 17 = .ok (.iadd, 1) := by decide +kernel
theorem dX12_lengthOf_18 : decode cX12_lengthOf 18 = .ok (.iaload, 1) := by decide +kernel
theorem dX12_lengthOf_19 : decode cX12_lengthOf 19 = .ok (.tableswitch 71 1 6 #[37, 71, 43, 63, 71, 43], 37) := by decide +kernel
theorem dX12_lengthOf_56 : decode cX12_lengthOf 56 = .ok (.iload_n 2, 1) := by decide +kernel
theorem dX12_lengthOf_57 : decode cX12_lengthOf 57 = .ok (.iload_n 2, 1) := by decide +kernel
theorem dX12_lengthOf_58 : decode cX12_lengthOf 58 = .ok (.iconst 2, 1) := by decide +kernel
theorem dX12_lengthOf_59 : decode cX12_lengthOf 59 = .ok (.idiv, 1) := by decide +kernel
theorem dX12_lengthOf_60 : decode cX12_lengthOf 60 = .ok (.iadd, 1) := by decide +kernel
theorem dX12_lengthOf_61 : decode cX12_lengthOf 61 = .ok (.ireturn, 1) := by decide +kernel
theorem dX12_lengthOf_62 : decode cX12_lengthOf 62 = .ok (.iload_n 2, 1) := by decide +kernel
theorem dX12_lengthOf_63 : decode cX12_lengthOf 63 = .ok (.aload_n 0, 1) := by decide +kernel
theorem dX12_lengthOf_64 : decode cX12_lengthOf 64 = .ok (.getfield 9, 3) := by decide +kernel
theorem dX12_lengthOf_67 : decode cX12_lengthOf 67 = .ok (.bipush 14, 2) := by decide +kernel
theorem dX12_lengthOf_69 : decode cX12_lengthOf 69 = .ok (.iload_n 1, 1) := by decide +kernel
theorem dX12_lengthOf_70 : decode cX12_lengthOf 70 = .ok (.iadd, 1) := by decide +kernel
theorem dX12_lengthOf_71 : decode cX12_lengthOf 71 = .ok (.iaload, 1) := by decide +kernel
theorem dX12_lengthOf_72 : decode cX12_lengthOf 72 = .ok (.iconst 3, 1) := by decide +kernel
theorem dX12_lengthOf_73 : decode cX12_lengthOf 73 = .ok (.idiv, 1) := by decide +kernel
theorem dX12_lengthOf_74 : decode cX12_lengthOf 74 = .ok (.isub, 1) := by decide +kernel
theorem dX12_lengthOf_75 : decode cX12_lengthOf 75 = .ok (.iconst 1, 1) := by decide +kernel
theorem dX12_lengthOf_76 : decode cX12_lengthOf 76 = .ok (.bipush 9, 2) := by decide +kernel
theorem dX12_lengthOf_78 : decode cX12_lengthOf 78 = .ok (.invokestatic 142, 3) := by decide +kernel
theorem dX12_lengthOf_81 : decode cX12_lengthOf 81 = .ok (.ireturn, 1) := by decide +kernel
theorem dX12_lengthOf_82 : decode cX12_lengthOf 82 = .ok (.iload_n 2, 1) := by decide +kernel
theorem dX12_lengthOf_83 : decode cX12_lengthOf 83 = .ok (.iload_n 2, 1) := by decide +kernel
theorem dX12_lengthOf_84 : decode cX12_lengthOf 84 = .ok (.iconst 2, 1) := by decide +kernel
theorem dX12_lengthOf_85 : decode cX12_lengthOf 85 = .ok (.idiv, 1) := by decide +kernel
theorem dX12_lengthOf_86 : decode cX12_lengthOf 86 = .ok (.iadd, 1) := by decide +kernel
theorem dX12_lengthOf_87 : decode cX12_lengthOf 87 = .ok (.iconst 1, 1) := by decide +kernel
theorem dX12_lengthOf_88 : decode cX12_lengthOf 88 = .ok (.iadd, 1) := by decide +kernel
theorem dX12_lengthOf_89 : decode cX12_lengthOf 89 = .ok (.ireturn, 1) := by decide +kernel
theorem dX12_lengthOf_90 : decode cX12_lengthOf 90 = .ok (.iload_n 2, 1) := by decide +kernel
theorem dX12_lengthOf_91 : decode cX12_lengthOf 91 = .ok (.ireturn, 1) := by decide +kernel
theorem dX12_rowAt_0 : decode cX12_rowAt 0 = .ok (.aload_n 0, 1) := by decide +kernel
theorem dX12_rowAt_1 : decode cX12_rowAt 1 = .ok (.getfield 9, 3) := by decide +kernel
theorem dX12_rowAt_4 : decode cX12_rowAt 4 = .ok (.bipush 35, 2) := by decide +kernel
theorem dX12_rowAt_6 : decode cX12_rowAt 6 = .ok (.iload_n 1, 1) := by decide +kernel
theorem dX12_rowAt_7 : decode cX12_rowAt 7 = .ok (.iadd, 1) := by decide +kernel
theorem dX12_rowAt_8 : decode cX12_rowAt 8 = .ok (.iaload, 1) := by decide +kernel
theorem dX12_rowAt_9 : decode cX12_rowAt 9 = .ok (.iload_n 2, 1) := by decide +kernel
theorem dX12_rowAt_10 : decode cX12_rowAt 10 = .ok (.iconst 2, 1) := by decide +kernel
theorem dX12_rowAt_11 : decode cX12_rowAt 11 = .ok (.if_icmp .ne 7, 3) := by decide +kernel
theorem dX12_rowAt_14 : decode cX12_rowAt 14 = .ok (.iconst 1, 1) := by decide +kernel
theorem dX12_rowAt_15 : decode cX12_rowAt 15 = .ok (.goto 4, 3) := by decide +kernel
theorem dX12_rowAt_18 : decode cX12_rowAt 18 = .ok (.iconst 0, 1) := by decide +kernel
theorem dX12_rowAt_19 : decode cX12_rowAt 19 = .ok (.isub, 1) := by decide +kernel
theorem dX12_rowAt_20 : decode cX12_rowAt 20 = .ok (.iload_n 2, 1) := by decide +kernel
theorem dX12_rowAt_21 : decode cX12_rowAt 21 = .ok (.iconst 3, 1) := by decide +kernel
theorem dX12_rowAt_22 : decode cX12_rowAt 22 = .ok (.if_icmp .ne 7, 3) := by decide +kernel
theorem dX12_rowAt_25 : decode cX12_rowAt 25 = .ok (.iconst 1, 1) := by decide +kernel
theorem dX12_rowAt_26 : decode cX12_rowAt 26 = .ok (.goto 4, 3) := by decide +kernel
theorem dX12_rowAt_29 : decode cX12_rowAt 29 = .ok (.iconst 0, 1) := by decide +kernel
theorem dX12_rowAt_30 : decode cX12_rowAt 30 = .ok (.iadd, 1) := by decide +kernel
theorem dX12_rowAt_31 : decode cX12_rowAt 31 = .ok (.ireturn, 1) := by decide +kernel
theorem dX12_firstAt_0 : decode cX12_firstAt 0 = .ok (.aload_n 0, 1) := by decide +kernel
theorem dX12_firstAt_1 : decode cX12_firstAt 1 = .ok (.getfield 9, 3) := by decide +kernel
theorem dX12_firstAt_4 : decode cX12_firstAt 4 = .ok (.bipush 28, 2) := by decide +kernel
theorem dX12_firstAt_6 : decode cX12_firstAt 6 = .ok (.iload_n 1, 1) := by decide +kernel
theorem dX12_firstAt_7 : decode cX12_firstAt 7 = .ok (.iadd, 1) := by decide +kernel
theorem dX12_firstAt_8 : decode cX12_firstAt 8 = .ok (.iaload, 1) := by decide +kernel
theorem dX12_firstAt_9 : decode cX12_firstAt 9 = .ok (.iload_n 2, 1) := by decide +kernel
theorem dX12_firstAt_10 : decode cX12_firstAt 10 = .ok (.ifCond .ne 7, 3) := by decide +kernel
theorem dX12_firstAt_13 : decode cX12_firstAt 13 = .ok (.iconst 1, 1) := by decide +kernel
theorem dX12_firstAt_14 : decode cX12_firstAt 14 = .ok (.goto 18, 3) := by decide +kernel
theorem dX12_firstAt_17 : decode cX12_firstAt 17 = .ok (.iload_n 2, 1) := by decide +kernel
theorem dX12_firstAt_18 : decode cX12_firstAt 18 = .ok (.iconst 1, 1) := by decide +kernel
theorem dX12_firstAt_19 : decode cX12_firstAt 19 = .ok (.if_icmp .ne 12, 3) := by decide +kernel
theorem dX12_firstAt_22 : decode cX12_firstAt 22 = .ok (.aload_n 0, 1) := by decide +kernel
theorem dX12_firstAt_23 : decode cX12_firstAt 23 = .ok (.iload_n 1, 1) := by decide +kernel
theorem dX12_firstAt_24 : decode cX12_firstAt 24 = .ok (.invokevirtual 146, 3) := by decide +kernel
theorem dX12_firstAt_27 : decode cX12_firstAt 27 = .ok (.ineg, 1) := by decide +kernel
theorem dX12_firstAt_28 : decode cX12_firstAt 28 = .ok (.goto 4, 3) := by decide +kernel
theorem dX12_firstAt_31 : decode cX12_firstAt 31 = .ok (.iconst 0, 1) := by decide +kernel
theorem dX12_firstAt_32 : decode cX12_firstAt 32 = .ok (.iadd, 1) := by decide +kernel
theorem dX12_firstAt_33 : decode cX12_firstAt 33 = .ok (.ireturn, 1) := by decide +kernel
theorem dX12_isAt_0 : decode cX12_isAt 0 = .ok (.iload_n 3, 1) := by decide +kernel
theorem dX12_isAt_1 : decode cX12_isAt 1 = .ok (.aload_n 0, 1) := by decide +kernel
theorem dX12_isAt_2 : decode cX12_isAt 2 = .ok (.iload_n 1, 1) := by decide +kernel
theorem dX12_isAt_3 : decode cX12_isAt 3 = .ok (.iload_n 2, 1) := by decide +kernel
theorem dX12_isAt_4 : decode cX12_isAt 4 = .ok (.invokevirtual 150, 3) := by decide +kernel
theorem dX12_isAt_7 : decode cX12_isAt 7 = .ok (.isub, 1) := by decide +kernel
theorem dX12_isAt_8 : decode cX12_isAt 8 = .ok (.istore 5, 2) := by decide +kernel
theorem dX12_isAt_10 : decode cX12_isAt 10 = .ok (.iload_n 2, 1) := by decide +kernel
theorem dX12_isAt_11 : decode cX12_isAt 11 = .ok (.iconst 4, 1) := by decide +kernel
theorem dX12_isAt_12 : decode cX12_isAt 12 = .ok (.if_icmp .eq 33, 3) := by decide +kernel
theorem dX12_isAt_15 : decode cX12_isAt 15 = .ok (.iload 4, 2) := by decide +kernel
theorem dX12_isAt_17 : decode cX12_isAt 17 = .ok (.aload_n 0, 1) := by decide +kernel
theorem dX12_isAt_18 : decode cX12_isAt 18 = .ok (.iload_n 1, 1) := by decide +kernel
theorem dX12_isAt_19 : decode cX12_isAt 19 = .ok (.iload_n 2, 1) := by decide +kernel
theorem dX12_isAt_20 : decode cX12_isAt 20 = .ok (.invokevirtual 153, 3) := by decide +kernel
theorem dX12_isAt_23 : decode cX12_isAt 23 = .ok (.if_icmp .ne 22, 3) := by decide +kernel
theorem dX12_isAt_26 : decode cX12_isAt 26 = .ok (.iload 5, 2) := by decide +kernel
theorem dX12_isAt_28 : decode cX12_isAt 28 = .ok (.ifCond .lt 17, 3) := by decide +kernel
theorem dX12_isAt_31 : decode cX12_isAt 31 = .ok (.iload 5, 2) := by decide +kernel
theorem dX12_isAt_33 : decode cX12_isAt 33 = .ok (.aload_n 0, 1) := by decide +kernel
theorem dX12_isAt_34 : decode cX12_isAt 34 = .ok (.iload_n 1, 1) := by decide +kernel
theorem dX12_isAt_35 : decode cX12_isAt 35 = .ok (.invokevirtual 146, 3) := by decide +kernel
theorem dX12_isAt_38 : decode cX12_isAt 38 = .ok (.if_icmp .ge 7, 3) := by decide +kernel
theorem dX12_isAt_41 : decode cX12_isAt 41 = .ok (.iconst 1, 1) := by decide +kernel
theorem dX12_isAt_42 : decode cX12_isAt 42 = .ok (.goto 4, 3) := by decide +kernel
theorem dX12_isAt_45 : decode cX12_isAt 45 = .ok (.iconst 0, 1) := by decide +kernel
theorem dX12_isAt_46 : decode cX12_isAt 46 = .ok (.ireturn, 1) := by decide +kernel
theorem dX12_bothAt_0 : decode cX12_bothAt 0 = .ok (.aload_n 0, 1) := by decide +kernel
theorem dX12_bothAt_1 : decode cX12_bothAt 1 = .ok (.iload_n 1, 1) := by decide +kernel
theorem dX12_bothAt_2 : decode cX12_bothAt 2 = .ok (.iload_n 2, 1) := by decide +kernel
theorem dX12_bothAt_3 : decode cX12_bothAt 3 = .ok (.invokevirtual 153, 3) := by decide +kernel
theorem dX12_bothAt_6 : decode cX12_bothAt 6 = .ok (.aload_n 0, 1) := by decide +kernel
theorem dX12_bothAt_7 : decode cX12_bothAt 7 = .ok (.iload_n 3, 1) := by decide +kernel
theorem dX12_bothAt_8 : decode cX12_bothAt 8 = .ok (.iload 4, 2) := by decide +kernel
theorem dX12_bothAt_10 : decode cX12_bothAt 10 = .ok (.invokevirtual 153, 3) := by decide +kernel
theorem dX12_bothAt_13 : decode cX12_bothAt 13 = .ok (.if_icmp .eq 5, 3) := by decide +kernel
theorem dX12_bothAt_16 : decode cX12_bothAt 16 = .ok (.iconst 0, 1) := by decide +kernel
theorem dX12_bothAt_17 : decode cX12_bothAt 17 = .ok (.ireturn, 1) := by decide +kernel
theorem dX12_bothAt_18 : decode cX12_bothAt 18 = .ok (.aload_n 0, 1) := by decide +kernel
theorem dX12_bothAt_19 : decode cX12_bothAt 19 = .ok (.iload_n 1, 1) := by decide +kernel
theorem dX12_bothAt_20 : decode cX12_bothAt 20 = .ok (.iload_n 2, 1) := by decide +kernel
theorem dX12_bothAt_21 : decode cX12_bothAt 21 = .ok (.invokevirtual 150, 3) := by decide +kernel
theorem dX12_bothAt_24 : decode cX12_bothAt 24 = .ok (.istore 5, 2) := by decide +kernel
theorem dX12_bothAt_26 : decode cX12_bothAt 26 = .ok (.iconst 0, 1) := by decide +kernel
theorem dX12_bothAt_27 : decode cX12_bothAt 27 = .ok (.istore 6, 2) := by decide +kernel
theorem dX12_bothAt_29 : decode cX12_bothAt 29 = .ok (.iconst 0, 1) := by decide +kernel
theorem dX12_bothAt_30 : decode cX12_bothAt 30 = .ok (.istore 7, 2) := by decide +kernel
theorem dX12_bothAt_32 : decode cX12_bothAt 32 = .ok (.iload 7, 2) := by decide +kernel
theorem dX12_bothAt_34 : decode cX12_bothAt 34 = .ok (.aload_n 0, 1) := by decide +kernel
theorem dX12_bothAt_35 : decode cX12_bothAt 35 = .ok (.iload_n 1, 1) := by decide +kernel
theorem dX12_bothAt_36 : decode cX12_bothAt 36 = .ok (.invokevirtual 146, 3) := by decide +kernel
theorem dX12_bothAt_39 : decode cX12_bothAt 39 = .ok (.if_icmp .ge 41, 3) := by decide +kernel
theorem dX12_bothAt_42 : decode cX12_bothAt 42 = .ok (.iload 6, 2) := by decide +kernel
theorem dX12_bothAt_44 : decode cX12_bothAt 44 = .ok (.aload_n 0, 1) := by decide +kernel
theorem dX12_bothAt_45 : decode cX12_bothAt 45 = .ok (.iload_n 3, 1) := by decide +kernel
theorem dX12_bothAt_46 : decode cX12_bothAt 46 = .ok (.iload 4, 2) := by decide +kernel
theorem dX12_bothAt_48 : decode cX12_bothAt 48 = .ok (.iload 5, 2) := by decide +kernel
theorem dX12_bothAt_50 : decode cX12_bothAt 50 = .ok (.iload 7, 2) := by decide +kernel
theorem dX12_bothAt_52 : decode cX12_bothAt 52 = .ok (.iadd, 1) := by decide +kernel
theorem dX12_bothAt_53 : decode cX12_bothAt 53 = .ok (.aload_n 0, 1) := by decide +kernel
theorem dX12_bothAt_54 : decode cX12_bothAt 54 = .ok (.iload_n 3, 1) := by decide +kernel
theorem dX12_bothAt_55 : decode cX12_bothAt 55 = .ok (.iload 4, 2) := by decide +kernel
theorem dX12_bothAt_57 : decode cX12_bothAt 57 = .ok (.invokevirtual 153, 3) := by decide +kernel
theorem dX12_bothAt_60 : decode cX12_bothAt 60 = .ok (.invokevirtual 156, 3) := by decide +kernel
theorem dX12_bothAt_63 : decode cX12_bothAt 63 = .ok (.ifCond .eq 7, 3) := by decide +kernel
theorem dX12_bothAt_66 : decode cX12_bothAt 66 = .ok (.iconst 1, 1) := by decide +kernel
theorem dX12_bothAt_67 : decode cX12_bothAt 67 = .ok (.goto 4, 3) := by decide +kernel
theorem dX12_bothAt_70 : decode cX12_bothAt 70 = .ok (.iconst 0, 1) := by decide +kernel
theorem dX12_bothAt_71 : decode cX12_bothAt 71 = .ok (.iadd, 1) := by decide +kernel
theorem dX12_bothAt_72 : decode cX12_bothAt 72 = .ok (.istore 6, 2) := by decide +kernel
theorem dX12_bothAt_74 : decode cX12_bothAt 74 = .ok (.iinc 7 1, 3) := by decide +kernel
theorem dX12_bothAt_77 : decode cX12_bothAt 77 = .ok (.goto (-45), 3) := by decide +kernel
theorem dX12_bothAt_80 : decode cX12_bothAt 80 = .ok (.iload 6, 2) := by decide +kernel
theorem dX12_bothAt_82 : decode cX12_bothAt 82 = .ok (.ireturn, 1) := by decide +kernel
theorem dX12_may_0 : decode cX12_may 0 = .ok (.aload_n 0, 1) := by decide +kernel
theorem dX12_may_1 : decode cX12_may 1 = .ok (.getfield 9, 3) := by decide +kernel
theorem dX12_may_4 : decode cX12_may 4 = .ok (.bipush 7, 2) := by decide +kernel
theorem dX12_may_6 : decode cX12_may 6 = .ok (.iload_n 1, 1) := by decide +kernel
theorem dX12_may_7 : decode cX12_may 7 = .ok (.iadd, 1) := by decide +kernel
theorem dX12_may_8 : decode cX12_may 8 = .ok (.iaload, 1) := by decide +kernel
theorem dX12_may_9 : decode cX12_may 9 = .ok (.tableswitch 108 1 6 #[39, 50, 65, 108, 76, 86], 39) := by decide +kernel
theorem dX12_may_48 : decode cX12_may 48 = .ok (.iload_n 2, 1) := by decide +kernel
theorem dX12_may_49 : decode cX12_may 49 = .ok (.iconst 2, 1) := by decide +kernel
theorem dX12_may_50 : decode cX12_may 50 = .ok (.if_icmp .ge 7, 3) := by decide +kernel
theorem dX12_may_53 : decode cX12_may 53 = .ok (.iconst 1, 1) := by decide +kernel
theorem dX12_may_54 : decode cX12_may 54 = .ok (.goto 4, 3) := by decide +kernel
theorem dX12_may_57 : decode cX12_may 57 = .ok (.iconst 0, 1) := by decide +kernel
theorem dX12_may_58 : decode cX12_may 58 = .ok (.ireturn, 1) := by decide +kernel
theorem dX12_may_59 : decode cX12_may 59 = .ok (.iload_n 2, 1) := by decide +kernel
theorem dX12_may_60 : decode cX12_may 60 = .ok (.ifCond .eq 8, 3) := by decide +kernel
theorem dX12_may_63 : decode cX12_may 63 = .ok (.iload_n 2, 1) := by decide +kernel
theorem dX12_may_64 : decode cX12_may 64 = .ok (.iconst 3, 1) := by decide +kernel
theorem dX12_may_65 : decode cX12_may 65 = .ok (.if_icmp .ne 7, 3) := by decide +kernel
theorem dX12_may_68 : decode cX12_may 68 = .ok (.iconst 1, 1) := by decide +kernel
theorem dX12_may_69 : decode cX12_may 69 = .ok (.goto 4, 3) := by decide +kernel
theorem dX12_may_72 : decode cX12_may 72 = .ok (.iconst 0, 1) := by decide +kernel
theorem dX12_may_73 : decode cX12_may 73 = .ok (.ireturn, 1) := by decide +kernel
theorem dX12_may_74 : decode cX12_may 74 = .ok (.iload_n 2, 1) := by decide +kernel
theorem dX12_may_75 : decode cX12_may 75 = .ok (.iconst 1, 1) := by decide +kernel
theorem dX12_may_76 : decode cX12_may 76 = .ok (.if_icmp .le 7, 3) := by decide +kernel
theorem dX12_may_79 : decode cX12_may 79 = .ok (.iconst 1, 1) := by decide +kernel
theorem dX12_may_80 : decode cX12_may 80 = .ok (.goto 4, 3) := by decide +kernel
theorem dX12_may_83 : decode cX12_may 83 = .ok (.iconst 0, 1) := by decide +kernel
theorem dX12_may_84 : decode cX12_may 84 = .ok (.ireturn, 1) := by decide +kernel
theorem dX12_may_85 : decode cX12_may 85 = .ok (.iload_n 2, 1) := by decide +kernel
theorem dX12_may_86 : decode cX12_may 86 = .ok (.ifCond .ne 7, 3) := by decide +kernel
theorem dX12_may_89 : decode cX12_may 89 = .ok (.iconst 1, 1) := by decide +kernel
theorem dX12_may_90 : decode cX12_may 90 = .ok (.goto 4, 3) := by decide +kernel
theorem dX12_may_93 : decode cX12_may 93 = .ok (.iconst 0, 1) := by decide +kernel
theorem dX12_may_94 : decode cX12_may 94 = .ok (.ireturn, 1) := by decide +kernel
theorem dX12_may_95 : decode cX12_may 95 = .ok (.aload_n 0, 1) := by decide +kernel
theorem dX12_may_96 : decode cX12_may 96 = .ok (.getfield 9, 3) := by decide +kernel
theorem dX12_may_99 : decode cX12_may 99 = .ok (.bipush 49, 2) := by decide +kernel
theorem dX12_may_101 : decode cX12_may 101 = .ok (.iconst 4, 1) := by decide +kernel
theorem dX12_may_102 : decode cX12_may 102 = .ok (.iload_n 1, 1) := by decide +kernel
theorem dX12_may_103 : decode cX12_may 103 = .ok (.imul, 1) := by decide +kernel
theorem dX12_may_104 : decode cX12_may 104 = .ok (.iadd, 1) := by decide +kernel
theorem dX12_may_105 : decode cX12_may 105 = .ok (.iload_n 2, 1) := by decide +kernel
theorem dX12_may_106 : decode cX12_may 106 = .ok (.iadd, 1) := by decide +kernel
theorem dX12_may_107 : decode cX12_may 107 = .ok (.iaload, 1) := by decide +kernel
theorem dX12_may_108 : decode cX12_may 108 = .ok (.ifCond .le 7, 3) := by decide +kernel
theorem dX12_may_111 : decode cX12_may 111 = .ok (.iconst 1, 1) := by decide +kernel
theorem dX12_may_112 : decode cX12_may 112 = .ok (.goto 4, 3) := by decide +kernel
theorem dX12_may_115 : decode cX12_may 115 = .ok (.iconst 0, 1) := by decide +kernel
theorem dX12_may_116 : decode cX12_may 116 = .ok (.ireturn, 1) := by decide +kernel
theorem dX12_may_117 : decode cX12_may 117 = .ok (.iconst 1, 1) := by decide +kernel
theorem dX12_may_118 : decode cX12_may 118 = .ok (.ireturn, 1) := by decide +kernel
theorem dX12_fits_0 : decode cX12_fits 0 = .ok (.aload_n 0, 1) := by decide +kernel
theorem dX12_fits_1 : decode cX12_fits 1 = .ok (.iload_n 1, 1) := by decide +kernel
theorem dX12_fits_2 : decode cX12_fits 2 = .ok (.iload_n 2, 1) := by decide +kernel
theorem dX12_fits_3 : decode cX12_fits 3 = .ok (.invokevirtual 150, 3) := by decide +kernel
theorem dX12_fits_6 : decode cX12_fits 6 = .ok (.istore 4, 2) := by decide +kernel
theorem dX12_fits_8 : decode cX12_fits 8 = .ok (.aload_n 0, 1) := by decide +kernel
theorem dX12_fits_9 : decode cX12_fits 9 = .ok (.iload_n 1, 1) := by decide +kernel
theorem dX12_fits_10 : decode cX12_fits 10 = .ok (.iload_n 2, 1) := by decide +kernel
theorem dX12_fits_11 : decode cX12_fits 11 = .ok (.invokevirtual 160, 3) := by decide +kernel
theorem dX12_fits_14 : decode cX12_fits 14 = .ok (.ifCond .eq 39, 3) := by decide +kernel
theorem dX12_fits_17 : decode cX12_fits 17 = .ok (.aload_n 0, 1) := by decide +kernel
theorem dX12_fits_18 : decode cX12_fits 18 = .ok (.iload_n 1, 1) := by decide +kernel
theorem dX12_fits_19 : decode cX12_fits 19 = .ok (.iload_n 2, 1) := by decide +kernel
theorem dX12_fits_20 : decode cX12_fits 20 = .ok (.invokevirtual 153, 3) := by decide +kernel
theorem dX12_fits_23 : decode cX12_fits 23 = .ok (.iconst 0, 1) := by decide +kernel
theorem dX12_fits_24 : decode cX12_fits 24 = .ok (.bipush 11, 2) := by decide +kernel
theorem dX12_fits_26 : decode cX12_fits 26 = .ok (.invokestatic 56, 3) := by decide +kernel
theorem dX12_fits_29 : decode cX12_fits 29 = .ok (.ifCond .eq 24, 3) := by decide +kernel
theorem dX12_fits_32 : decode cX12_fits 32 = .ok (.iload 4, 2) := by decide +kernel
theorem dX12_fits_34 : decode cX12_fits 34 = .ok (.ifCond .lt 19, 3) := by decide +kernel
theorem dX12_fits_37 : decode cX12_fits 37 = .ok (.iload 4, 2) := by decide +kernel
theorem dX12_fits_39 : decode cX12_fits 39 = .ok (.aload_n 0, 1) := by decide +kernel
theorem dX12_fits_40 : decode cX12_fits 40 = .ok (.iload_n 1, 1) := by decide +kernel
theorem dX12_fits_41 : decode cX12_fits 41 = .ok (.invokevirtual 146, 3) := by decide +kernel
theorem dX12_fits_44 : decode cX12_fits 44 = .ok (.iadd, 1) := by decide +kernel
theorem dX12_fits_45 : decode cX12_fits 45 = .ok (.iload_n 3, 1) := by decide +kernel
theorem dX12_fits_46 : decode cX12_fits 46 = .ok (.if_icmp .gt 7, 3) := by decide +kernel
theorem dX12_fits_49 : decode cX12_fits 49 = .ok (.iconst 1, 1) := by decide +kernel
theorem dX12_fits_50 : decode cX12_fits 50 = .ok (.goto 4, 3) := by decide +kernel
theorem dX12_fits_53 : decode cX12_fits 53 = .ok (.iconst 0, 1) := by decide +kernel
theorem dX12_fits_54 : decode cX12_fits 54 = .ok (.istore 5, 2) := by decide +kernel
theorem dX12_fits_56 : decode cX12_fits 56 = .ok (.iconst 0, 1) := by decide +kernel
theorem dX12_fits_57 : decode cX12_fits 57 = .ok (.istore 6, 2) := by decide +kernel
theorem dX12_fits_59 : decode cX12_fits 59 = .ok (.iload 6, 2) := by decide +kernel
theorem dX12_fits_61 : decode cX12_fits 61 = .ok (.aload_n 0, 1) := by decide +kernel
theorem dX12_fits_62 : decode cX12_fits 62 = .ok (.getfield 9, 3) := by decide +kernel
theorem dX12_fits_65 : decode cX12_fits 65 = .ok (.iconst 0, 1) := by decide +kernel
theorem dX12_fits_66 : decode cX12_fits 66 = .ok (.iaload, 1) := by decide +kernel
theorem dX12_fits_67 : decode cX12_fits 67 = .ok (.if_icmp .ge 50, 3) := by decide +kernel
theorem dX12_fits_70 : decode cX12_fits 70 = .ok (.iload 5, 2) := by decide +kernel
theorem dX12_fits_72 : decode cX12_fits 72 = .ok (.ifCond .eq 45, 3) := by decide +kernel
theorem dX12_fits_75 : decode cX12_fits 75 = .ok (.aload_n 0, 1) := by decide +kernel
theorem dX12_fits_76 : decode cX12_fits 76 = .ok (.iload_n 1, 1) := by decide +kernel
theorem dX12_fits_77 : decode cX12_fits 77 = .ok (.iload_n 2, 1) := by decide +kernel
theorem dX12_fits_78 : decode cX12_fits 78 = .ok (.aload_n 0, 1) := by decide +kernel
theorem dX12_fits_79 : decode cX12_fits 79 = .ok (.getfield 9, 3) := by decide +kernel
theorem dX12_fits_82 : decode cX12_fits 82 = .ok (.bipush 28, 2) := by decide +kernel
theorem dX12_fits_84 : decode cX12_fits 84 = .ok (.iload 6, 2) := by decide +kernel
theorem dX12_fits_86 : decode cX12_fits 86 = .ok (.iadd, 1) := by decide +kernel
theorem dX12_fits_87 : decode cX12_fits 87 = .ok (.iaload, 1) := by decide +kernel
theorem dX12_fits_88 : decode cX12_fits 88 = .ok (.aload_n 0, 1) := by decide +kernel
theorem dX12_fits_89 : decode cX12_fits 89 = .ok (.getfield 9, 3) := by decide +kernel
theorem dX12_fits_92 : decode cX12_fits 92 = .ok (.bipush 35, 2) := by decide +kernel
theorem dX12_fits_94 : decode cX12_fits 94 = .ok (.iload 6, 2) := by decide +kernel
theorem dX12_fits_96 : decode cX12_fits 96 = .ok (.iadd, 1) := by decide +kernel
theorem dX12_fits_97 : decode cX12_fits 97 = .ok (.iaload, 1) := by decide +kernel
theorem dX12_fits_98 : decode cX12_fits 98 = .ok (.invokevirtual 156, 3) := by decide +kernel
theorem dX12_fits_101 : decode cX12_fits 101 = .ok (.ifCond .ne 7, 3) := by decide +kernel
theorem dX12_fits_104 : decode cX12_fits 104 = .ok (.iconst 1, 1) := by decide +kernel
theorem dX12_fits_105 : decode cX12_fits 105 = .ok (.goto 4, 3) := by decide +kernel
theorem dX12_fits_108 : decode cX12_fits 108 = .ok (.iconst 0, 1) := by decide +kernel
theorem dX12_fits_109 : decode cX12_fits 109 = .ok (.istore 5, 2) := by decide +kernel
theorem dX12_fits_111 : decode cX12_fits 111 = .ok (.iinc 6 1, 3) := by decide +kernel
theorem dX12_fits_114 : decode cX12_fits 114 = .ok (.goto (-55), 3) := by decide +kernel
theorem dX12_fits_117 : decode cX12_fits 117 = .ok (.iload 5, 2) := by decide +kernel
theorem dX12_fits_119 : decode cX12_fits 119 = .ok (.ireturn, 1) := by decide +kernel
theorem dX12_isFree_0 : decode cX12_isFree 0 = .ok (.aload_n 0, 1) := by decide +kernel
theorem dX12_isFree_1 : decode cX12_isFree 1 = .ok (.iload_n 1, 1) := by decide +kernel
theorem dX12_isFree_2 : decode cX12_isFree 2 = .ok (.iload_n 2, 1) := by decide +kernel
theorem dX12_isFree_3 : decode cX12_isFree 3 = .ok (.aload_n 0, 1) := by decide +kernel
theorem dX12_isFree_4 : decode cX12_isFree 4 = .ok (.invokevirtual 164, 3) := by decide +kernel
theorem dX12_isFree_7 : decode cX12_isFree 7 = .ok (.invokevirtual 167, 3) := by decide +kernel
theorem dX12_isFree_10 : decode cX12_isFree 10 = .ok (.istore_n 3, 1) := by decide +kernel
theorem dX12_isFree_11 : decode cX12_isFree 11 = .ok (.iconst 0, 1) := by decide +kernel
theorem dX12_isFree_12 : decode cX12_isFree 12 = .ok (.istore 4, 2) := by decide +kernel
theorem dX12_isFree_14 : decode cX12_isFree 14 = .ok (.iload 4, 2) := by decide +kernel
theorem dX12_isFree_16 : decode cX12_isFree 16 = .ok (.aload_n 0, 1) := by decide +kernel
theorem dX12_isFree_17 : decode cX12_isFree 17 = .ok (.getfield 9, 3) := by decide +kernel
theorem dX12_isFree_20 : decode cX12_isFree 20 = .ok (.iconst 0, 1) := by decide +kernel
theorem dX12_isFree_21 : decode cX12_isFree 21 = .ok (.iaload, 1) := by decide +kernel
theorem dX12_isFree_22 : decode cX12_isFree 22 = .ok (.if_icmp .ge 60, 3) := by decide +kernel
theorem dX12_isFree_25 : decode cX12_isFree 25 = .ok (.iload_n 3, 1) := by decide +kernel
theorem dX12_isFree_26 : decode cX12_isFree 26 = .ok (.ifCond .eq 56, 3) := by decide +kernel
theorem dX12_isFree_29 : decode cX12_isFree 29 = .ok (.iload 4, 2) := by decide +kernel
theorem dX12_isFree_31 : decode cX12_isFree 31 = .ok (.iload_n 1, 1) := by decide +kernel
theorem dX12_isFree_32 : decode cX12_isFree 32 = .ok (.if_icmp .eq 38, 3) := by decide +kernel
theorem dX12_isFree_35 : decode cX12_isFree 35 = .ok (.aload_n 0, 1) := by decide +kernel
theorem dX12_isFree_36 : decode cX12_isFree 36 = .ok (.getfield 9, 3) := by decide +kernel
theorem dX12_isFree_39 : decode cX12_isFree 39 = .ok (.bipush 42, 2) := by decide +kernel
theorem dX12_isFree_41 : decode cX12_isFree 41 = .ok (.iload 4, 2) := by decide +kernel
theorem dX12_isFree_43 : decode cX12_isFree 43 = .ok (.iadd, 1) := by decide +kernel
theorem dX12_isFree_44 : decode cX12_isFree 44 = .ok (.iaload, 1) := by decide +kernel
theorem dX12_isFree_45 : decode cX12_isFree 45 = .ok (.iconst 4, 1) := by decide +kernel
theorem dX12_isFree_46 : decode cX12_isFree 46 = .ok (.if_icmp .eq 24, 3) := by decide +kernel
theorem dX12_isFree_49 : decode cX12_isFree 49 = .ok (.aload_n 0, 1) := by decide +kernel
theorem dX12_isFree_50 : decode cX12_isFree 50 = .ok (.iload_n 1, 1) := by decide +kernel
theorem dX12_isFree_51 : decode cX12_isFree 51 = .ok (.iload_n 2, 1) := by decide +kernel
theorem dX12_isFree_52 : decode cX12_isFree 52 = .ok (.iload 4, 2) := by decide +kernel
theorem dX12_isFree_54 : decode cX12_isFree 54 = .ok (.aload_n 0, 1) := by decide +kernel
theorem dX12_isFree_55 : decode cX12_isFree 55 = .ok (.getfield 9, 3) := by decide +kernel
theorem dX12_isFree_58 : decode cX12_isFree 58 = .ok (.bipush 42, 2) := by decide +kernel
theorem dX12_isFree_60 : decode cX12_isFree 60 = .ok (.iload 4, 2) := by decide +kernel
theorem dX12_isFree_62 : decode cX12_isFree 62 = .ok (.iadd, 1) := by decide +kernel
theorem dX12_isFree_63 : decode cX12_isFree 63 = .ok (.iaload, 1) := by decide +kernel
theorem dX12_isFree_64 : decode cX12_isFree 64 = .ok (.invokevirtual 170, 3) := by decide +kernel
theorem dX12_isFree_67 : decode cX12_isFree 67 = .ok (.ifCond .ne 7, 3) := by decide +kernel
theorem dX12_isFree_70 : decode cX12_isFree 70 = .ok (.iconst 1, 1) := by decide +kernel
theorem dX12_isFree_71 : decode cX12_isFree 71 = .ok (.goto 4, 3) := by decide +kernel
theorem dX12_isFree_74 : decode cX12_isFree 74 = .ok (.iconst 0, 1) := by decide +kernel
theorem dX12_isFree_75 : decode cX12_isFree 75 = .ok (.istore_n 3, 1) := by decide +kernel
theorem dX12_isFree_76 : decode cX12_isFree 76 = .ok (.iinc 4 1, 3) := by decide +kernel
theorem dX12_isFree_79 : decode cX12_isFree 79 = .ok (.goto (-65), 3) := by decide +kernel
theorem dX12_isFree_82 : decode cX12_isFree 82 = .ok (.iload_n 3, 1) := by decide +kernel
theorem dX12_isFree_83 : decode cX12_isFree 83 = .ok (.ireturn, 1) := by decide +kernel
theorem dX12_goodOf_0 : decode cX12_goodOf 0 = .ok (.aload_n 0, 1) := by decide +kernel
theorem dX12_goodOf_1 : decode cX12_goodOf 1 = .ok (.invokevirtual 174, 3) := by decide +kernel
theorem dX12_goodOf_4 : decode cX12_goodOf 4 = .ok (.aload_n 0, 1) := by decide +kernel
theorem dX12_goodOf_5 : decode cX12_goodOf 5 = .ok (.iload_n 1, 1) := by decide +kernel
theorem dX12_goodOf_6 : decode cX12_goodOf 6 = .ok (.iload_n 2, 1) := by decide +kernel
theorem dX12_goodOf_7 : decode cX12_goodOf 7 = .ok (.invokevirtual 150, 3) := by decide +kernel
theorem dX12_goodOf_10 : decode cX12_goodOf 10 = .ok (.isub, 1) := by decide +kernel
theorem dX12_goodOf_11 : decode cX12_goodOf 11 = .ok (.istore_n 3, 1) := by decide +kernel
theorem dX12_goodOf_12 : decode cX12_goodOf 12 = .ok (.bipush 10, 2) := by decide +kernel
theorem dX12_goodOf_14 : decode cX12_goodOf 14 = .ok (.aload_n 0, 1) := by decide +kernel
theorem dX12_goodOf_15 : decode cX12_goodOf 15 = .ok (.iload_n 1, 1) := by decide +kernel
theorem dX12_goodOf_16 : decode cX12_goodOf 16 = .ok (.iload_n 2, 1) := by decide +kernel
theorem dX12_goodOf_17 : decode cX12_goodOf 17 = .ok (.invokevirtual 177, 3) := by decide +kernel
theorem dX12_goodOf_20 : decode cX12_goodOf 20 = .ok (.iadd, 1) := by decide +kernel
theorem dX12_goodOf_21 : decode cX12_goodOf 21 = .ok (.iload_n 3, 1) := by decide +kernel
theorem dX12_goodOf_22 : decode cX12_goodOf 22 = .ok (.ifCond .lt 16, 3) := by decide +kernel
theorem dX12_goodOf_25 : decode cX12_goodOf 25 = .ok (.iload_n 3, 1) := by decide +kernel
theorem dX12_goodOf_26 : decode cX12_goodOf 26 = .ok (.aload_n 0, 1) := by decide +kernel
theorem dX12_goodOf_27 : decode cX12_goodOf 27 = .ok (.iload_n 1, 1) := by decide +kernel
theorem dX12_goodOf_28 : decode cX12_goodOf 28 = .ok (.invokevirtual 146, 3) := by decide +kernel
theorem dX12_goodOf_31 : decode cX12_goodOf 31 = .ok (.if_icmp .ge 7, 3) := by decide +kernel
theorem dX12_goodOf_34 : decode cX12_goodOf 34 = .ok (.iconst 5, 1) := by decide +kernel
theorem dX12_goodOf_35 : decode cX12_goodOf 35 = .ok (.goto 4, 3) := by decide +kernel
theorem dX12_goodOf_38 : decode cX12_goodOf 38 = .ok (.iconst 0, 1) := by decide +kernel
theorem dX12_goodOf_39 : decode cX12_goodOf 39 = .ok (.isub, 1) := by decide +kernel
theorem dX12_goodOf_40 : decode cX12_goodOf 40 = .ok (.ireturn, 1) := by decide +kernel
theorem dX12_scoreNow_0 : decode cX12_scoreNow 0 = .ok (.iconst 0, 1) := by decide +kernel
theorem dX12_scoreNow_1 : decode cX12_scoreNow 1 = .ok (.istore_n 1, 1) := by decide +kernel
theorem dX12_scoreNow_2 : decode cX12_scoreNow 2 = .ok (.iconst 0, 1) := by decide +kernel
theorem dX12_scoreNow_3 : decode cX12_scoreNow 3 = .ok (.istore_n 2, 1) := by decide +kernel
theorem dX12_scoreNow_4 : decode cX12_scoreNow 4 = .ok (.iload_n 2, 1) := by decide +kernel
theorem dX12_scoreNow_5 : decode cX12_scoreNow 5 = .ok (.aload_n 0, 1) := by decide +kernel
theorem dX12_scoreNow_6 : decode cX12_scoreNow 6 = .ok (.getfield 9, 3) := by decide +kernel
theorem dX12_scoreNow_9 : decode cX12_scoreNow 9 = .ok (.iconst 0, 1) := by decide +kernel
theorem dX12_scoreNow_10 : decode cX12_scoreNow 10 = .ok (.iaload, 1) := by decide +kernel
theorem dX12_scoreNow_11 : decode cX12_scoreNow 11 = .ok (.if_icmp .ge 43, 3) := by decide +kernel
theorem dX12_scoreNow_14 : decode cX12_scoreNow 14 = .ok (.iload_n 1, 1) := by decide +kernel
theorem dX12_scoreNow_15 : decode cX12_scoreNow 15 = .ok (.aload_n 0, 1) := by decide +kernel
theorem dX12_scoreNow_16 : decode cX12_scoreNow 16 = .ok (.getfield 9, 3) := by decide +kernel
theorem dX12_scoreNow_19 : decode cX12_scoreNow 19 = .ok (.bipush 42, 2) := by decide +kernel
theorem dX12_scoreNow_21 : decode cX12_scoreNow 21 = .ok (.iload_n 2, 1) := by decide +kernel
theorem dX12_scoreNow_22 : decode cX12_scoreNow 22 = .ok (.iadd, 1) := by decide +kernel
theorem dX12_scoreNow_23 : decode cX12_scoreNow 23 = .ok (.iaload, 1) := by decide +kernel
theorem dX12_scoreNow_24 : decode cX12_scoreNow 24 = .ok (.iconst 4, 1) := by decide +kernel
theorem dX12_scoreNow_25 : decode cX12_scoreNow 25 = .ok (.if_icmp .ne 7, 3) := by decide +kernel
theorem dX12_scoreNow_28 : decode cX12_scoreNow 28 = .ok (.iconst 0, 1) := by decide +kernel
theorem dX12_scoreNow_29 : decode cX12_scoreNow 29 = .ok (.goto 17, 3) := by decide +kernel
theorem dX12_scoreNow_32 : decode cX12_scoreNow 32 = .ok (.aload_n 0, 1) := by decide +kernel
theorem dX12_scoreNow_33 : decode cX12_scoreNow 33 = .ok (.iload_n 2, 1) := by decide +kernel
theorem dX12_scoreNow_34 : decode cX12_scoreNow 34 = .ok (.aload_n 0, 1) := by decide +kernel
theorem dX12_scoreNow_35 : decode cX12_scoreNow 35 = .ok (.getfield 9, 3) := by decide +kernel
theorem dX12_scoreNow_38 : decode cX12_scoreNow 38 = .ok (.bipush 42, 2) := by decide +kernel
theorem dX12_scoreNow_40 : decode cX12_scoreNow 40 = .ok (.iload_n 2, 1) := by decide +kernel
theorem dX12_scoreNow_41 : decode cX12_scoreNow 41 = .ok (.iadd, 1) := by decide +kernel
theorem dX12_scoreNow_42 : decode cX12_scoreNow 42 = .ok (.iaload, 1) := by decide +kernel
theorem dX12_scoreNow_43 : decode cX12_scoreNow 43 = .ok (.invokevirtual 180, 3) := by decide +kernel
theorem dX12_scoreNow_46 : decode cX12_scoreNow 46 = .ok (.iadd, 1) := by decide +kernel
theorem dX12_scoreNow_47 : decode cX12_scoreNow 47 = .ok (.istore_n 1, 1) := by decide +kernel
theorem dX12_scoreNow_48 : decode cX12_scoreNow 48 = .ok (.iinc 2 1, 3) := by decide +kernel
theorem dX12_scoreNow_51 : decode cX12_scoreNow 51 = .ok (.goto (-47), 3) := by decide +kernel
theorem dX12_scoreNow_54 : decode cX12_scoreNow 54 = .ok (.iload_n 1, 1) := by decide +kernel
theorem dX12_scoreNow_55 : decode cX12_scoreNow 55 = .ok (.ireturn, 1) := by decide +kernel
theorem dX12_manyLaid_0 : decode cX12_manyLaid 0 = .ok (.iconst 0, 1) := by decide +kernel
theorem dX12_manyLaid_1 : decode cX12_manyLaid 1 = .ok (.istore_n 1, 1) := by decide +kernel
theorem dX12_manyLaid_2 : decode cX12_manyLaid 2 = .ok (.iconst 0, 1) := by decide +kernel
theorem dX12_manyLaid_3 : decode cX12_manyLaid 3 = .ok (.istore_n 2, 1) := by decide +kernel
theorem dX12_manyLaid_4 : decode cX12_manyLaid 4 = .ok (.iload_n 2, 1) := by decide +kernel
theorem dX12_manyLaid_5 : decode cX12_manyLaid 5 = .ok (.aload_n 0, 1) := by decide +kernel
theorem dX12_manyLaid_6 : decode cX12_manyLaid 6 = .ok (.getfield 9, 3) := by decide +kernel
theorem dX12_manyLaid_9 : decode cX12_manyLaid 9 = .ok (.iconst 0, 1) := by decide +kernel
theorem dX12_manyLaid_10 : decode cX12_manyLaid 10 = .ok (.iaload, 1) := by decide +kernel
theorem dX12_manyLaid_11 : decode cX12_manyLaid 11 = .ok (.if_icmp .ge 30, 3) := by decide +kernel
theorem dX12_manyLaid_14 : decode cX12_manyLaid 14 = .ok (.iload_n 1, 1) := by decide +kernel
theorem dX12_manyLaid_15 : decode cX12_manyLaid 15 = .ok (.aload_n 0, 1) := by decide +kernel
theorem dX12_manyLaid_16 : decode cX12_manyLaid 16 = .ok (.getfield 9, 3) := by decide +kernel
theorem dX12_manyLaid_19 : decode cX12_manyLaid 19 = .ok (.bipush 42, 2) := by decide +kernel
theorem dX12_manyLaid_21 : decode cX12_manyLaid 21 = .ok (.iload_n 2, 1) := by decide +kernel
theorem dX12_manyLaid_22 : decode cX12_manyLaid 22 = .ok (.iadd, 1) := by decide +kernel
theorem dX12_manyLaid_23 : decode cX12_manyLaid 23 = .ok (.iaload, 1) := by decide +kernel
theorem dX12_manyLaid_24 : decode cX12_manyLaid 24 = .ok (.iconst 4, 1) := by decide +kernel
theorem dX12_manyLaid_25 : decode cX12_manyLaid 25 = .ok (.if_icmp .ne 7, 3) := by decide +kernel
theorem dX12_manyLaid_28 : decode cX12_manyLaid 28 = .ok (.iconst 0, 1) := by decide +kernel
theorem dX12_manyLaid_29 : decode cX12_manyLaid 29 = .ok (.goto 4, 3) := by decide +kernel
theorem dX12_manyLaid_32 : decode cX12_manyLaid 32 = .ok (.iconst 1, 1) := by decide +kernel
theorem dX12_manyLaid_33 : decode cX12_manyLaid 33 = .ok (.iadd, 1) := by decide +kernel
theorem dX12_manyLaid_34 : decode cX12_manyLaid 34 = .ok (.istore_n 1, 1) := by decide +kernel
theorem dX12_manyLaid_35 : decode cX12_manyLaid 35 = .ok (.iinc 2 1, 3) := by decide +kernel
theorem dX12_manyLaid_38 : decode cX12_manyLaid 38 = .ok (.goto (-34), 3) := by decide +kernel
theorem dX12_manyLaid_41 : decode cX12_manyLaid 41 = .ok (.iload_n 1, 1) := by decide +kernel
theorem dX12_manyLaid_42 : decode cX12_manyLaid 42 = .ok (.ireturn, 1) := by decide +kernel
theorem dX12_isDotAt_0 : decode cX12_isDotAt 0 = .ok (.iconst 0, 1) := by decide +kernel
theorem dX12_isDotAt_1 : decode cX12_isDotAt 1 = .ok (.istore_n 3, 1) := by decide +kernel
theorem dX12_isDotAt_2 : decode cX12_isDotAt 2 = .ok (.iconst 0, 1) := by decide +kernel
theorem dX12_isDotAt_3 : decode cX12_isDotAt 3 = .ok (.istore 4, 2) := by decide +kernel
theorem dX12_isDotAt_5 : decode cX12_isDotAt 5 = .ok (.iload 4, 2) := by decide +kernel
theorem dX12_isDotAt_7 : decode cX12_isDotAt 7 = .ok (.aload_n 0, 1) := by decide +kernel
theorem dX12_isDotAt_8 : decode cX12_isDotAt 8 = .ok (.getfield 9, 3) := by decide +kernel
theorem dX12_isDotAt_11 : decode cX12_isDotAt 11 = .ok (.iconst 0, 1) := by decide +kernel
theorem dX12_isDotAt_12 : decode cX12_isDotAt 12 = .ok (.iaload, 1) := by decide +kernel
theorem dX12_isDotAt_13 : decode cX12_isDotAt 13 = .ok (.if_icmp .ge 47, 3) := by decide +kernel
theorem dX12_isDotAt_16 : decode cX12_isDotAt 16 = .ok (.iload_n 3, 1) := by decide +kernel
theorem dX12_isDotAt_17 : decode cX12_isDotAt 17 = .ok (.ifCond .ne 31, 3) := by decide +kernel
theorem dX12_isDotAt_20 : decode cX12_isDotAt 20 = .ok (.aload_n 0, 1) := by decide +kernel
theorem dX12_isDotAt_21 : decode cX12_isDotAt 21 = .ok (.getfield 9, 3) := by decide +kernel
theorem dX12_isDotAt_24 : decode cX12_isDotAt 24 = .ok (.bipush 28, 2) := by decide +kernel
theorem dX12_isDotAt_26 : decode cX12_isDotAt 26 = .ok (.iload 4, 2) := by decide +kernel
theorem dX12_isDotAt_28 : decode cX12_isDotAt 28 = .ok (.iadd, 1) := by decide +kernel
theorem dX12_isDotAt_29 : decode cX12_isDotAt 29 = .ok (.iaload, 1) := by decide +kernel
theorem dX12_isDotAt_30 : decode cX12_isDotAt 30 = .ok (.iload_n 1, 1) := by decide +kernel
theorem dX12_isDotAt_31 : decode cX12_isDotAt 31 = .ok (.if_icmp .ne 21, 3) := by decide +kernel
theorem dX12_isDotAt_34 : decode cX12_isDotAt 34 = .ok (.aload_n 0, 1) := by decide +kernel
theorem dX12_isDotAt_35 : decode cX12_isDotAt 35 = .ok (.getfield 9, 3) := by decide +kernel
theorem dX12_isDotAt_38 : decode cX12_isDotAt 38 = .ok (.bipush 35, 2) := by decide +kernel
theorem dX12_isDotAt_40 : decode cX12_isDotAt 40 = .ok (.iload 4, 2) := by decide +kernel
theorem dX12_isDotAt_42 : decode cX12_isDotAt 42 = .ok (.iadd, 1) := by decide +kernel
theorem dX12_isDotAt_43 : decode cX12_isDotAt 43 = .ok (.iaload, 1) := by decide +kernel
theorem dX12_isDotAt_44 : decode cX12_isDotAt 44 = .ok (.iload_n 2, 1) := by decide +kernel
theorem dX12_isDotAt_45 : decode cX12_isDotAt 45 = .ok (.if_icmp .ne 7, 3) := by decide +kernel
theorem dX12_isDotAt_48 : decode cX12_isDotAt 48 = .ok (.iconst 1, 1) := by decide +kernel
theorem dX12_isDotAt_49 : decode cX12_isDotAt 49 = .ok (.goto 4, 3) := by decide +kernel
theorem dX12_isDotAt_52 : decode cX12_isDotAt 52 = .ok (.iconst 0, 1) := by decide +kernel
theorem dX12_isDotAt_53 : decode cX12_isDotAt 53 = .ok (.istore_n 3, 1) := by decide +kernel
theorem dX12_isDotAt_54 : decode cX12_isDotAt 54 = .ok (.iinc 4 1, 3) := by decide +kernel
theorem dX12_isDotAt_57 : decode cX12_isDotAt 57 = .ok (.goto (-52), 3) := by decide +kernel
theorem dX12_isDotAt_60 : decode cX12_isDotAt 60 = .ok (.iload_n 3, 1) := by decide +kernel
theorem dX12_isDotAt_61 : decode cX12_isDotAt 61 = .ok (.ireturn, 1) := by decide +kernel
theorem dX12_dot_0 : decode cX12_dot 0 = .ok (.iload_n 1, 1) := by decide +kernel
theorem dX12_dot_1 : decode cX12_dot 1 = .ok (.iconst 0, 1) := by decide +kernel
theorem dX12_dot_2 : decode cX12_dot 2 = .ok (.bipush 6, 2) := by decide +kernel
theorem dX12_dot_4 : decode cX12_dot 4 = .ok (.invokestatic 56, 3) := by decide +kernel
theorem dX12_dot_7 : decode cX12_dot 7 = .ok (.ifCond .ne 5, 3) := by decide +kernel
theorem dX12_dot_10 : decode cX12_dot 10 = .ok (.iconst (-1), 1) := by decide +kernel
theorem dX12_dot_11 : decode cX12_dot 11 = .ok (.ireturn, 1) := by decide +kernel
theorem dX12_dot_12 : decode cX12_dot 12 = .ok (.iload_n 2, 1) := by decide +kernel
theorem dX12_dot_13 : decode cX12_dot 13 = .ok (.iconst 0, 1) := by decide +kernel
theorem dX12_dot_14 : decode cX12_dot 14 = .ok (.bipush 9, 2) := by decide +kernel
theorem dX12_dot_16 : decode cX12_dot 16 = .ok (.invokestatic 56, 3) := by decide +kernel
theorem dX12_dot_19 : decode cX12_dot 19 = .ok (.ifCond .eq 46, 3) := by decide +kernel
theorem dX12_dot_22 : decode cX12_dot 22 = .ok (.iload_n 3, 1) := by decide +kernel
theorem dX12_dot_23 : decode cX12_dot 23 = .ok (.iconst 1, 1) := by decide +kernel
theorem dX12_dot_24 : decode cX12_dot 24 = .ok (.bipush 9, 2) := by decide +kernel
theorem dX12_dot_26 : decode cX12_dot 26 = .ok (.invokestatic 56, 3) := by decide +kernel
theorem dX12_dot_29 : decode cX12_dot 29 = .ok (.ifCond .eq 36, 3) := by decide +kernel
theorem dX12_dot_32 : decode cX12_dot 32 = .ok (.iload 4, 2) := by decide +kernel
theorem dX12_dot_34 : decode cX12_dot 34 = .ok (.iconst 0, 1) := by decide +kernel
theorem dX12_dot_35 : decode cX12_dot 35 = .ok (.bipush 29, 2) := by decide +kernel
theorem dX12_dot_37 : decode cX12_dot 37 = .ok (.invokestatic 56, 3) := by decide +kernel
theorem dX12_dot_40 : decode cX12_dot 40 = .ok (.ifCond .eq 25, 3) := by decide +kernel
theorem dX12_dot_43 : decode cX12_dot 43 = .ok (.iload 5, 2) := by decide +kernel
theorem dX12_dot_45 : decode cX12_dot 45 = .ok (.iconst 0, 1) := by decide +kernel
theorem dX12_dot_46 : decode cX12_dot 46 = .ok (.bipush 11, 2) := by decide +kernel
theorem dX12_dot_48 : decode cX12_dot 48 = .ok (.invokestatic 56, 3) := by decide +kernel
theorem dX12_dot_51 : decode cX12_dot 51 = .ok (.ifCond .eq 14, 3) := by decide +kernel
theorem dX12_dot_54 : decode cX12_dot 54 = .ok (.aload_n 0, 1) := by decide +kernel
theorem dX12_dot_55 : decode cX12_dot 55 = .ok (.iload 4, 2) := by decide +kernel
theorem dX12_dot_57 : decode cX12_dot 57 = .ok (.iload 5, 2) := by decide +kernel
theorem dX12_dot_59 : decode cX12_dot 59 = .ok (.invokevirtual 183, 3) := by decide +kernel
theorem dX12_dot_62 : decode cX12_dot 62 = .ok (.ifCond .eq 6, 3) := by decide +kernel
theorem dX12_dot_65 : decode cX12_dot 65 = .ok (.bipush (-2), 2) := by decide +kernel
theorem dX12_dot_67 : decode cX12_dot 67 = .ok (.ireturn, 1) := by decide +kernel
theorem dX12_dot_68 : decode cX12_dot 68 = .ok (.aload_n 0, 1) := by decide +kernel
theorem dX12_dot_69 : decode cX12_dot 69 = .ok (.getfield 9, 3) := by decide +kernel
theorem dX12_dot_72 : decode cX12_dot 72 = .ok (.iconst 0, 1) := by decide +kernel
theorem dX12_dot_73 : decode cX12_dot 73 = .ok (.iaload, 1) := by decide +kernel
theorem dX12_dot_74 : decode cX12_dot 74 = .ok (.bipush 7, 2) := by decide +kernel
theorem dX12_dot_76 : decode cX12_dot 76 = .ok (.if_icmp .ne 6, 3) := by decide +kernel
theorem dX12_dot_79 : decode cX12_dot 79 = .ok (.bipush (-4), 2) := by decide +kernel
theorem dX12_dot_81 : decode cX12_dot 81 = .ok (.ireturn, 1) := by decide +kernel
theorem dX12_dot_82 : decode cX12_dot 82 = .ok (.aload_n 0, 1) := by decide +kernel
theorem dX12_dot_83 : decode cX12_dot 83 = .ok (.getfield 9, 3) := by decide +kernel
theorem dX12_dot_86 : decode cX12_dot 86 = .ok (.iconst 0, 1) := by decide +kernel
theorem dX12_dot_87 : decode cX12_dot 87 = .ok (.iaload, 1) := by decide +kernel
theorem dX12_dot_88 : decode cX12_dot 88 = .ok (.istore 6, 2) := by decide +kernel
theorem dX12_dot_90 : decode cX12_dot 90 = .ok (.aload_n 0, 1) := by decide +kernel
theorem dX12_dot_91 : decode cX12_dot 91 = .ok (.getfield 9, 3) := by decide +kernel
theorem dX12_dot_94 : decode cX12_dot 94 = .ok (.bipush 7, 2) := by decide +kernel
theorem dX12_dot_96 : decode cX12_dot 96 = .ok (.iload 6, 2) := by decide +kernel
theorem dX12_dot_98 : decode cX12_dot 98 = .ok (.iadd, 1) := by decide +kernel
theorem dX12_dot_99 : decode cX12_dot 99 = .ok (.iload_n 1, 1) := by decide +kernel
theorem dX12_dot_100 : decode cX12_dot 100 = .ok (.iastore, 1) := by decide +kernel
theorem dX12_dot_101 : decode cX12_dot 101 = .ok (.aload_n 0, 1) := by decide +kernel
theorem dX12_dot_102 : decode cX12_dot 102 = .ok (.getfield 9, 3) := by decide +kernel
theorem dX12_dot_105 : decode cX12_dot 105 = .ok (.bipush 14, 2) := by decide +kernel
theorem dX12_dot_107 : decode cX12_dot 107 = .ok (.iload 6, 2) := by decide +kernel
theorem dX12_dot_109 : decode cX12_dot 109 = .ok (.iadd, 1) := by decide +kernel
theorem dX12_dot_110 : decode cX12_dot 110 = .ok (.iload_n 2, 1) := by decide +kernel
theorem dX12_dot_111 : decode cX12_dot 111 = .ok (.iastore, 1) := by decide +kernel
theorem dX12_dot_112 : decode cX12_dot 112 = .ok (.aload_n 0, 1) := by decide +kernel
theorem dX12_dot_113 : decode cX12_dot 113 = .ok (.getfield 9, 3) := by decide +kernel
theorem dX12_dot_116 : decode cX12_dot 116 = .ok (.bipush 21, 2) := by decide +kernel
theorem dX12_dot_118 : decode cX12_dot 118 = .ok (.iload 6, 2) := by decide +kernel
theorem dX12_dot_120 : decode cX12_dot 120 = .ok (.iadd, 1) := by decide +kernel
theorem dX12_dot_121 : decode cX12_dot 121 = .ok (.iload_n 3, 1) := by decide +kernel
theorem dX12_dot_122 : decode cX12_dot 122 = .ok (.iastore, 1) := by decide +kernel
theorem dX12_dot_123 : decode cX12_dot 123 = .ok (.aload_n 0, 1) := by decide +kernel
theorem dX12_dot_124 : decode cX12_dot 124 = .ok (.getfield 9, 3) := by decide +kernel
theorem dX12_dot_127 : decode cX12_dot 127 = .ok (.bipush 28, 2) := by decide +kernel
theorem dX12_dot_129 : decode cX12_dot 129 = .ok (.iload 6, 2) := by decide +kernel
theorem dX12_dot_131 : decode cX12_dot 131 = .ok (.iadd, 1) := by decide +kernel
theorem dX12_dot_132 : decode cX12_dot 132 = .ok (.iload 4, 2) := by decide +kernel
theorem dX12_dot_134 : decode cX12_dot 134 = .ok (.iastore, 1) := by decide +kernel
theorem dX12_dot_135 : decode cX12_dot 135 = .ok (.aload_n 0, 1) := by decide +kernel
theorem dX12_dot_136 : decode cX12_dot 136 = .ok (.getfield 9, 3) := by decide +kernel
theorem dX12_dot_139 : decode cX12_dot 139 = .ok (.bipush 35, 2) := by decide +kernel
theorem dX12_dot_141 : decode cX12_dot 141 = .ok (.iload 6, 2) := by decide +kernel
theorem dX12_dot_143 : decode cX12_dot 143 = .ok (.iadd, 1) := by decide +kernel
theorem dX12_dot_144 : decode cX12_dot 144 = .ok (.iload 5, 2) := by decide +kernel
theorem dX12_dot_146 : decode cX12_dot 146 = .ok (.iastore, 1) := by decide +kernel
theorem dX12_dot_147 : decode cX12_dot 147 = .ok (.aload_n 0, 1) := by decide +kernel
theorem dX12_dot_148 : decode cX12_dot 148 = .ok (.getfield 9, 3) := by decide +kernel
theorem dX12_dot_151 : decode cX12_dot 151 = .ok (.bipush 42, 2) := by decide +kernel
theorem dX12_dot_153 : decode cX12_dot 153 = .ok (.iload 6, 2) := by decide +kernel
theorem dX12_dot_155 : decode cX12_dot 155 = .ok (.iadd, 1) := by decide +kernel
theorem dX12_dot_156 : decode cX12_dot 156 = .ok (.iconst 4, 1) := by decide +kernel
theorem dX12_dot_157 : decode cX12_dot 157 = .ok (.iastore, 1) := by decide +kernel
theorem dX12_dot_158 : decode cX12_dot 158 = .ok (.iconst 0, 1) := by decide +kernel
theorem dX12_dot_159 : decode cX12_dot 159 = .ok (.istore 7, 2) := by decide +kernel
theorem dX12_dot_161 : decode cX12_dot 161 = .ok (.iload 7, 2) := by decide +kernel
theorem dX12_dot_163 : decode cX12_dot 163 = .ok (.iconst 4, 1) := by decide +kernel
theorem dX12_dot_164 : decode cX12_dot 164 = .ok (.if_icmp .ge 25, 3) := by decide +kernel
theorem dX12_dot_167 : decode cX12_dot 167 = .ok (.aload_n 0, 1) := by decide +kernel
theorem dX12_dot_168 : decode cX12_dot 168 = .ok (.getfield 9, 3) := by decide +kernel
theorem dX12_dot_171 : decode cX12_dot 171 = .ok (.bipush 49, 2) := by decide +kernel
theorem dX12_dot_173 : decode cX12_dot 173 = .ok (.iconst 4, 1) := by decide +kernel
theorem dX12_dot_174 : decode cX12_dot 174 = .ok (.iload 6, 2) := by decide +kernel
theorem dX12_dot_176 : decode cX12_dot 176 = .ok (.imul, 1) := by decide +kernel
theorem dX12_dot_177 : decode cX12_dot 177 = .ok (.iadd, 1) := by decide +kernel
theorem dX12_dot_178 : decode cX12_dot 178 = .ok (.iload 7, 2) := by decide +kernel
theorem dX12_dot_180 : decode cX12_dot 180 = .ok (.iadd, 1) := by decide +kernel
theorem dX12_dot_181 : decode cX12_dot 181 = .ok (.iconst 0, 1) := by decide +kernel
theorem dX12_dot_182 : decode cX12_dot 182 = .ok (.iastore, 1) := by decide +kernel
theorem dX12_dot_183 : decode cX12_dot 183 = .ok (.iinc 7 1, 3) := by decide +kernel
theorem dX12_dot_186 : decode cX12_dot 186 = .ok (.goto (-25), 3) := by decide +kernel
theorem dX12_dot_189 : decode cX12_dot 189 = .ok (.aload_n 0, 1) := by decide +kernel
theorem dX12_dot_190 : decode cX12_dot 190 = .ok (.getfield 9, 3) := by decide +kernel
theorem dX12_dot_193 : decode cX12_dot 193 = .ok (.iconst 0, 1) := by decide +kernel
theorem dX12_dot_194 : decode cX12_dot 194 = .ok (.dup2, 1) := by decide +kernel
theorem dX12_dot_195 : decode cX12_dot 195 = .ok (.iaload, 1) := by decide +kernel
theorem dX12_dot_196 : decode cX12_dot 196 = .ok (.iconst 1, 1) := by decide +kernel
theorem dX12_dot_197 : decode cX12_dot 197 = .ok (.iadd, 1) := by decide +kernel
theorem dX12_dot_198 : decode cX12_dot 198 = .ok (.iastore, 1) := by decide +kernel
theorem dX12_dot_199 : decode cX12_dot 199 = .ok (.iload 6, 2) := by decide +kernel
theorem dX12_dot_201 : decode cX12_dot 201 = .ok (.ireturn, 1) := by decide +kernel
theorem dX12_placesOf_0 : decode cX12_placesOf 0 = .ok (.iconst 0, 1) := by decide +kernel
theorem dX12_placesOf_1 : decode cX12_placesOf 1 = .ok (.istore_n 3, 1) := by decide +kernel
theorem dX12_placesOf_2 : decode cX12_placesOf 2 = .ok (.iconst 0, 1) := by decide +kernel
theorem dX12_placesOf_3 : decode cX12_placesOf 3 = .ok (.istore 4, 2) := by decide +kernel
theorem dX12_placesOf_5 : decode cX12_placesOf 5 = .ok (.iload 4, 2) := by decide +kernel
theorem dX12_placesOf_7 : decode cX12_placesOf 7 = .ok (.iconst 4, 1) := by decide +kernel
theorem dX12_placesOf_8 : decode cX12_placesOf 8 = .ok (.if_icmp .ge 70, 3) := by decide +kernel
theorem dX12_placesOf_11 : decode cX12_placesOf 11 = .ok (.iload_n 2, 1) := by decide +kernel
theorem dX12_placesOf_12 : decode cX12_placesOf 12 = .ok (.bipush 7, 2) := by decide +kernel
theorem dX12_placesOf_14 : decode cX12_placesOf 14 = .ok (.if_icmp .ne 13, 3) := by decide +kernel
theorem dX12_placesOf_17 : decode cX12_placesOf 17 = .ok (.aload_n 0, 1) := by decide +kernel
theorem dX12_placesOf_18 : decode cX12_placesOf 18 = .ok (.iload_n 1, 1) := by decide +kernel
theorem dX12_placesOf_19 : decode cX12_placesOf 19 = .ok (.iload 4, 2) := by decide +kernel
theorem dX12_placesOf_21 : decode cX12_placesOf 21 = .ok (.invokevirtual 160, 3) := by decide +kernel
theorem dX12_placesOf_24 : decode cX12_placesOf 24 = .ok (.goto 30, 3) := by decide +kernel
theorem dX12_placesOf_27 : decode cX12_placesOf 27 = .ok (.iload_n 2, 1) := by decide +kernel
theorem dX12_placesOf_28 : decode cX12_placesOf 28 = .ok (.bipush 8, 2) := by decide +kernel
theorem dX12_placesOf_30 : decode cX12_placesOf 30 = .ok (.if_icmp .ne 17, 3) := by decide +kernel
theorem dX12_placesOf_33 : decode cX12_placesOf 33 = .ok (.aload_n 0, 1) := by decide +kernel
theorem dX12_placesOf_34 : decode cX12_placesOf 34 = .ok (.iload_n 1, 1) := by decide +kernel
theorem dX12_placesOf_35 : decode cX12_placesOf 35 = .ok (.iload 4, 2) := by decide +kernel
theorem dX12_placesOf_37 : decode cX12_placesOf 37 = .ok (.aload_n 0, 1) := by decide +kernel
theorem dX12_placesOf_38 : decode cX12_placesOf 38 = .ok (.invokevirtual 164, 3) := by decide +kernel
theorem dX12_placesOf_41 : decode cX12_placesOf 41 = .ok (.invokevirtual 167, 3) := by decide +kernel
theorem dX12_placesOf_44 : decode cX12_placesOf 44 = .ok (.goto 10, 3) := by decide +kernel
theorem dX12_placesOf_47 : decode cX12_placesOf 47 = .ok (.aload_n 0, 1) := by decide +kernel
theorem dX12_placesOf_48 : decode cX12_placesOf 48 = .ok (.iload_n 1, 1) := by decide +kernel
theorem dX12_placesOf_49 : decode cX12_placesOf 49 = .ok (.iload 4, 2) := by decide +kernel
theorem dX12_placesOf_51 : decode cX12_placesOf 51 = .ok (.invokevirtual 186, 3) := by decide +kernel
theorem dX12_placesOf_54 : decode cX12_placesOf 54 = .ok (.istore 5, 2) := by decide +kernel
theorem dX12_placesOf_56 : decode cX12_placesOf 56 = .ok (.iload_n 3, 1) := by decide +kernel
theorem dX12_placesOf_57 : decode cX12_placesOf 57 = .ok (.iload 5, 2) := by decide +kernel
theorem dX12_placesOf_59 : decode cX12_placesOf 59 = .ok (.ifCond .eq 10, 3) := by decide +kernel
theorem dX12_placesOf_62 : decode cX12_placesOf 62 = .ok (.iconst 1, 1) := by decide +kernel
theorem dX12_placesOf_63 : decode cX12_placesOf 63 = .ok (.iload 4, 2) := by decide +kernel
theorem dX12_placesOf_65 : decode cX12_placesOf 65 = .ok (.ishl, 1) := by decide +kernel
theorem dX12_placesOf_66 : decode cX12_placesOf 66 = .ok (.goto 4, 3) := by decide +kernel
theorem dX12_placesOf_69 : decode cX12_placesOf 69 = .ok (.iconst 0, 1) := by decide +kernel
theorem dX12_placesOf_70 : decode cX12_placesOf 70 = .ok (.ior, 1) := by decide +kernel
theorem dX12_placesOf_71 : decode cX12_placesOf 71 = .ok (.istore_n 3, 1) := by decide +kernel
theorem dX12_placesOf_72 : decode cX12_placesOf 72 = .ok (.iinc 4 1, 3) := by decide +kernel
theorem dX12_placesOf_75 : decode cX12_placesOf 75 = .ok (.goto (-70), 3) := by decide +kernel
theorem dX12_placesOf_78 : decode cX12_placesOf 78 = .ok (.iload_n 3, 1) := by decide +kernel
theorem dX12_placesOf_79 : decode cX12_placesOf 79 = .ok (.ireturn, 1) := by decide +kernel
theorem dX12_of_0 : decode cX12_of 0 = .ok (.aload_n 0, 1) := by decide +kernel
theorem dX12_of_1 : decode cX12_of 1 = .ok (.iload_n 1, 1) := by decide +kernel
theorem dX12_of_2 : decode cX12_of 2 = .ok (.invokevirtual 189, 3) := by decide +kernel
theorem dX12_of_5 : decode cX12_of 5 = .ok (.ifCond .eq 13, 3) := by decide +kernel
theorem dX12_of_8 : decode cX12_of 8 = .ok (.iload_n 2, 1) := by decide +kernel
theorem dX12_of_9 : decode cX12_of 9 = .ok (.iconst 0, 1) := by decide +kernel
theorem dX12_of_10 : decode cX12_of 10 = .ok (.bipush 9, 2) := by decide +kernel
theorem dX12_of_12 : decode cX12_of 12 = .ok (.invokestatic 56, 3) := by decide +kernel
theorem dX12_of_15 : decode cX12_of 15 = .ok (.ifCond .ne 5, 3) := by decide +kernel
theorem dX12_of_18 : decode cX12_of 18 = .ok (.iconst (-1), 1) := by decide +kernel
theorem dX12_of_19 : decode cX12_of 19 = .ok (.ireturn, 1) := by decide +kernel
theorem dX12_of_20 : decode cX12_of 20 = .ok (.iload_n 2, 1) := by decide +kernel
theorem dX12_of_21 : decode cX12_of 21 = .ok (.iconst 5, 1) := by decide +kernel
theorem dX12_of_22 : decode cX12_of 22 = .ok (.if_icmp .ge 20, 3) := by decide +kernel
theorem dX12_of_25 : decode cX12_of 25 = .ok (.aload_n 0, 1) := by decide +kernel
theorem dX12_of_26 : decode cX12_of 26 = .ok (.getfield 9, 3) := by decide +kernel
theorem dX12_of_29 : decode cX12_of 29 = .ok (.bipush 7, 2) := by decide +kernel
theorem dX12_of_31 : decode cX12_of 31 = .ok (.bipush 7, 2) := by decide +kernel
theorem dX12_of_33 : decode cX12_of 33 = .ok (.iload_n 2, 1) := by decide +kernel
theorem dX12_of_34 : decode cX12_of 34 = .ok (.imul, 1) := by decide +kernel
theorem dX12_of_35 : decode cX12_of 35 = .ok (.iadd, 1) := by decide +kernel
theorem dX12_of_36 : decode cX12_of 36 = .ok (.iload_n 1, 1) := by decide +kernel
theorem dX12_of_37 : decode cX12_of 37 = .ok (.iadd, 1) := by decide +kernel
theorem dX12_of_38 : decode cX12_of 38 = .ok (.iaload, 1) := by decide +kernel
theorem dX12_of_39 : decode cX12_of 39 = .ok (.goto 43, 3) := by decide +kernel
theorem dX12_of_42 : decode cX12_of 42 = .ok (.iload_n 2, 1) := by decide +kernel
theorem dX12_of_43 : decode cX12_of 43 = .ok (.iconst 5, 1) := by decide +kernel
theorem dX12_of_44 : decode cX12_of 44 = .ok (.if_icmp .ne 11, 3) := by decide +kernel
theorem dX12_of_47 : decode cX12_of 47 = .ok (.aload_n 0, 1) := by decide +kernel
theorem dX12_of_48 : decode cX12_of 48 = .ok (.iload_n 1, 1) := by decide +kernel
theorem dX12_of_49 : decode cX12_of 49 = .ok (.invokevirtual 146, 3) := by decide +kernel
theorem dX12_of_52 : decode cX12_of 52 = .ok (.goto 30, 3) := by decide +kernel
theorem dX12_of_55 : decode cX12_of 55 = .ok (.iload_n 2, 1) := by decide +kernel
theorem dX12_of_56 : decode cX12_of 56 = .ok (.bipush 6, 2) := by decide +kernel
theorem dX12_of_58 : decode cX12_of 58 = .ok (.if_icmp .ne 18, 3) := by decide +kernel
theorem dX12_of_61 : decode cX12_of 61 = .ok (.aload_n 0, 1) := by decide +kernel
theorem dX12_of_62 : decode cX12_of 62 = .ok (.getfield 9, 3) := by decide +kernel
theorem dX12_of_65 : decode cX12_of 65 = .ok (.bipush 42, 2) := by decide +kernel
theorem dX12_of_67 : decode cX12_of 67 = .ok (.iload_n 1, 1) := by decide +kernel
theorem dX12_of_68 : decode cX12_of 68 = .ok (.iadd, 1) := by decide +kernel
theorem dX12_of_69 : decode cX12_of 69 = .ok (.iaload, 1) := by decide +kernel
theorem dX12_of_70 : decode cX12_of 70 = .ok (.invokestatic 193, 3) := by decide +kernel
theorem dX12_of_73 : decode cX12_of 73 = .ok (.goto 9, 3) := by decide +kernel
theorem dX12_of_76 : decode cX12_of 76 = .ok (.aload_n 0, 1) := by decide +kernel
theorem dX12_of_77 : decode cX12_of 77 = .ok (.iload_n 1, 1) := by decide +kernel
theorem dX12_of_78 : decode cX12_of 78 = .ok (.iload_n 2, 1) := by decide +kernel
theorem dX12_of_79 : decode cX12_of 79 = .ok (.invokevirtual 196, 3) := by decide +kernel
theorem dX12_of_82 : decode cX12_of 82 = .ok (.ireturn, 1) := by decide +kernel
theorem dX12_row_0 : decode cX12_row 0 = .ok (.aload_n 0, 1) := by decide +kernel
theorem dX12_row_1 : decode cX12_row 1 = .ok (.iload_n 1, 1) := by decide +kernel
theorem dX12_row_2 : decode cX12_row 2 = .ok (.invokevirtual 189, 3) := by decide +kernel
theorem dX12_row_5 : decode cX12_row 5 = .ok (.ifCond .eq 10, 3) := by decide +kernel
theorem dX12_row_8 : decode cX12_row 8 = .ok (.iload_n 2, 1) := by decide +kernel
theorem dX12_row_9 : decode cX12_row 9 = .ok (.invokestatic 199, 3) := by decide +kernel
theorem dX12_row_12 : decode cX12_row 12 = .ok (.ifCond .ne 5, 3) := by decide +kernel
theorem dX12_row_15 : decode cX12_row 15 = .ok (.iconst (-1), 1) := by decide +kernel
theorem dX12_row_16 : decode cX12_row 16 = .ok (.ireturn, 1) := by decide +kernel
theorem dX12_row_17 : decode cX12_row 17 = .ok (.iload_n 3, 1) := by decide +kernel
theorem dX12_row_18 : decode cX12_row 18 = .ok (.iconst 0, 1) := by decide +kernel
theorem dX12_row_19 : decode cX12_row 19 = .ok (.bipush 9, 2) := by decide +kernel
theorem dX12_row_21 : decode cX12_row 21 = .ok (.invokestatic 56, 3) := by decide +kernel
theorem dX12_row_24 : decode cX12_row 24 = .ok (.ifCond .ne 6, 3) := by decide +kernel
theorem dX12_row_27 : decode cX12_row 27 = .ok (.bipush (-2), 2) := by decide +kernel
theorem dX12_row_29 : decode cX12_row 29 = .ok (.ireturn, 1) := by decide +kernel
theorem dX12_row_30 : decode cX12_row 30 = .ok (.aload_n 0, 1) := by decide +kernel
theorem dX12_row_31 : decode cX12_row 31 = .ok (.getfield 9, 3) := by decide +kernel
theorem dX12_row_34 : decode cX12_row 34 = .ok (.bipush 7, 2) := by decide +kernel
theorem dX12_row_36 : decode cX12_row 36 = .ok (.iload_n 1, 1) := by decide +kernel
theorem dX12_row_37 : decode cX12_row 37 = .ok (.iadd, 1) := by decide +kernel
theorem dX12_row_38 : decode cX12_row 38 = .ok (.iaload, 1) := by decide +kernel
theorem dX12_row_39 : decode cX12_row 39 = .ok (.bipush 6, 2) := by decide +kernel
theorem dX12_row_41 : decode cX12_row 41 = .ok (.if_icmp .eq 6, 3) := by decide +kernel
theorem dX12_row_44 : decode cX12_row 44 = .ok (.bipush (-3), 2) := by decide +kernel
theorem dX12_row_46 : decode cX12_row 46 = .ok (.ireturn, 1) := by decide +kernel
theorem dX12_row_47 : decode cX12_row 47 = .ok (.aload_n 0, 1) := by decide +kernel
theorem dX12_row_48 : decode cX12_row 48 = .ok (.getfield 9, 3) := by decide +kernel
theorem dX12_row_51 : decode cX12_row 51 = .ok (.bipush 49, 2) := by decide +kernel
theorem dX12_row_53 : decode cX12_row 53 = .ok (.iconst 4, 1) := by decide +kernel
theorem dX12_row_54 : decode cX12_row 54 = .ok (.iload_n 1, 1) := by decide +kernel
theorem dX12_row_55 : decode cX12_row 55 = .ok (.imul, 1) := by decide +kernel
theorem dX12_row_56 : decode cX12_row 56 = .ok (.iadd, 1) := by decide +kernel
theorem dX12_row_57 : decode cX12_row 57 = .ok (.iload_n 2, 1) := by decide +kernel
theorem dX12_row_58 : decode cX12_row 58 = .ok (.iadd, 1) := by decide +kernel
theorem dX12_row_59 : decode cX12_row 59 = .ok (.iaload, 1) := by decide +kernel
theorem dX12_row_60 : decode cX12_row 60 = .ok (.istore 4, 2) := by decide +kernel
theorem dX12_row_62 : decode cX12_row 62 = .ok (.aload_n 0, 1) := by decide +kernel
theorem dX12_row_63 : decode cX12_row 63 = .ok (.getfield 9, 3) := by decide +kernel
theorem dX12_row_66 : decode cX12_row 66 = .ok (.bipush 49, 2) := by decide +kernel
theorem dX12_row_68 : decode cX12_row 68 = .ok (.iconst 4, 1) := by decide +kernel
theorem dX12_row_69 : decode cX12_row 69 = .ok (.iload_n 1, 1) := by decide +kernel
theorem dX12_row_70 : decode cX12_row 70 = .ok (.imul, 1) := by decide +kernel
theorem dX12_row_71 : decode cX12_row 71 = .ok (.iadd, 1) := by decide +kernel
theorem dX12_row_72 : decode cX12_row 72 = .ok (.iload_n 2, 1) := by decide +kernel
theorem dX12_row_73 : decode cX12_row 73 = .ok (.iadd, 1) := by decide +kernel
theorem dX12_row_74 : decode cX12_row 74 = .ok (.iload_n 3, 1) := by decide +kernel
theorem dX12_row_75 : decode cX12_row 75 = .ok (.iastore, 1) := by decide +kernel
theorem dX12_row_76 : decode cX12_row 76 = .ok (.iload 4, 2) := by decide +kernel
theorem dX12_row_78 : decode cX12_row 78 = .ok (.ireturn, 1) := by decide +kernel
theorem dX12_good_0 : decode cX12_good 0 = .ok (.aload_n 0, 1) := by decide +kernel
theorem dX12_good_1 : decode cX12_good 1 = .ok (.iload_n 1, 1) := by decide +kernel
theorem dX12_good_2 : decode cX12_good 2 = .ok (.invokevirtual 189, 3) := by decide +kernel
theorem dX12_good_5 : decode cX12_good 5 = .ok (.ifCond .eq 19, 3) := by decide +kernel
theorem dX12_good_8 : decode cX12_good 8 = .ok (.iload_n 2, 1) := by decide +kernel
theorem dX12_good_9 : decode cX12_good 9 = .ok (.invokestatic 199, 3) := by decide +kernel
theorem dX12_good_12 : decode cX12_good 12 = .ok (.ifCond .eq 12, 3) := by decide +kernel
theorem dX12_good_15 : decode cX12_good 15 = .ok (.aload_n 0, 1) := by decide +kernel
theorem dX12_good_16 : decode cX12_good 16 = .ok (.iload_n 1, 1) := by decide +kernel
theorem dX12_good_17 : decode cX12_good 17 = .ok (.iload_n 2, 1) := by decide +kernel
theorem dX12_good_18 : decode cX12_good 18 = .ok (.invokevirtual 180, 3) := by decide +kernel
theorem dX12_good_21 : decode cX12_good 21 = .ok (.goto 6, 3) := by decide +kernel
theorem dX12_good_24 : decode cX12_good 24 = .ok (.sipush (-10001), 3) := by decide +kernel
theorem dX12_good_27 : decode cX12_good 27 = .ok (.ireturn, 1) := by decide +kernel
theorem dX12_lay_0 : decode cX12_lay 0 = .ok (.aload_n 0, 1) := by decide +kernel
theorem dX12_lay_1 : decode cX12_lay 1 = .ok (.iload_n 1, 1) := by decide +kernel
theorem dX12_lay_2 : decode cX12_lay 2 = .ok (.invokevirtual 189, 3) := by decide +kernel
theorem dX12_lay_5 : decode cX12_lay 5 = .ok (.ifCond .eq 10, 3) := by decide +kernel
theorem dX12_lay_8 : decode cX12_lay 8 = .ok (.iload_n 2, 1) := by decide +kernel
theorem dX12_lay_9 : decode cX12_lay 9 = .ok (.invokestatic 199, 3) := by decide +kernel
theorem dX12_lay_12 : decode cX12_lay 12 = .ok (.ifCond .ne 5, 3) := by decide +kernel
theorem dX12_lay_15 : decode cX12_lay 15 = .ok (.iconst (-1), 1) := by decide +kernel
theorem dX12_lay_16 : decode cX12_lay 16 = .ok (.ireturn, 1) := by decide +kernel
theorem dX12_lay_17 : decode cX12_lay 17 = .ok (.aload_n 0, 1) := by decide +kernel
theorem dX12_lay_18 : decode cX12_lay 18 = .ok (.iload_n 1, 1) := by decide +kernel
theorem dX12_lay_19 : decode cX12_lay 19 = .ok (.iload_n 2, 1) := by decide +kernel
theorem dX12_lay_20 : decode cX12_lay 20 = .ok (.invokevirtual 186, 3) := by decide +kernel
theorem dX12_lay_23 : decode cX12_lay 23 = .ok (.ifCond .ne 6, 3) := by decide +kernel
theorem dX12_lay_26 : decode cX12_lay 26 = .ok (.bipush (-3), 2) := by decide +kernel
theorem dX12_lay_28 : decode cX12_lay 28 = .ok (.ireturn, 1) := by decide +kernel
theorem dX12_lay_29 : decode cX12_lay 29 = .ok (.aload_n 0, 1) := by decide +kernel
theorem dX12_lay_30 : decode cX12_lay 30 = .ok (.getfield 9, 3) := by decide +kernel
theorem dX12_lay_33 : decode cX12_lay 33 = .ok (.bipush 42, 2) := by decide +kernel
theorem dX12_lay_35 : decode cX12_lay 35 = .ok (.iload_n 1, 1) := by decide +kernel
theorem dX12_lay_36 : decode cX12_lay 36 = .ok (.iadd, 1) := by decide +kernel
theorem dX12_lay_37 : decode cX12_lay 37 = .ok (.iaload, 1) := by decide +kernel
theorem dX12_lay_38 : decode cX12_lay 38 = .ok (.invokestatic 193, 3) := by decide +kernel
theorem dX12_lay_41 : decode cX12_lay 41 = .ok (.istore_n 3, 1) := by decide +kernel
theorem dX12_lay_42 : decode cX12_lay 42 = .ok (.aload_n 0, 1) := by decide +kernel
theorem dX12_lay_43 : decode cX12_lay 43 = .ok (.getfield 9, 3) := by decide +kernel
theorem dX12_lay_46 : decode cX12_lay 46 = .ok (.bipush 42, 2) := by decide +kernel
theorem dX12_lay_48 : decode cX12_lay 48 = .ok (.iload_n 1, 1) := by decide +kernel
theorem dX12_lay_49 : decode cX12_lay 49 = .ok (.iadd, 1) := by decide +kernel
theorem dX12_lay_50 : decode cX12_lay 50 = .ok (.iload_n 2, 1) := by decide +kernel
theorem dX12_lay_51 : decode cX12_lay 51 = .ok (.iastore, 1) := by decide +kernel
theorem dX12_lay_52 : decode cX12_lay 52 = .ok (.iload_n 3, 1) := by decide +kernel
theorem dX12_lay_53 : decode cX12_lay 53 = .ok (.ireturn, 1) := by decide +kernel
theorem dX12_lift_0 : decode cX12_lift 0 = .ok (.aload_n 0, 1) := by decide +kernel
theorem dX12_lift_1 : decode cX12_lift 1 = .ok (.iload_n 1, 1) := by decide +kernel
theorem dX12_lift_2 : decode cX12_lift 2 = .ok (.invokevirtual 189, 3) := by decide +kernel
theorem dX12_lift_5 : decode cX12_lift 5 = .ok (.ifCond .ne 5, 3) := by decide +kernel
theorem dX12_lift_8 : decode cX12_lift 8 = .ok (.iconst (-1), 1) := by decide +kernel
theorem dX12_lift_9 : decode cX12_lift 9 = .ok (.ireturn, 1) := by decide +kernel
theorem dX12_lift_10 : decode cX12_lift 10 = .ok (.aload_n 0, 1) := by decide +kernel
theorem dX12_lift_11 : decode cX12_lift 11 = .ok (.getfield 9, 3) := by decide +kernel
theorem dX12_lift_14 : decode cX12_lift 14 = .ok (.bipush 42, 2) := by decide +kernel
theorem dX12_lift_16 : decode cX12_lift 16 = .ok (.iload_n 1, 1) := by decide +kernel
theorem dX12_lift_17 : decode cX12_lift 17 = .ok (.iadd, 1) := by decide +kernel
theorem dX12_lift_18 : decode cX12_lift 18 = .ok (.iaload, 1) := by decide +kernel
theorem dX12_lift_19 : decode cX12_lift 19 = .ok (.invokestatic 193, 3) := by decide +kernel
theorem dX12_lift_22 : decode cX12_lift 22 = .ok (.istore_n 2, 1) := by decide +kernel
theorem dX12_lift_23 : decode cX12_lift 23 = .ok (.aload_n 0, 1) := by decide +kernel
theorem dX12_lift_24 : decode cX12_lift 24 = .ok (.getfield 9, 3) := by decide +kernel
theorem dX12_lift_27 : decode cX12_lift 27 = .ok (.bipush 42, 2) := by decide +kernel
theorem dX12_lift_29 : decode cX12_lift 29 = .ok (.iload_n 1, 1) := by decide +kernel
theorem dX12_lift_30 : decode cX12_lift 30 = .ok (.iadd, 1) := by decide +kernel
theorem dX12_lift_31 : decode cX12_lift 31 = .ok (.iconst 4, 1) := by decide +kernel
theorem dX12_lift_32 : decode cX12_lift 32 = .ok (.iastore, 1) := by decide +kernel
theorem dX12_lift_33 : decode cX12_lift 33 = .ok (.iload_n 2, 1) := by decide +kernel
theorem dX12_lift_34 : decode cX12_lift 34 = .ok (.ireturn, 1) := by decide +kernel
theorem dX12_farFrom_0 : decode cX12_farFrom 0 = .ok (.aload_n 0, 1) := by decide +kernel
theorem dX12_farFrom_1 : decode cX12_farFrom 1 = .ok (.getfield 9, 3) := by decide +kernel
theorem dX12_farFrom_4 : decode cX12_farFrom 4 = .ok (.bipush 42, 2) := by decide +kernel
theorem dX12_farFrom_6 : decode cX12_farFrom 6 = .ok (.iload_n 1, 1) := by decide +kernel
theorem dX12_farFrom_7 : decode cX12_farFrom 7 = .ok (.iadd, 1) := by decide +kernel
theorem dX12_farFrom_8 : decode cX12_farFrom 8 = .ok (.iaload, 1) := by decide +kernel
theorem dX12_farFrom_9 : decode cX12_farFrom 9 = .ok (.istore_n 3, 1) := by decide +kernel
theorem dX12_farFrom_10 : decode cX12_farFrom 10 = .ok (.aload_n 0, 1) := by decide +kernel
theorem dX12_farFrom_11 : decode cX12_farFrom 11 = .ok (.iload_n 1, 1) := by decide +kernel
theorem dX12_farFrom_12 : decode cX12_farFrom 12 = .ok (.iload_n 3, 1) := by decide +kernel
theorem dX12_farFrom_13 : decode cX12_farFrom 13 = .ok (.invokevirtual 150, 3) := by decide +kernel
theorem dX12_farFrom_16 : decode cX12_farFrom 16 = .ok (.aload_n 0, 1) := by decide +kernel
theorem dX12_farFrom_17 : decode cX12_farFrom 17 = .ok (.iload_n 1, 1) := by decide +kernel
theorem dX12_farFrom_18 : decode cX12_farFrom 18 = .ok (.invokevirtual 146, 3) := by decide +kernel
theorem dX12_farFrom_21 : decode cX12_farFrom 21 = .ok (.iconst 2, 1) := by decide +kernel
theorem dX12_farFrom_22 : decode cX12_farFrom 22 = .ok (.idiv, 1) := by decide +kernel
theorem dX12_farFrom_23 : decode cX12_farFrom 23 = .ok (.iadd, 1) := by decide +kernel
theorem dX12_farFrom_24 : decode cX12_farFrom 24 = .ok (.aload_n 0, 1) := by decide +kernel
theorem dX12_farFrom_25 : decode cX12_farFrom 25 = .ok (.getfield 9, 3) := by decide +kernel
theorem dX12_farFrom_28 : decode cX12_farFrom 28 = .ok (.bipush 28, 2) := by decide +kernel
theorem dX12_farFrom_30 : decode cX12_farFrom 30 = .ok (.iload_n 2, 1) := by decide +kernel
theorem dX12_farFrom_31 : decode cX12_farFrom 31 = .ok (.iadd, 1) := by decide +kernel
theorem dX12_farFrom_32 : decode cX12_farFrom 32 = .ok (.iaload, 1) := by decide +kernel
theorem dX12_farFrom_33 : decode cX12_farFrom 33 = .ok (.invokestatic 202, 3) := by decide +kernel
theorem dX12_farFrom_36 : decode cX12_farFrom 36 = .ok (.aload_n 0, 1) := by decide +kernel
theorem dX12_farFrom_37 : decode cX12_farFrom 37 = .ok (.iload_n 1, 1) := by decide +kernel
theorem dX12_farFrom_38 : decode cX12_farFrom 38 = .ok (.iload_n 3, 1) := by decide +kernel
theorem dX12_farFrom_39 : decode cX12_farFrom 39 = .ok (.invokevirtual 153, 3) := by decide +kernel
theorem dX12_farFrom_42 : decode cX12_farFrom 42 = .ok (.aload_n 0, 1) := by decide +kernel
theorem dX12_farFrom_43 : decode cX12_farFrom 43 = .ok (.getfield 9, 3) := by decide +kernel
theorem dX12_farFrom_46 : decode cX12_farFrom 46 = .ok (.bipush 35, 2) := by decide +kernel
theorem dX12_farFrom_48 : decode cX12_farFrom 48 = .ok (.iload_n 2, 1) := by decide +kernel
theorem dX12_farFrom_49 : decode cX12_farFrom 49 = .ok (.iadd, 1) := by decide +kernel
theorem dX12_farFrom_50 : decode cX12_farFrom 50 = .ok (.iaload, 1) := by decide +kernel
theorem dX12_farFrom_51 : decode cX12_farFrom 51 = .ok (.invokestatic 202, 3) := by decide +kernel
theorem dX12_farFrom_54 : decode cX12_farFrom 54 = .ok (.iadd, 1) := by decide +kernel
theorem dX12_farFrom_55 : decode cX12_farFrom 55 = .ok (.ireturn, 1) := by decide +kernel
theorem dX12_isMistaken_0 : decode cX12_isMistaken 0 = .ok (.iconst 0, 1) := by decide +kernel
theorem dX12_isMistaken_1 : decode cX12_isMistaken 1 = .ok (.istore_n 2, 1) := by decide +kernel
theorem dX12_isMistaken_2 : decode cX12_isMistaken 2 = .ok (.iconst 0, 1) := by decide +kernel
theorem dX12_isMistaken_3 : decode cX12_isMistaken 3 = .ok (.istore_n 3, 1) := by decide +kernel
theorem dX12_isMistaken_4 : decode cX12_isMistaken 4 = .ok (.iload_n 3, 1) := by decide +kernel
theorem dX12_isMistaken_5 : decode cX12_isMistaken 5 = .ok (.aload_n 0, 1) := by decide +kernel
theorem dX12_isMistaken_6 : decode cX12_isMistaken 6 = .ok (.getfield 9, 3) := by decide +kernel
theorem dX12_isMistaken_9 : decode cX12_isMistaken 9 = .ok (.iconst 0, 1) := by decide +kernel
theorem dX12_isMistaken_10 : decode cX12_isMistaken 10 = .ok (.iaload, 1) := by decide +kernel
theorem dX12_isMistaken_11 : decode cX12_isMistaken 11 = .ok (.if_icmp .ge 47, 3) := by decide +kernel
theorem dX12_isMistaken_14 : decode cX12_isMistaken 14 = .ok (.iload_n 2, 1) := by decide +kernel
theorem dX12_isMistaken_15 : decode cX12_isMistaken 15 = .ok (.ifCond .ne 31, 3) := by decide +kernel
theorem dX12_isMistaken_18 : decode cX12_isMistaken 18 = .ok (.aload_n 0, 1) := by decide +kernel
theorem dX12_isMistaken_19 : decode cX12_isMistaken 19 = .ok (.getfield 9, 3) := by decide +kernel
theorem dX12_isMistaken_22 : decode cX12_isMistaken 22 = .ok (.bipush 42, 2) := by decide +kernel
theorem dX12_isMistaken_24 : decode cX12_isMistaken 24 = .ok (.iload_n 1, 1) := by decide +kernel
theorem dX12_isMistaken_25 : decode cX12_isMistaken 25 = .ok (.iadd, 1) := by decide +kernel
theorem dX12_isMistaken_26 : decode cX12_isMistaken 26 = .ok (.iaload, 1) := by decide +kernel
theorem dX12_isMistaken_27 : decode cX12_isMistaken 27 = .ok (.iconst 4, 1) := by decide +kernel
theorem dX12_isMistaken_28 : decode cX12_isMistaken 28 = .ok (.if_icmp .eq 22, 3) := by decide +kernel
theorem dX12_isMistaken_31 : decode cX12_isMistaken 31 = .ok (.aload_n 0, 1) := by decide +kernel
theorem dX12_isMistaken_32 : decode cX12_isMistaken 32 = .ok (.iload_n 1, 1) := by decide +kernel
theorem dX12_isMistaken_33 : decode cX12_isMistaken 33 = .ok (.iload_n 3, 1) := by decide +kernel
theorem dX12_isMistaken_34 : decode cX12_isMistaken 34 = .ok (.invokevirtual 205, 3) := by decide +kernel
theorem dX12_isMistaken_37 : decode cX12_isMistaken 37 = .ok (.aload_n 0, 1) := by decide +kernel
theorem dX12_isMistaken_38 : decode cX12_isMistaken 38 = .ok (.iload_n 1, 1) := by decide +kernel
theorem dX12_isMistaken_39 : decode cX12_isMistaken 39 = .ok (.iload_n 1, 1) := by decide +kernel
theorem dX12_isMistaken_40 : decode cX12_isMistaken 40 = .ok (.invokevirtual 205, 3) := by decide +kernel
theorem dX12_isMistaken_43 : decode cX12_isMistaken 43 = .ok (.if_icmp .ge 7, 3) := by decide +kernel
theorem dX12_isMistaken_46 : decode cX12_isMistaken 46 = .ok (.iconst 1, 1) := by decide +kernel
theorem dX12_isMistaken_47 : decode cX12_isMistaken 47 = .ok (.goto 4, 3) := by decide +kernel
theorem dX12_isMistaken_50 : decode cX12_isMistaken 50 = .ok (.iconst 0, 1) := by decide +kernel
theorem dX12_isMistaken_51 : decode cX12_isMistaken 51 = .ok (.istore_n 2, 1) := by decide +kernel
theorem dX12_isMistaken_52 : decode cX12_isMistaken 52 = .ok (.iinc 3 1, 3) := by decide +kernel
theorem dX12_isMistaken_55 : decode cX12_isMistaken 55 = .ok (.goto (-51), 3) := by decide +kernel
theorem dX12_isMistaken_58 : decode cX12_isMistaken 58 = .ok (.iload_n 2, 1) := by decide +kernel
theorem dX12_isMistaken_59 : decode cX12_isMistaken 59 = .ok (.ireturn, 1) := by decide +kernel
theorem dX12_told_0 : decode cX12_told 0 = .ok (.iconst 0, 1) := by decide +kernel
theorem dX12_told_1 : decode cX12_told 1 = .ok (.istore_n 2, 1) := by decide +kernel
theorem dX12_told_2 : decode cX12_told 2 = .ok (.iconst 0, 1) := by decide +kernel
theorem dX12_told_3 : decode cX12_told 3 = .ok (.istore_n 3, 1) := by decide +kernel
theorem dX12_told_4 : decode cX12_told 4 = .ok (.iconst 0, 1) := by decide +kernel
theorem dX12_told_5 : decode cX12_told 5 = .ok (.istore 4, 2) := by decide +kernel
theorem dX12_told_7 : decode cX12_told 7 = .ok (.iload 4, 2) := by decide +kernel
theorem dX12_told_9 : decode cX12_told 9 = .ok (.aload_n 0, 1) := by decide +kernel
theorem dX12_told_10 : decode cX12_told 10 = .ok (.getfield 9, 3) := by decide +kernel
theorem dX12_told_13 : decode cX12_told 13 = .ok (.iconst 0, 1) := by decide +kernel
theorem dX12_told_14 : decode cX12_told 14 = .ok (.iaload, 1) := by decide +kernel
theorem dX12_told_15 : decode cX12_told 15 = .ok (.if_icmp .ge 54, 3) := by decide +kernel
theorem dX12_told_18 : decode cX12_told 18 = .ok (.iload_n 2, 1) := by decide +kernel
theorem dX12_told_19 : decode cX12_told 19 = .ok (.aload_n 0, 1) := by decide +kernel
theorem dX12_told_20 : decode cX12_told 20 = .ok (.iload 4, 2) := by decide +kernel
theorem dX12_told_22 : decode cX12_told 22 = .ok (.invokevirtual 208, 3) := by decide +kernel
theorem dX12_told_25 : decode cX12_told 25 = .ok (.ifCond .eq 10, 3) := by decide +kernel
theorem dX12_told_28 : decode cX12_told 28 = .ok (.iconst 1, 1) := by decide +kernel
theorem dX12_told_29 : decode cX12_told 29 = .ok (.iload 4, 2) := by decide +kernel
theorem dX12_told_31 : decode cX12_told 31 = .ok (.ishl, 1) := by decide +kernel
theorem dX12_told_32 : decode cX12_told 32 = .ok (.goto 4, 3) := by decide +kernel
theorem dX12_told_35 : decode cX12_told 35 = .ok (.iconst 0, 1) := by decide +kernel
theorem dX12_told_36 : decode cX12_told 36 = .ok (.ior, 1) := by decide +kernel
theorem dX12_told_37 : decode cX12_told 37 = .ok (.istore_n 2, 1) := by decide +kernel
theorem dX12_told_38 : decode cX12_told 38 = .ok (.iload_n 3, 1) := by decide +kernel
theorem dX12_told_39 : decode cX12_told 39 = .ok (.aload_n 0, 1) := by decide +kernel
theorem dX12_told_40 : decode cX12_told 40 = .ok (.getfield 9, 3) := by decide +kernel
theorem dX12_told_43 : decode cX12_told 43 = .ok (.bipush 42, 2) := by decide +kernel
theorem dX12_told_45 : decode cX12_told 45 = .ok (.iload 4, 2) := by decide +kernel
theorem dX12_told_47 : decode cX12_told 47 = .ok (.iadd, 1) := by decide +kernel
theorem dX12_told_48 : decode cX12_told 48 = .ok (.iaload, 1) := by decide +kernel
theorem dX12_told_49 : decode cX12_told 49 = .ok (.iconst 4, 1) := by decide +kernel
theorem dX12_told_50 : decode cX12_told 50 = .ok (.if_icmp .ne 7, 3) := by decide +kernel
theorem dX12_told_53 : decode cX12_told 53 = .ok (.iconst 0, 1) := by decide +kernel
theorem dX12_told_54 : decode cX12_told 54 = .ok (.goto 7, 3) := by decide +kernel
theorem dX12_told_57 : decode cX12_told 57 = .ok (.iconst 1, 1) := by decide +kernel
theorem dX12_told_58 : decode cX12_told 58 = .ok (.iload 4, 2) := by decide +kernel
theorem dX12_told_60 : decode cX12_told 60 = .ok (.ishl, 1) := by decide +kernel
theorem dX12_told_61 : decode cX12_told 61 = .ok (.ior, 1) := by decide +kernel
theorem dX12_told_62 : decode cX12_told 62 = .ok (.istore_n 3, 1) := by decide +kernel
theorem dX12_told_63 : decode cX12_told 63 = .ok (.iinc 4 1, 3) := by decide +kernel
theorem dX12_told_66 : decode cX12_told 66 = .ok (.goto (-59), 3) := by decide +kernel
theorem dX12_told_69 : decode cX12_told 69 = .ok (.iload_n 1, 1) := by decide +kernel
theorem dX12_told_70 : decode cX12_told 70 = .ok (.tableswitch 62 0 5 #[38, 43, 48, 53, 58, 60], 38) := by decide +kernel
theorem dX12_told_108 : decode cX12_told 108 = .ok (.aload_n 0, 1) := by decide +kernel
theorem dX12_told_109 : decode cX12_told 109 = .ok (.invokevirtual 164, 3) := by decide +kernel
theorem dX12_told_112 : decode cX12_told 112 = .ok (.ireturn, 1) := by decide +kernel
theorem dX12_told_113 : decode cX12_told 113 = .ok (.aload_n 0, 1) := by decide +kernel
theorem dX12_told_114 : decode cX12_told 114 = .ok (.invokevirtual 174, 3) := by decide +kernel
theorem dX12_told_117 : decode cX12_told 117 = .ok (.ireturn, 1) := by decide +kernel
theorem dX12_told_118 : decode cX12_told 118 = .ok (.aload_n 0, 1) := by decide +kernel
theorem dX12_told_119 : decode cX12_told 119 = .ok (.invokevirtual 211, 3) := by decide +kernel
theorem dX12_told_122 : decode cX12_told 122 = .ok (.ireturn, 1) := by decide +kernel
theorem dX12_told_123 : decode cX12_told 123 = .ok (.aload_n 0, 1) := by decide +kernel
theorem dX12_told_124 : decode cX12_told 124 = .ok (.invokevirtual 214, 3) := by decide +kernel
theorem dX12_told_127 : decode cX12_told 127 = .ok (.ireturn, 1) := by decide +kernel
theorem dX12_told_128 : decode cX12_told 128 = .ok (.iload_n 2, 1) := by decide +kernel
theorem dX12_told_129 : decode cX12_told 129 = .ok (.ireturn, 1) := by decide +kernel
theorem dX12_told_130 : decode cX12_told 130 = .ok (.iload_n 3, 1) := by decide +kernel
theorem dX12_told_131 : decode cX12_told 131 = .ok (.ireturn, 1) := by decide +kernel
theorem dX12_told_132 : decode cX12_told 132 = .ok (.sipush (-10001), 3) := by decide +kernel
theorem dX12_told_135 : decode cX12_told 135 = .ok (.ireturn, 1) := by decide +kernel
theorem dX12_clash_0 : decode cX12_clash 0 = .ok (.aload_n 0, 1) := by decide +kernel
theorem dX12_clash_1 : decode cX12_clash 1 = .ok (.iload_n 1, 1) := by decide +kernel
theorem dX12_clash_2 : decode cX12_clash 2 = .ok (.invokevirtual 189, 3) := by decide +kernel
theorem dX12_clash_5 : decode cX12_clash 5 = .ok (.ifCond .eq 26, 3) := by decide +kernel
theorem dX12_clash_8 : decode cX12_clash 8 = .ok (.iload_n 2, 1) := by decide +kernel
theorem dX12_clash_9 : decode cX12_clash 9 = .ok (.invokestatic 199, 3) := by decide +kernel
theorem dX12_clash_12 : decode cX12_clash 12 = .ok (.ifCond .eq 19, 3) := by decide +kernel
theorem dX12_clash_15 : decode cX12_clash 15 = .ok (.aload_n 0, 1) := by decide +kernel
theorem dX12_clash_16 : decode cX12_clash 16 = .ok (.iload_n 3, 1) := by decide +kernel
theorem dX12_clash_17 : decode cX12_clash 17 = .ok (.invokevirtual 189, 3) := by decide +kernel
theorem dX12_clash_20 : decode cX12_clash 20 = .ok (.ifCond .eq 11, 3) := by decide +kernel
theorem dX12_clash_23 : decode cX12_clash 23 = .ok (.iload 4, 2) := by decide +kernel
theorem dX12_clash_25 : decode cX12_clash 25 = .ok (.invokestatic 199, 3) := by decide +kernel
theorem dX12_clash_28 : decode cX12_clash 28 = .ok (.ifCond .ne 5, 3) := by decide +kernel
theorem dX12_clash_31 : decode cX12_clash 31 = .ok (.iconst (-1), 1) := by decide +kernel
theorem dX12_clash_32 : decode cX12_clash 32 = .ok (.ireturn, 1) := by decide +kernel
theorem dX12_clash_33 : decode cX12_clash 33 = .ok (.iload_n 1, 1) := by decide +kernel
theorem dX12_clash_34 : decode cX12_clash 34 = .ok (.iload_n 3, 1) := by decide +kernel
theorem dX12_clash_35 : decode cX12_clash 35 = .ok (.if_icmp .ne 8, 3) := by decide +kernel
theorem dX12_clash_38 : decode cX12_clash 38 = .ok (.bipush (-2), 2) := by decide +kernel
theorem dX12_clash_40 : decode cX12_clash 40 = .ok (.goto 12, 3) := by decide +kernel
theorem dX12_clash_43 : decode cX12_clash 43 = .ok (.aload_n 0, 1) := by decide +kernel
theorem dX12_clash_44 : decode cX12_clash 44 = .ok (.iload_n 1, 1) := by decide +kernel
theorem dX12_clash_45 : decode cX12_clash 45 = .ok (.iload_n 2, 1) := by decide +kernel
theorem dX12_clash_46 : decode cX12_clash 46 = .ok (.iload_n 3, 1) := by decide +kernel
theorem dX12_clash_47 : decode cX12_clash 47 = .ok (.iload 4, 2) := by decide +kernel
theorem dX12_clash_49 : decode cX12_clash 49 = .ok (.invokevirtual 170, 3) := by decide +kernel
theorem dX12_clash_52 : decode cX12_clash 52 = .ok (.ireturn, 1) := by decide +kernel
theorem dX12_at_0 : decode cX12_at 0 = .ok (.iload_n 1, 1) := by decide +kernel
theorem dX12_at_1 : decode cX12_at 1 = .ok (.iconst 0, 1) := by decide +kernel
theorem dX12_at_2 : decode cX12_at 2 = .ok (.bipush 29, 2) := by decide +kernel
theorem dX12_at_4 : decode cX12_at 4 = .ok (.invokestatic 56, 3) := by decide +kernel
theorem dX12_at_7 : decode cX12_at 7 = .ok (.ifCond .eq 13, 3) := by decide +kernel
theorem dX12_at_10 : decode cX12_at 10 = .ok (.iload_n 2, 1) := by decide +kernel
theorem dX12_at_11 : decode cX12_at 11 = .ok (.iconst 0, 1) := by decide +kernel
theorem dX12_at_12 : decode cX12_at 12 = .ok (.bipush 11, 2) := by decide +kernel
theorem dX12_at_14 : decode cX12_at 14 = .ok (.invokestatic 56, 3) := by decide +kernel
theorem dX12_at_17 : decode cX12_at 17 = .ok (.ifCond .ne 5, 3) := by decide +kernel
theorem dX12_at_20 : decode cX12_at 20 = .ok (.iconst (-1), 1) := by decide +kernel
theorem dX12_at_21 : decode cX12_at 21 = .ok (.ireturn, 1) := by decide +kernel
theorem dX12_at_22 : decode cX12_at 22 = .ok (.iconst 0, 1) := by decide +kernel
theorem dX12_at_23 : decode cX12_at 23 = .ok (.istore_n 3, 1) := by decide +kernel
theorem dX12_at_24 : decode cX12_at 24 = .ok (.iconst 0, 1) := by decide +kernel
theorem dX12_at_25 : decode cX12_at 25 = .ok (.istore 4, 2) := by decide +kernel
theorem dX12_at_27 : decode cX12_at 27 = .ok (.iload 4, 2) := by decide +kernel
theorem dX12_at_29 : decode cX12_at 29 = .ok (.aload_n 0, 1) := by decide +kernel
theorem dX12_at_30 : decode cX12_at 30 = .ok (.getfield 9, 3) := by decide +kernel
theorem dX12_at_33 : decode cX12_at 33 = .ok (.iconst 0, 1) := by decide +kernel
theorem dX12_at_34 : decode cX12_at 34 = .ok (.iaload, 1) := by decide +kernel
theorem dX12_at_35 : decode cX12_at 35 = .ok (.if_icmp .ge 41, 3) := by decide +kernel
theorem dX12_at_38 : decode cX12_at 38 = .ok (.iload_n 3, 1) := by decide +kernel
theorem dX12_at_39 : decode cX12_at 39 = .ok (.aload_n 0, 1) := by decide +kernel
theorem dX12_at_40 : decode cX12_at 40 = .ok (.iload 4, 2) := by decide +kernel
theorem dX12_at_42 : decode cX12_at 42 = .ok (.aload_n 0, 1) := by decide +kernel
theorem dX12_at_43 : decode cX12_at 43 = .ok (.getfield 9, 3) := by decide +kernel
theorem dX12_at_46 : decode cX12_at 46 = .ok (.bipush 42, 2) := by decide +kernel
theorem dX12_at_48 : decode cX12_at 48 = .ok (.iload 4, 2) := by decide +kernel
theorem dX12_at_50 : decode cX12_at 50 = .ok (.iadd, 1) := by decide +kernel
theorem dX12_at_51 : decode cX12_at 51 = .ok (.iaload, 1) := by decide +kernel
theorem dX12_at_52 : decode cX12_at 52 = .ok (.iload_n 1, 1) := by decide +kernel
theorem dX12_at_53 : decode cX12_at 53 = .ok (.iload_n 2, 1) := by decide +kernel
theorem dX12_at_54 : decode cX12_at 54 = .ok (.invokevirtual 156, 3) := by decide +kernel
theorem dX12_at_57 : decode cX12_at 57 = .ok (.ifCond .eq 10, 3) := by decide +kernel
theorem dX12_at_60 : decode cX12_at 60 = .ok (.iconst 1, 1) := by decide +kernel
theorem dX12_at_61 : decode cX12_at 61 = .ok (.iload 4, 2) := by decide +kernel
theorem dX12_at_63 : decode cX12_at 63 = .ok (.ishl, 1) := by decide +kernel
theorem dX12_at_64 : decode cX12_at 64 = .ok (.goto 4, 3) := by decide +kernel
theorem dX12_at_67 : decode cX12_at 67 = .ok (.iconst 0, 1) := by decide +kernel
theorem dX12_at_68 : decode cX12_at 68 = .ok (.ior, 1) := by decide +kernel
theorem dX12_at_69 : decode cX12_at 69 = .ok (.istore_n 3, 1) := by decide +kernel
theorem dX12_at_70 : decode cX12_at 70 = .ok (.iinc 4 1, 3) := by decide +kernel
theorem dX12_at_73 : decode cX12_at 73 = .ok (.goto (-46), 3) := by decide +kernel
theorem dX12_at_76 : decode cX12_at 76 = .ok (.iload_n 3, 1) := by decide +kernel
theorem dX12_at_77 : decode cX12_at 77 = .ok (.ireturn, 1) := by decide +kernel
theorem dX12_looksForFits_0 : decode cX12_looksForFits 0 = .ok (.iconst 0, 1) := by decide +kernel
theorem dX12_looksForFits_1 : decode cX12_looksForFits 1 = .ok (.istore_n 2, 1) := by decide +kernel
theorem dX12_looksForFits_2 : decode cX12_looksForFits 2 = .ok (.iload_n 2, 1) := by decide +kernel
theorem dX12_looksForFits_3 : decode cX12_looksForFits 3 = .ok (.iconst 4, 1) := by decide +kernel
theorem dX12_looksForFits_4 : decode cX12_looksForFits 4 = .ok (.aload_n 0, 1) := by decide +kernel
theorem dX12_looksForFits_5 : decode cX12_looksForFits 5 = .ok (.getfield 9, 3) := by decide +kernel
theorem dX12_looksForFits_8 : decode cX12_looksForFits 8 = .ok (.iconst 0, 1) := by decide +kernel
theorem dX12_looksForFits_9 : decode cX12_looksForFits 9 = .ok (.iaload, 1) := by decide +kernel
theorem dX12_looksForFits_10 : decode cX12_looksForFits 10 = .ok (.imul, 1) := by decide +kernel
theorem dX12_looksForFits_11 : decode cX12_looksForFits 11 = .ok (.if_icmp .ge 26, 3) := by decide +kernel
theorem dX12_looksForFits_14 : decode cX12_looksForFits 14 = .ok (.aload_n 0, 1) := by decide +kernel
theorem dX12_looksForFits_15 : decode cX12_looksForFits 15 = .ok (.getfield 25, 3) := by decide +kernel
theorem dX12_looksForFits_18 : decode cX12_looksForFits 18 = .ok (.iload_n 2, 1) := by decide +kernel
theorem dX12_looksForFits_19 : decode cX12_looksForFits 19 = .ok (.aload_n 0, 1) := by decide +kernel
theorem dX12_looksForFits_20 : decode cX12_looksForFits 20 = .ok (.iload_n 2, 1) := by decide +kernel
theorem dX12_looksForFits_21 : decode cX12_looksForFits 21 = .ok (.iconst 4, 1) := by decide +kernel
theorem dX12_looksForFits_22 : decode cX12_looksForFits 22 = .ok (.idiv, 1) := by decide +kernel
theorem dX12_looksForFits_23 : decode cX12_looksForFits 23 = .ok (.iload_n 2, 1) := by decide +kernel
theorem dX12_looksForFits_24 : decode cX12_looksForFits 24 = .ok (.iconst 4, 1) := by decide +kernel
theorem dX12_looksForFits_25 : decode cX12_looksForFits 25 = .ok (.irem, 1) := by decide +kernel
theorem dX12_looksForFits_26 : decode cX12_looksForFits 26 = .ok (.iload_n 1, 1) := by decide +kernel
theorem dX12_looksForFits_27 : decode cX12_looksForFits 27 = .ok (.invokevirtual 167, 3) := by decide +kernel
theorem dX12_looksForFits_30 : decode cX12_looksForFits 30 = .ok (.bastore, 1) := by decide +kernel
theorem dX12_looksForFits_31 : decode cX12_looksForFits 31 = .ok (.iinc 2 1, 3) := by decide +kernel
theorem dX12_looksForFits_34 : decode cX12_looksForFits 34 = .ok (.goto (-32), 3) := by decide +kernel
theorem dX12_looksForFits_37 : decode cX12_looksForFits 37 = .ok (.return_, 1) := by decide +kernel
theorem dX12_looksForGoods_0 : decode cX12_looksForGoods 0 = .ok (.iconst 0, 1) := by decide +kernel
theorem dX12_looksForGoods_1 : decode cX12_looksForGoods 1 = .ok (.istore_n 1, 1) := by decide +kernel
theorem dX12_looksForGoods_2 : decode cX12_looksForGoods 2 = .ok (.iload_n 1, 1) := by decide +kernel
theorem dX12_looksForGoods_3 : decode cX12_looksForGoods 3 = .ok (.iconst 4, 1) := by decide +kernel
theorem dX12_looksForGoods_4 : decode cX12_looksForGoods 4 = .ok (.aload_n 0, 1) := by decide +kernel
theorem dX12_looksForGoods_5 : decode cX12_looksForGoods 5 = .ok (.getfield 9, 3) := by decide +kernel
theorem dX12_looksForGoods_8 : decode cX12_looksForGoods 8 = .ok (.iconst 0, 1) := by decide +kernel
theorem dX12_looksForGoods_9 : decode cX12_looksForGoods 9 = .ok (.iaload, 1) := by decide +kernel
theorem dX12_looksForGoods_10 : decode cX12_looksForGoods 10 = .ok (.imul, 1) := by decide +kernel
theorem dX12_looksForGoods_11 : decode cX12_looksForGoods 11 = .ok (.if_icmp .ge 25, 3) := by decide +kernel
theorem dX12_looksForGoods_14 : decode cX12_looksForGoods 14 = .ok (.aload_n 0, 1) := by decide +kernel
theorem dX12_looksForGoods_15 : decode cX12_looksForGoods 15 = .ok (.getfield 28, 3) := by decide +kernel
theorem dX12_looksForGoods_18 : decode cX12_looksForGoods 18 = .ok (.iload_n 1, 1) := by decide +kernel
theorem dX12_looksForGoods_19 : decode cX12_looksForGoods 19 = .ok (.aload_n 0, 1) := by decide +kernel
theorem dX12_looksForGoods_20 : decode cX12_looksForGoods 20 = .ok (.iload_n 1, 1) := by decide +kernel
theorem dX12_looksForGoods_21 : decode cX12_looksForGoods 21 = .ok (.iconst 4, 1) := by decide +kernel
theorem dX12_looksForGoods_22 : decode cX12_looksForGoods 22 = .ok (.idiv, 1) := by decide +kernel
theorem dX12_looksForGoods_23 : decode cX12_looksForGoods 23 = .ok (.iload_n 1, 1) := by decide +kernel
theorem dX12_looksForGoods_24 : decode cX12_looksForGoods 24 = .ok (.iconst 4, 1) := by decide +kernel
theorem dX12_looksForGoods_25 : decode cX12_looksForGoods 25 = .ok (.irem, 1) := by decide +kernel
theorem dX12_looksForGoods_26 : decode cX12_looksForGoods 26 = .ok (.invokevirtual 180, 3) := by decide +kernel
theorem dX12_looksForGoods_29 : decode cX12_looksForGoods 29 = .ok (.iastore, 1) := by decide +kernel
theorem dX12_looksForGoods_30 : decode cX12_looksForGoods 30 = .ok (.iinc 1 1, 3) := by decide +kernel
theorem dX12_looksForGoods_33 : decode cX12_looksForGoods 33 = .ok (.goto (-31), 3) := by decide +kernel
theorem dX12_looksForGoods_36 : decode cX12_looksForGoods 36 = .ok (.return_, 1) := by decide +kernel
theorem dX12_looksForClashes_0 : decode cX12_looksForClashes 0 = .ok (.iconst 0, 1) := by decide +kernel
theorem dX12_looksForClashes_1 : decode cX12_looksForClashes 1 = .ok (.istore_n 1, 1) := by decide +kernel
theorem dX12_looksForClashes_2 : decode cX12_looksForClashes 2 = .ok (.iload_n 1, 1) := by decide +kernel
theorem dX12_looksForClashes_3 : decode cX12_looksForClashes 3 = .ok (.iconst 4, 1) := by decide +kernel
theorem dX12_looksForClashes_4 : decode cX12_looksForClashes 4 = .ok (.aload_n 0, 1) := by decide +kernel
theorem dX12_looksForClashes_5 : decode cX12_looksForClashes 5 = .ok (.getfield 9, 3) := by decide +kernel
theorem dX12_looksForClashes_8 : decode cX12_looksForClashes 8 = .ok (.iconst 0, 1) := by decide +kernel
theorem dX12_looksForClashes_9 : decode cX12_looksForClashes 9 = .ok (.iaload, 1) := by decide +kernel
theorem dX12_looksForClashes_10 : decode cX12_looksForClashes 10 = .ok (.imul, 1) := by decide +kernel
theorem dX12_looksForClashes_11 : decode cX12_looksForClashes 11 = .ok (.if_icmp .ge 80, 3) := by decide +kernel
theorem dX12_looksForClashes_14 : decode cX12_looksForClashes 14 = .ok (.aload_n 0, 1) := by decide +kernel
theorem dX12_looksForClashes_15 : decode cX12_looksForClashes 15 = .ok (.getfield 31, 3) := by decide +kernel
theorem dX12_looksForClashes_18 : decode cX12_looksForClashes 18 = .ok (.iload_n 1, 1) := by decide +kernel
theorem dX12_looksForClashes_19 : decode cX12_looksForClashes 19 = .ok (.iconst 0, 1) := by decide +kernel
theorem dX12_looksForClashes_20 : decode cX12_looksForClashes 20 = .ok (.iastore, 1) := by decide +kernel
theorem dX12_looksForClashes_21 : decode cX12_looksForClashes 21 = .ok (.iconst 0, 1) := by decide +kernel
theorem dX12_looksForClashes_22 : decode cX12_looksForClashes 22 = .ok (.istore_n 2, 1) := by decide +kernel
theorem dX12_looksForClashes_23 : decode cX12_looksForClashes 23 = .ok (.iload_n 2, 1) := by decide +kernel
theorem dX12_looksForClashes_24 : decode cX12_looksForClashes 24 = .ok (.iconst 4, 1) := by decide +kernel
theorem dX12_looksForClashes_25 : decode cX12_looksForClashes 25 = .ok (.aload_n 0, 1) := by decide +kernel
theorem dX12_looksForClashes_26 : decode cX12_looksForClashes 26 = .ok (.getfield 9, 3) := by decide +kernel
theorem dX12_looksForClashes_29 : decode cX12_looksForClashes 29 = .ok (.iconst 0, 1) := by decide +kernel
theorem dX12_looksForClashes_30 : decode cX12_looksForClashes 30 = .ok (.iaload, 1) := by decide +kernel
theorem dX12_looksForClashes_31 : decode cX12_looksForClashes 31 = .ok (.imul, 1) := by decide +kernel
theorem dX12_looksForClashes_32 : decode cX12_looksForClashes 32 = .ok (.if_icmp .ge 53, 3) := by decide +kernel
theorem dX12_looksForClashes_35 : decode cX12_looksForClashes 35 = .ok (.aload_n 0, 1) := by decide +kernel
theorem dX12_looksForClashes_36 : decode cX12_looksForClashes 36 = .ok (.getfield 31, 3) := by decide +kernel
theorem dX12_looksForClashes_39 : decode cX12_looksForClashes 39 = .ok (.iload_n 1, 1) := by decide +kernel
theorem dX12_looksForClashes_40 : decode cX12_looksForClashes 40 = .ok (.dup2, 1) := by decide +kernel
theorem dX12_looksForClashes_41 : decode cX12_looksForClashes 41 = .ok (.iaload, 1) := by decide +kernel
theorem dX12_looksForClashes_42 : decode cX12_looksForClashes 42 = .ok (.iload_n 1, 1) := by decide +kernel
theorem dX12_looksForClashes_43 : decode cX12_looksForClashes 43 = .ok (.iconst 4, 1) := by decide +kernel
theorem dX12_looksForClashes_44 : decode cX12_looksForClashes 44 = .ok (.idiv, 1) := by decide +kernel
theorem dX12_looksForClashes_45 : decode cX12_looksForClashes 45 = .ok (.iload_n 2, 1) := by decide +kernel
theorem dX12_looksForClashes_46 : decode cX12_looksForClashes 46 = .ok (.iconst 4, 1) := by decide +kernel
theorem dX12_looksForClashes_47 : decode cX12_looksForClashes 47 = .ok (.idiv, 1) := by decide +kernel
theorem dX12_looksForClashes_48 : decode cX12_looksForClashes 48 = .ok (.if_icmp .eq 28, 3) := by decide +kernel
theorem dX12_looksForClashes_51 : decode cX12_looksForClashes 51 = .ok (.aload_n 0, 1) := by decide +kernel
theorem dX12_looksForClashes_52 : decode cX12_looksForClashes 52 = .ok (.iload_n 1, 1) := by decide +kernel
theorem dX12_looksForClashes_53 : decode cX12_looksForClashes 53 = .ok (.iconst 4, 1) := by decide +kernel
theorem dX12_looksForClashes_54 : decode cX12_looksForClashes 54 = .ok (.idiv, 1) := by decide +kernel
theorem dX12_looksForClashes_55 : decode cX12_looksForClashes 55 = .ok (.iload_n 1, 1) := by decide +kernel
theorem dX12_looksForClashes_56 : decode cX12_looksForClashes 56 = .ok (.iconst 4, 1) := by decide +kernel
theorem dX12_looksForClashes_57 : decode cX12_looksForClashes 57 = .ok (.irem, 1) := by decide +kernel
theorem dX12_looksForClashes_58 : decode cX12_looksForClashes 58 = .ok (.iload_n 2, 1) := by decide +kernel
theorem dX12_looksForClashes_59 : decode cX12_looksForClashes 59 = .ok (.iconst 4, 1) := by decide +kernel
theorem dX12_looksForClashes_60 : decode cX12_looksForClashes 60 = .ok (.idiv, 1) := by decide +kernel
theorem dX12_looksForClashes_61 : decode cX12_looksForClashes 61 = .ok (.iload_n 2, 1) := by decide +kernel
theorem dX12_looksForClashes_62 : decode cX12_looksForClashes 62 = .ok (.iconst 4, 1) := by decide +kernel
theorem dX12_looksForClashes_63 : decode cX12_looksForClashes 63 = .ok (.irem, 1) := by decide +kernel
theorem dX12_looksForClashes_64 : decode cX12_looksForClashes 64 = .ok (.invokevirtual 170, 3) := by decide +kernel
theorem dX12_looksForClashes_67 : decode cX12_looksForClashes 67 = .ok (.ifCond .le 9, 3) := by decide +kernel
theorem dX12_looksForClashes_70 : decode cX12_looksForClashes 70 = .ok (.iconst 1, 1) := by decide +kernel
theorem dX12_looksForClashes_71 : decode cX12_looksForClashes 71 = .ok (.iload_n 2, 1) := by decide +kernel
theorem dX12_looksForClashes_72 : decode cX12_looksForClashes 72 = .ok (.ishl, 1) := by decide +kernel
theorem dX12_looksForClashes_73 : decode cX12_looksForClashes 73 = .ok (.goto 4, 3) := by decide +kernel
theorem dX12_looksForClashes_76 : decode cX12_looksForClashes 76 = .ok (.iconst 0, 1) := by decide +kernel
theorem dX12_looksForClashes_77 : decode cX12_looksForClashes 77 = .ok (.ior, 1) := by decide +kernel
theorem dX12_looksForClashes_78 : decode cX12_looksForClashes 78 = .ok (.iastore, 1) := by decide +kernel
theorem dX12_looksForClashes_79 : decode cX12_looksForClashes 79 = .ok (.iinc 2 1, 3) := by decide +kernel
theorem dX12_looksForClashes_82 : decode cX12_looksForClashes 82 = .ok (.goto (-59), 3) := by decide +kernel
theorem dX12_looksForClashes_85 : decode cX12_looksForClashes 85 = .ok (.iinc 1 1, 3) := by decide +kernel
theorem dX12_looksForClashes_88 : decode cX12_looksForClashes 88 = .ok (.goto (-86), 3) := by decide +kernel
theorem dX12_looksForClashes_91 : decode cX12_looksForClashes 91 = .ok (.return_, 1) := by decide +kernel
theorem dX12_looksForPairs_0 : decode cX12_looksForPairs 0 = .ok (.aload_n 0, 1) := by decide +kernel
theorem dX12_looksForPairs_1 : decode cX12_looksForPairs 1 = .ok (.aload_n 0, 1) := by decide +kernel
theorem dX12_looksForPairs_2 : decode cX12_looksForPairs 2 = .ok (.invokevirtual 164, 3) := by decide +kernel
theorem dX12_looksForPairs_5 : decode cX12_looksForPairs 5 = .ok (.invokevirtual 217, 3) := by decide +kernel
theorem dX12_looksForPairs_8 : decode cX12_looksForPairs 8 = .ok (.aload_n 0, 1) := by decide +kernel
theorem dX12_looksForPairs_9 : decode cX12_looksForPairs 9 = .ok (.invokevirtual 220, 3) := by decide +kernel
theorem dX12_looksForPairs_12 : decode cX12_looksForPairs 12 = .ok (.aload_n 0, 1) := by decide +kernel
theorem dX12_looksForPairs_13 : decode cX12_looksForPairs 13 = .ok (.invokevirtual 223, 3) := by decide +kernel
theorem dX12_looksForPairs_16 : decode cX12_looksForPairs 16 = .ok (.return_, 1) := by decide +kernel
theorem dX12_keepsWay_0 : decode cX12_keepsWay 0 = .ok (.aload_n 0, 1) := by decide +kernel
theorem dX12_keepsWay_1 : decode cX12_keepsWay 1 = .ok (.getfield 226, 3) := by decide +kernel
theorem dX12_keepsWay_4 : decode cX12_keepsWay 4 = .ok (.ifCond .eq 35, 3) := by decide +kernel
theorem dX12_keepsWay_7 : decode cX12_keepsWay 7 = .ok (.iload_n 1, 1) := by decide +kernel
theorem dX12_keepsWay_8 : decode cX12_keepsWay 8 = .ok (.aload_n 0, 1) := by decide +kernel
theorem dX12_keepsWay_9 : decode cX12_keepsWay 9 = .ok (.getfield 229, 3) := by decide +kernel
theorem dX12_keepsWay_12 : decode cX12_keepsWay 12 = .ok (.if_icmp .gt 19, 3) := by decide +kernel
theorem dX12_keepsWay_15 : decode cX12_keepsWay 15 = .ok (.iload_n 1, 1) := by decide +kernel
theorem dX12_keepsWay_16 : decode cX12_keepsWay 16 = .ok (.aload_n 0, 1) := by decide +kernel
theorem dX12_keepsWay_17 : decode cX12_keepsWay 17 = .ok (.getfield 229, 3) := by decide +kernel
theorem dX12_keepsWay_20 : decode cX12_keepsWay 20 = .ok (.if_icmp .ne 15, 3) := by decide +kernel
theorem dX12_keepsWay_23 : decode cX12_keepsWay 23 = .ok (.iload_n 2, 1) := by decide +kernel
theorem dX12_keepsWay_24 : decode cX12_keepsWay 24 = .ok (.aload_n 0, 1) := by decide +kernel
theorem dX12_keepsWay_25 : decode cX12_keepsWay 25 = .ok (.getfield 232, 3) := by decide +kernel
theorem dX12_keepsWay_28 : decode cX12_keepsWay 28 = .ok (.if_icmp .le 7, 3) := by decide +kernel
theorem dX12_keepsWay_31 : decode cX12_keepsWay 31 = .ok (.iconst 1, 1) := by decide +kernel
theorem dX12_keepsWay_32 : decode cX12_keepsWay 32 = .ok (.goto 28, 3) := by decide +kernel
theorem dX12_keepsWay_35 : decode cX12_keepsWay 35 = .ok (.iconst 0, 1) := by decide +kernel
theorem dX12_keepsWay_36 : decode cX12_keepsWay 36 = .ok (.goto 24, 3) := by decide +kernel
theorem dX12_keepsWay_39 : decode cX12_keepsWay 39 = .ok (.aload_n 0, 1) := by decide +kernel
theorem dX12_keepsWay_40 : decode cX12_keepsWay 40 = .ok (.getfield 229, 3) := by decide +kernel
theorem dX12_keepsWay_43 : decode cX12_keepsWay 43 = .ok (.iconst (-1), 1) := by decide +kernel
theorem dX12_keepsWay_44 : decode cX12_keepsWay 44 = .ok (.if_icmp .eq 11, 3) := by decide +kernel
theorem dX12_keepsWay_47 : decode cX12_keepsWay 47 = .ok (.iload_n 2, 1) := by decide +kernel
theorem dX12_keepsWay_48 : decode cX12_keepsWay 48 = .ok (.aload_n 0, 1) := by decide +kernel
theorem dX12_keepsWay_49 : decode cX12_keepsWay 49 = .ok (.getfield 232, 3) := by decide +kernel
theorem dX12_keepsWay_52 : decode cX12_keepsWay 52 = .ok (.if_icmp .le 7, 3) := by decide +kernel
theorem dX12_keepsWay_55 : decode cX12_keepsWay 55 = .ok (.iconst 1, 1) := by decide +kernel
theorem dX12_keepsWay_56 : decode cX12_keepsWay 56 = .ok (.goto 4, 3) := by decide +kernel
theorem dX12_keepsWay_59 : decode cX12_keepsWay 59 = .ok (.iconst 0, 1) := by decide +kernel
theorem dX12_keepsWay_60 : decode cX12_keepsWay 60 = .ok (.istore_n 3, 1) := by decide +kernel
theorem dX12_keepsWay_61 : decode cX12_keepsWay 61 = .ok (.iload_n 3, 1) := by decide +kernel
theorem dX12_keepsWay_62 : decode cX12_keepsWay 62 = .ok (.ifCond .eq 47, 3) := by decide +kernel
theorem dX12_keepsWay_65 : decode cX12_keepsWay 65 = .ok (.aload_n 0, 1) := by decide +kernel
theorem dX12_keepsWay_66 : decode cX12_keepsWay 66 = .ok (.iload_n 1, 1) := by decide +kernel
theorem dX12_keepsWay_67 : decode cX12_keepsWay 67 = .ok (.putfield 229, 3) := by decide +kernel
theorem dX12_keepsWay_70 : decode cX12_keepsWay 70 = .ok (.aload_n 0, 1) := by decide +kernel
theorem dX12_keepsWay_71 : decode cX12_keepsWay 71 = .ok (.iload_n 2, 1) := by decide +kernel
theorem dX12_keepsWay_72 : decode cX12_keepsWay 72 = .ok (.putfield 232, 3) := by decide +kernel
theorem dX12_keepsWay_75 : decode cX12_keepsWay 75 = .ok (.iconst 0, 1) := by decide +kernel
theorem dX12_keepsWay_76 : decode cX12_keepsWay 76 = .ok (.istore 4, 2) := by decide +kernel
theorem dX12_keepsWay_78 : decode cX12_keepsWay 78 = .ok (.iload 4, 2) := by decide +kernel
theorem dX12_keepsWay_80 : decode cX12_keepsWay 80 = .ok (.aload_n 0, 1) := by decide +kernel
theorem dX12_keepsWay_81 : decode cX12_keepsWay 81 = .ok (.getfield 9, 3) := by decide +kernel
theorem dX12_keepsWay_84 : decode cX12_keepsWay 84 = .ok (.iconst 0, 1) := by decide +kernel
theorem dX12_keepsWay_85 : decode cX12_keepsWay 85 = .ok (.iaload, 1) := by decide +kernel
theorem dX12_keepsWay_86 : decode cX12_keepsWay 86 = .ok (.if_icmp .ge 23, 3) := by decide +kernel
theorem dX12_keepsWay_89 : decode cX12_keepsWay 89 = .ok (.aload_n 0, 1) := by decide +kernel
theorem dX12_keepsWay_90 : decode cX12_keepsWay 90 = .ok (.getfield 37, 3) := by decide +kernel
theorem dX12_keepsWay_93 : decode cX12_keepsWay 93 = .ok (.iload 4, 2) := by decide +kernel
theorem dX12_keepsWay_95 : decode cX12_keepsWay 95 = .ok (.aload_n 0, 1) := by decide +kernel
theorem dX12_keepsWay_96 : decode cX12_keepsWay 96 = .ok (.getfield 34, 3) := by decide +kernel
theorem dX12_keepsWay_99 : decode cX12_keepsWay 99 = .ok (.iload 4, 2) := by decide +kernel
theorem dX12_keepsWay_101 : decode cX12_keepsWay 101 = .ok (.iaload, 1) := by decide +kernel
theorem dX12_keepsWay_102 : decode cX12_keepsWay 102 = .ok (.iastore, 1) := by decide +kernel
theorem dX12_keepsWay_103 : decode cX12_keepsWay 103 = .ok (.iinc 4 1, 3) := by decide +kernel
theorem dX12_keepsWay_106 : decode cX12_keepsWay 106 = .ok (.goto (-28), 3) := by decide +kernel
theorem dX12_keepsWay_109 : decode cX12_keepsWay 109 = .ok (.return_, 1) := by decide +kernel
theorem dX12_waysFrom_0 : decode cX12_waysFrom 0 = .ok (.iload_n 1, 1) := by decide +kernel
theorem dX12_waysFrom_1 : decode cX12_waysFrom 1 = .ok (.aload_n 0, 1) := by decide +kernel
theorem dX12_waysFrom_2 : decode cX12_waysFrom 2 = .ok (.getfield 9, 3) := by decide +kernel
theorem dX12_waysFrom_5 : decode cX12_waysFrom 5 = .ok (.iconst 0, 1) := by decide +kernel
theorem dX12_waysFrom_6 : decode cX12_waysFrom 6 = .ok (.iaload, 1) := by decide +kernel
theorem dX12_waysFrom_7 : decode cX12_waysFrom 7 = .ok (.if_icmp .ne 11, 3) := by decide +kernel
theorem dX12_waysFrom_10 : decode cX12_waysFrom 10 = .ok (.aload_n 0, 1) := by decide +kernel
theorem dX12_waysFrom_11 : decode cX12_waysFrom 11 = .ok (.iload_n 3, 1) := by decide +kernel
theorem dX12_waysFrom_12 : decode cX12_waysFrom 12 = .ok (.iload 4, 2) := by decide +kernel
theorem dX12_waysFrom_14 : decode cX12_waysFrom 14 = .ok (.invokevirtual 235, 3) := by decide +kernel
theorem dX12_waysFrom_17 : decode cX12_waysFrom 17 = .ok (.return_, 1) := by decide +kernel
theorem dX12_waysFrom_18 : decode cX12_waysFrom 18 = .ok (.iconst 0, 1) := by decide +kernel
theorem dX12_waysFrom_19 : decode cX12_waysFrom 19 = .ok (.istore 5, 2) := by decide +kernel
theorem dX12_waysFrom_21 : decode cX12_waysFrom 21 = .ok (.iload 5, 2) := by decide +kernel
theorem dX12_waysFrom_23 : decode cX12_waysFrom 23 = .ok (.iconst 4, 1) := by decide +kernel
theorem dX12_waysFrom_24 : decode cX12_waysFrom 24 = .ok (.if_icmp .ge 73, 3) := by decide +kernel
theorem dX12_waysFrom_27 : decode cX12_waysFrom 27 = .ok (.iconst 4, 1) := by decide +kernel
theorem dX12_waysFrom_28 : decode cX12_waysFrom 28 = .ok (.iload_n 1, 1) := by decide +kernel
theorem dX12_waysFrom_29 : decode cX12_waysFrom 29 = .ok (.imul, 1) := by decide +kernel
theorem dX12_waysFrom_30 : decode cX12_waysFrom 30 = .ok (.iload 5, 2) := by decide +kernel
theorem dX12_waysFrom_32 : decode cX12_waysFrom 32 = .ok (.iadd, 1) := by decide +kernel
theorem dX12_waysFrom_33 : decode cX12_waysFrom 33 = .ok (.istore 6, 2) := by decide +kernel
theorem dX12_waysFrom_35 : decode cX12_waysFrom 35 = .ok (.aload_n 0, 1) := by decide +kernel
theorem dX12_waysFrom_36 : decode cX12_waysFrom 36 = .ok (.getfield 25, 3) := by decide +kernel
theorem dX12_waysFrom_39 : decode cX12_waysFrom 39 = .ok (.iload 6, 2) := by decide +kernel
theorem dX12_waysFrom_41 : decode cX12_waysFrom 41 = .ok (.baload, 1) := by decide +kernel
theorem dX12_waysFrom_42 : decode cX12_waysFrom 42 = .ok (.ifCond .eq 49, 3) := by decide +kernel
theorem dX12_waysFrom_45 : decode cX12_waysFrom 45 = .ok (.aload_n 0, 1) := by decide +kernel
theorem dX12_waysFrom_46 : decode cX12_waysFrom 46 = .ok (.getfield 31, 3) := by decide +kernel
theorem dX12_waysFrom_49 : decode cX12_waysFrom 49 = .ok (.iload 6, 2) := by decide +kernel
theorem dX12_waysFrom_51 : decode cX12_waysFrom 51 = .ok (.iaload, 1) := by decide +kernel
theorem dX12_waysFrom_52 : decode cX12_waysFrom 52 = .ok (.iload_n 2, 1) := by decide +kernel
theorem dX12_waysFrom_53 : decode cX12_waysFrom 53 = .ok (.iand, 1) := by decide +kernel
theorem dX12_waysFrom_54 : decode cX12_waysFrom 54 = .ok (.ifCond .ne 37, 3) := by decide +kernel
theorem dX12_waysFrom_57 : decode cX12_waysFrom 57 = .ok (.aload_n 0, 1) := by decide +kernel
theorem dX12_waysFrom_58 : decode cX12_waysFrom 58 = .ok (.getfield 34, 3) := by decide +kernel
theorem dX12_waysFrom_61 : decode cX12_waysFrom 61 = .ok (.iload_n 1, 1) := by decide +kernel
theorem dX12_waysFrom_62 : decode cX12_waysFrom 62 = .ok (.iload 5, 2) := by decide +kernel
theorem dX12_waysFrom_64 : decode cX12_waysFrom 64 = .ok (.iastore, 1) := by decide +kernel
theorem dX12_waysFrom_65 : decode cX12_waysFrom 65 = .ok (.aload_n 0, 1) := by decide +kernel
theorem dX12_waysFrom_66 : decode cX12_waysFrom 66 = .ok (.iload_n 1, 1) := by decide +kernel
theorem dX12_waysFrom_67 : decode cX12_waysFrom 67 = .ok (.iconst 1, 1) := by decide +kernel
theorem dX12_waysFrom_68 : decode cX12_waysFrom 68 = .ok (.iadd, 1) := by decide +kernel
theorem dX12_waysFrom_69 : decode cX12_waysFrom 69 = .ok (.iload_n 2, 1) := by decide +kernel
theorem dX12_waysFrom_70 : decode cX12_waysFrom 70 = .ok (.iconst 1, 1) := by decide +kernel
theorem dX12_waysFrom_71 : decode cX12_waysFrom 71 = .ok (.iload 6, 2) := by decide +kernel
theorem dX12_waysFrom_73 : decode cX12_waysFrom 73 = .ok (.ishl, 1) := by decide +kernel
theorem dX12_waysFrom_74 : decode cX12_waysFrom 74 = .ok (.ior, 1) := by decide +kernel
theorem dX12_waysFrom_75 : decode cX12_waysFrom 75 = .ok (.iload_n 3, 1) := by decide +kernel
theorem dX12_waysFrom_76 : decode cX12_waysFrom 76 = .ok (.iconst 1, 1) := by decide +kernel
theorem dX12_waysFrom_77 : decode cX12_waysFrom 77 = .ok (.iadd, 1) := by decide +kernel
theorem dX12_waysFrom_78 : decode cX12_waysFrom 78 = .ok (.iload 4, 2) := by decide +kernel
theorem dX12_waysFrom_80 : decode cX12_waysFrom 80 = .ok (.aload_n 0, 1) := by decide +kernel
theorem dX12_waysFrom_81 : decode cX12_waysFrom 81 = .ok (.getfield 28, 3) := by decide +kernel
theorem dX12_waysFrom_84 : decode cX12_waysFrom 84 = .ok (.iload 6, 2) := by decide +kernel
theorem dX12_waysFrom_86 : decode cX12_waysFrom 86 = .ok (.iaload, 1) := by decide +kernel
theorem dX12_waysFrom_87 : decode cX12_waysFrom 87 = .ok (.iadd, 1) := by decide +kernel
theorem dX12_waysFrom_88 : decode cX12_waysFrom 88 = .ok (.invokevirtual 239, 3) := by decide +kernel
theorem dX12_waysFrom_91 : decode cX12_waysFrom 91 = .ok (.iinc 5 1, 3) := by decide +kernel
theorem dX12_waysFrom_94 : decode cX12_waysFrom 94 = .ok (.goto (-73), 3) := by decide +kernel
theorem dX12_waysFrom_97 : decode cX12_waysFrom 97 = .ok (.aload_n 0, 1) := by decide +kernel
theorem dX12_waysFrom_98 : decode cX12_waysFrom 98 = .ok (.getfield 34, 3) := by decide +kernel
theorem dX12_waysFrom_101 : decode cX12_waysFrom 101 = .ok (.iload_n 1, 1) := by decide +kernel
theorem dX12_waysFrom_102 : decode cX12_waysFrom 102 = .ok (.iconst 4, 1) := by decide +kernel
theorem dX12_waysFrom_103 : decode cX12_waysFrom 103 = .ok (.iastore, 1) := by decide +kernel
theorem dX12_waysFrom_104 : decode cX12_waysFrom 104 = .ok (.aload_n 0, 1) := by decide +kernel
theorem dX12_waysFrom_105 : decode cX12_waysFrom 105 = .ok (.iload_n 1, 1) := by decide +kernel
theorem dX12_waysFrom_106 : decode cX12_waysFrom 106 = .ok (.iconst 1, 1) := by decide +kernel
theorem dX12_waysFrom_107 : decode cX12_waysFrom 107 = .ok (.iadd, 1) := by decide +kernel
theorem dX12_waysFrom_108 : decode cX12_waysFrom 108 = .ok (.iload_n 2, 1) := by decide +kernel
theorem dX12_waysFrom_109 : decode cX12_waysFrom 109 = .ok (.iload_n 3, 1) := by decide +kernel
theorem dX12_waysFrom_110 : decode cX12_waysFrom 110 = .ok (.iload 4, 2) := by decide +kernel
theorem dX12_waysFrom_112 : decode cX12_waysFrom 112 = .ok (.invokevirtual 239, 3) := by decide +kernel
theorem dX12_waysFrom_115 : decode cX12_waysFrom 115 = .ok (.return_, 1) := by decide +kernel
theorem dX12_looksForWay_0 : decode cX12_looksForWay 0 = .ok (.aload_n 0, 1) := by decide +kernel
theorem dX12_looksForWay_1 : decode cX12_looksForWay 1 = .ok (.invokevirtual 243, 3) := by decide +kernel
theorem dX12_looksForWay_4 : decode cX12_looksForWay 4 = .ok (.aload_n 0, 1) := by decide +kernel
theorem dX12_looksForWay_5 : decode cX12_looksForWay 5 = .ok (.iload_n 1, 1) := by decide +kernel
theorem dX12_looksForWay_6 : decode cX12_looksForWay 6 = .ok (.putfield 226, 3) := by decide +kernel
theorem dX12_looksForWay_9 : decode cX12_looksForWay 9 = .ok (.aload_n 0, 1) := by decide +kernel
theorem dX12_looksForWay_10 : decode cX12_looksForWay 10 = .ok (.iconst (-1), 1) := by decide +kernel
theorem dX12_looksForWay_11 : decode cX12_looksForWay 11 = .ok (.putfield 229, 3) := by decide +kernel
theorem dX12_looksForWay_14 : decode cX12_looksForWay 14 = .ok (.aload_n 0, 1) := by decide +kernel
theorem dX12_looksForWay_15 : decode cX12_looksForWay 15 = .ok (.ldc 246, 2) := by decide +kernel
theorem dX12_looksForWay_17 : decode cX12_looksForWay 17 = .ok (.putfield 232, 3) := by decide +kernel
theorem dX12_looksForWay_20 : decode cX12_looksForWay 20 = .ok (.aload_n 0, 1) := by decide +kernel
theorem dX12_looksForWay_21 : decode cX12_looksForWay 21 = .ok (.iconst 0, 1) := by decide +kernel
theorem dX12_looksForWay_22 : decode cX12_looksForWay 22 = .ok (.iconst 0, 1) := by decide +kernel
theorem dX12_looksForWay_23 : decode cX12_looksForWay 23 = .ok (.iconst 0, 1) := by decide +kernel
theorem dX12_looksForWay_24 : decode cX12_looksForWay 24 = .ok (.iconst 0, 1) := by decide +kernel
theorem dX12_looksForWay_25 : decode cX12_looksForWay 25 = .ok (.invokevirtual 239, 3) := by decide +kernel
theorem dX12_looksForWay_28 : decode cX12_looksForWay 28 = .ok (.return_, 1) := by decide +kernel
theorem dX12_most_0 : decode cX12_most 0 = .ok (.iload_n 1, 1) := by decide +kernel
theorem dX12_most_1 : decode cX12_most 1 = .ok (.iconst 0, 1) := by decide +kernel
theorem dX12_most_2 : decode cX12_most 2 = .ok (.iconst 1, 1) := by decide +kernel
theorem dX12_most_3 : decode cX12_most 3 = .ok (.invokestatic 56, 3) := by decide +kernel
theorem dX12_most_6 : decode cX12_most 6 = .ok (.ifCond .ne 18, 3) := by decide +kernel
theorem dX12_most_9 : decode cX12_most 9 = .ok (.aload_n 0, 1) := by decide +kernel
theorem dX12_most_10 : decode cX12_most 10 = .ok (.iload_n 1, 1) := by decide +kernel
theorem dX12_most_11 : decode cX12_most 11 = .ok (.bipush 10, 2) := by decide +kernel
theorem dX12_most_13 : decode cX12_most 13 = .ok (.isub, 1) := by decide +kernel
theorem dX12_most_14 : decode cX12_most 14 = .ok (.invokevirtual 189, 3) := by decide +kernel
theorem dX12_most_17 : decode cX12_most 17 = .ok (.ifCond .ne 7, 3) := by decide +kernel
theorem dX12_most_20 : decode cX12_most 20 = .ok (.sipush (-10001), 3) := by decide +kernel
theorem dX12_most_23 : decode cX12_most 23 = .ok (.ireturn, 1) := by decide +kernel
theorem dX12_most_24 : decode cX12_most 24 = .ok (.aload_n 0, 1) := by decide +kernel
theorem dX12_most_25 : decode cX12_most 25 = .ok (.iconst 1, 1) := by decide +kernel
theorem dX12_most_26 : decode cX12_most 26 = .ok (.invokevirtual 247, 3) := by decide +kernel
theorem dX12_most_29 : decode cX12_most 29 = .ok (.iload_n 1, 1) := by decide +kernel
theorem dX12_most_30 : decode cX12_most 30 = .ok (.ifCond .ne 10, 3) := by decide +kernel
theorem dX12_most_33 : decode cX12_most 33 = .ok (.aload_n 0, 1) := by decide +kernel
theorem dX12_most_34 : decode cX12_most 34 = .ok (.getfield 229, 3) := by decide +kernel
theorem dX12_most_37 : decode cX12_most 37 = .ok (.goto 27, 3) := by decide +kernel
theorem dX12_most_40 : decode cX12_most 40 = .ok (.iload_n 1, 1) := by decide +kernel
theorem dX12_most_41 : decode cX12_most 41 = .ok (.iconst 1, 1) := by decide +kernel
theorem dX12_most_42 : decode cX12_most 42 = .ok (.if_icmp .ne 10, 3) := by decide +kernel
theorem dX12_most_45 : decode cX12_most 45 = .ok (.aload_n 0, 1) := by decide +kernel
theorem dX12_most_46 : decode cX12_most 46 = .ok (.getfield 232, 3) := by decide +kernel
theorem dX12_most_49 : decode cX12_most 49 = .ok (.goto 15, 3) := by decide +kernel
theorem dX12_most_52 : decode cX12_most 52 = .ok (.aload_n 0, 1) := by decide +kernel
theorem dX12_most_53 : decode cX12_most 53 = .ok (.getfield 37, 3) := by decide +kernel
theorem dX12_most_56 : decode cX12_most 56 = .ok (.iload_n 1, 1) := by decide +kernel
theorem dX12_most_57 : decode cX12_most 57 = .ok (.bipush 10, 2) := by decide +kernel
theorem dX12_most_59 : decode cX12_most 59 = .ok (.isub, 1) := by decide +kernel
theorem dX12_most_60 : decode cX12_most 60 = .ok (.iaload, 1) := by decide +kernel
theorem dX12_most_61 : decode cX12_most 61 = .ok (.invokestatic 193, 3) := by decide +kernel
theorem dX12_most_64 : decode cX12_most 64 = .ok (.ireturn, 1) := by decide +kernel
theorem dX12_best_0 : decode cX12_best 0 = .ok (.iload_n 1, 1) := by decide +kernel
theorem dX12_best_1 : decode cX12_best 1 = .ok (.ifCond .eq 18, 3) := by decide +kernel
theorem dX12_best_4 : decode cX12_best 4 = .ok (.aload_n 0, 1) := by decide +kernel
theorem dX12_best_5 : decode cX12_best 5 = .ok (.iload_n 1, 1) := by decide +kernel
theorem dX12_best_6 : decode cX12_best 6 = .ok (.bipush 10, 2) := by decide +kernel
theorem dX12_best_8 : decode cX12_best 8 = .ok (.isub, 1) := by decide +kernel
theorem dX12_best_9 : decode cX12_best 9 = .ok (.invokevirtual 189, 3) := by decide +kernel
theorem dX12_best_12 : decode cX12_best 12 = .ok (.ifCond .ne 7, 3) := by decide +kernel
theorem dX12_best_15 : decode cX12_best 15 = .ok (.sipush (-10001), 3) := by decide +kernel
theorem dX12_best_18 : decode cX12_best 18 = .ok (.ireturn, 1) := by decide +kernel
theorem dX12_best_19 : decode cX12_best 19 = .ok (.aload_n 0, 1) := by decide +kernel
theorem dX12_best_20 : decode cX12_best 20 = .ok (.iconst 0, 1) := by decide +kernel
theorem dX12_best_21 : decode cX12_best 21 = .ok (.invokevirtual 247, 3) := by decide +kernel
theorem dX12_best_24 : decode cX12_best 24 = .ok (.iload_n 1, 1) := by decide +kernel
theorem dX12_best_25 : decode cX12_best 25 = .ok (.ifCond .ne 10, 3) := by decide +kernel
theorem dX12_best_28 : decode cX12_best 28 = .ok (.aload_n 0, 1) := by decide +kernel
theorem dX12_best_29 : decode cX12_best 29 = .ok (.getfield 232, 3) := by decide +kernel
theorem dX12_best_32 : decode cX12_best 32 = .ok (.goto 15, 3) := by decide +kernel
theorem dX12_best_35 : decode cX12_best 35 = .ok (.aload_n 0, 1) := by decide +kernel
theorem dX12_best_36 : decode cX12_best 36 = .ok (.getfield 37, 3) := by decide +kernel
theorem dX12_best_39 : decode cX12_best 39 = .ok (.iload_n 1, 1) := by decide +kernel
theorem dX12_best_40 : decode cX12_best 40 = .ok (.bipush 10, 2) := by decide +kernel
theorem dX12_best_42 : decode cX12_best 42 = .ok (.isub, 1) := by decide +kernel
theorem dX12_best_43 : decode cX12_best 43 = .ok (.iaload, 1) := by decide +kernel
theorem dX12_best_44 : decode cX12_best 44 = .ok (.invokestatic 193, 3) := by decide +kernel
theorem dX12_best_47 : decode cX12_best 47 = .ok (.ireturn, 1) := by decide +kernel
theorem dX12_allFrom_0 : decode cX12_allFrom 0 = .ok (.iload_n 1, 1) := by decide +kernel
theorem dX12_allFrom_1 : decode cX12_allFrom 1 = .ok (.aload_n 0, 1) := by decide +kernel
theorem dX12_allFrom_2 : decode cX12_allFrom 2 = .ok (.getfield 9, 3) := by decide +kernel
theorem dX12_allFrom_5 : decode cX12_allFrom 5 = .ok (.iconst 0, 1) := by decide +kernel
theorem dX12_allFrom_6 : decode cX12_allFrom 6 = .ok (.iaload, 1) := by decide +kernel
theorem dX12_allFrom_7 : decode cX12_allFrom 7 = .ok (.if_icmp .ne 5, 3) := by decide +kernel
theorem dX12_allFrom_10 : decode cX12_allFrom 10 = .ok (.iconst 1, 1) := by decide +kernel
theorem dX12_allFrom_11 : decode cX12_allFrom 11 = .ok (.ireturn, 1) := by decide +kernel
theorem dX12_allFrom_12 : decode cX12_allFrom 12 = .ok (.iconst 0, 1) := by decide +kernel
theorem dX12_allFrom_13 : decode cX12_allFrom 13 = .ok (.istore 4, 2) := by decide +kernel
theorem dX12_allFrom_15 : decode cX12_allFrom 15 = .ok (.iload 4, 2) := by decide +kernel
theorem dX12_allFrom_17 : decode cX12_allFrom 17 = .ok (.iconst 4, 1) := by decide +kernel
theorem dX12_allFrom_18 : decode cX12_allFrom 18 = .ok (.if_icmp .ge 68, 3) := by decide +kernel
theorem dX12_allFrom_21 : decode cX12_allFrom 21 = .ok (.iconst 4, 1) := by decide +kernel
theorem dX12_allFrom_22 : decode cX12_allFrom 22 = .ok (.iload_n 1, 1) := by decide +kernel
theorem dX12_allFrom_23 : decode cX12_allFrom 23 = .ok (.imul, 1) := by decide +kernel
theorem dX12_allFrom_24 : decode cX12_allFrom 24 = .ok (.iload 4, 2) := by decide +kernel
theorem dX12_allFrom_26 : decode cX12_allFrom 26 = .ok (.iadd, 1) := by decide +kernel
theorem dX12_allFrom_27 : decode cX12_allFrom 27 = .ok (.istore 5, 2) := by decide +kernel
theorem dX12_allFrom_29 : decode cX12_allFrom 29 = .ok (.iload_n 3, 1) := by decide +kernel
theorem dX12_allFrom_30 : decode cX12_allFrom 30 = .ok (.iload 4, 2) := by decide +kernel
theorem dX12_allFrom_32 : decode cX12_allFrom 32 = .ok (.ishr, 1) := by decide +kernel
theorem dX12_allFrom_33 : decode cX12_allFrom 33 = .ok (.iconst 1, 1) := by decide +kernel
theorem dX12_allFrom_34 : decode cX12_allFrom 34 = .ok (.iand, 1) := by decide +kernel
theorem dX12_allFrom_35 : decode cX12_allFrom 35 = .ok (.iconst 1, 1) := by decide +kernel
theorem dX12_allFrom_36 : decode cX12_allFrom 36 = .ok (.if_icmp .ne 44, 3) := by decide +kernel
theorem dX12_allFrom_39 : decode cX12_allFrom 39 = .ok (.aload_n 0, 1) := by decide +kernel
theorem dX12_allFrom_40 : decode cX12_allFrom 40 = .ok (.getfield 25, 3) := by decide +kernel
theorem dX12_allFrom_43 : decode cX12_allFrom 43 = .ok (.iload 5, 2) := by decide +kernel
theorem dX12_allFrom_45 : decode cX12_allFrom 45 = .ok (.baload, 1) := by decide +kernel
theorem dX12_allFrom_46 : decode cX12_allFrom 46 = .ok (.ifCond .eq 34, 3) := by decide +kernel
theorem dX12_allFrom_49 : decode cX12_allFrom 49 = .ok (.aload_n 0, 1) := by decide +kernel
theorem dX12_allFrom_50 : decode cX12_allFrom 50 = .ok (.getfield 31, 3) := by decide +kernel
theorem dX12_allFrom_53 : decode cX12_allFrom 53 = .ok (.iload 5, 2) := by decide +kernel
theorem dX12_allFrom_55 : decode cX12_allFrom 55 = .ok (.iaload, 1) := by decide +kernel
theorem dX12_allFrom_56 : decode cX12_allFrom 56 = .ok (.iload_n 2, 1) := by decide +kernel
theorem dX12_allFrom_57 : decode cX12_allFrom 57 = .ok (.iand, 1) := by decide +kernel
theorem dX12_allFrom_58 : decode cX12_allFrom 58 = .ok (.ifCond .ne 22, 3) := by decide +kernel
theorem dX12_allFrom_61 : decode cX12_allFrom 61 = .ok (.aload_n 0, 1) := by decide +kernel
theorem dX12_allFrom_62 : decode cX12_allFrom 62 = .ok (.iload_n 1, 1) := by decide +kernel
theorem dX12_allFrom_63 : decode cX12_allFrom 63 = .ok (.iconst 1, 1) := by decide +kernel
theorem dX12_allFrom_64 : decode cX12_allFrom 64 = .ok (.iadd, 1) := by decide +kernel
theorem dX12_allFrom_65 : decode cX12_allFrom 65 = .ok (.iload_n 2, 1) := by decide +kernel
theorem dX12_allFrom_66 : decode cX12_allFrom 66 = .ok (.iconst 1, 1) := by decide +kernel
theorem dX12_allFrom_67 : decode cX12_allFrom 67 = .ok (.iload 5, 2) := by decide +kernel
theorem dX12_allFrom_69 : decode cX12_allFrom 69 = .ok (.ishl, 1) := by decide +kernel
theorem dX12_allFrom_70 : decode cX12_allFrom 70 = .ok (.ior, 1) := by decide +kernel
theorem dX12_allFrom_71 : decode cX12_allFrom 71 = .ok (.iload_n 3, 1) := by decide +kernel
theorem dX12_allFrom_72 : decode cX12_allFrom 72 = .ok (.invokevirtual 251, 3) := by decide +kernel
theorem dX12_allFrom_75 : decode cX12_allFrom 75 = .ok (.ifCond .eq 5, 3) := by decide +kernel
theorem dX12_allFrom_78 : decode cX12_allFrom 78 = .ok (.iconst 1, 1) := by decide +kernel
theorem dX12_allFrom_79 : decode cX12_allFrom 79 = .ok (.ireturn, 1) := by decide +kernel
theorem dX12_allFrom_80 : decode cX12_allFrom 80 = .ok (.iinc 4 1, 3) := by decide +kernel
theorem dX12_allFrom_83 : decode cX12_allFrom 83 = .ok (.goto (-68), 3) := by decide +kernel
theorem dX12_allFrom_86 : decode cX12_allFrom 86 = .ok (.iconst 0, 1) := by decide +kernel
theorem dX12_allFrom_87 : decode cX12_allFrom 87 = .ok (.ireturn, 1) := by decide +kernel
theorem dX12_all_0 : decode cX12_all 0 = .ok (.iload_n 1, 1) := by decide +kernel
theorem dX12_all_1 : decode cX12_all 1 = .ok (.iconst 1, 1) := by decide +kernel
theorem dX12_all_2 : decode cX12_all 2 = .ok (.bipush 15, 2) := by decide +kernel
theorem dX12_all_4 : decode cX12_all 4 = .ok (.invokestatic 56, 3) := by decide +kernel
theorem dX12_all_7 : decode cX12_all 7 = .ok (.ifCond .ne 6, 3) := by decide +kernel
theorem dX12_all_10 : decode cX12_all 10 = .ok (.bipush (-2), 2) := by decide +kernel
theorem dX12_all_12 : decode cX12_all 12 = .ok (.ireturn, 1) := by decide +kernel
theorem dX12_all_13 : decode cX12_all 13 = .ok (.aload_n 0, 1) := by decide +kernel
theorem dX12_all_14 : decode cX12_all 14 = .ok (.aload_n 0, 1) := by decide +kernel
theorem dX12_all_15 : decode cX12_all 15 = .ok (.invokevirtual 164, 3) := by decide +kernel
theorem dX12_all_18 : decode cX12_all 18 = .ok (.invokevirtual 217, 3) := by decide +kernel
theorem dX12_all_21 : decode cX12_all 21 = .ok (.aload_n 0, 1) := by decide +kernel
theorem dX12_all_22 : decode cX12_all 22 = .ok (.invokevirtual 223, 3) := by decide +kernel
theorem dX12_all_25 : decode cX12_all 25 = .ok (.aload_n 0, 1) := by decide +kernel
theorem dX12_all_26 : decode cX12_all 26 = .ok (.iconst 0, 1) := by decide +kernel
theorem dX12_all_27 : decode cX12_all 27 = .ok (.iconst 0, 1) := by decide +kernel
theorem dX12_all_28 : decode cX12_all 28 = .ok (.iload_n 1, 1) := by decide +kernel
theorem dX12_all_29 : decode cX12_all 29 = .ok (.invokevirtual 251, 3) := by decide +kernel
theorem dX12_all_32 : decode cX12_all 32 = .ok (.ifCond .eq 7, 3) := by decide +kernel
theorem dX12_all_35 : decode cX12_all 35 = .ok (.iconst 1, 1) := by decide +kernel
theorem dX12_all_36 : decode cX12_all 36 = .ok (.goto 4, 3) := by decide +kernel
theorem dX12_all_39 : decode cX12_all 39 = .ok (.iconst 0, 1) := by decide +kernel
theorem dX12_all_40 : decode cX12_all 40 = .ok (.ireturn, 1) := by decide +kernel
theorem dX12_room_0 : decode cX12_room 0 = .ok (.aload_n 0, 1) := by decide +kernel
theorem dX12_room_1 : decode cX12_room 1 = .ok (.invokevirtual 223, 3) := by decide +kernel
theorem dX12_room_4 : decode cX12_room 4 = .ok (.bipush 10, 2) := by decide +kernel
theorem dX12_room_6 : decode cX12_room 6 = .ok (.istore_n 1, 1) := by decide +kernel
theorem dX12_room_7 : decode cX12_room 7 = .ok (.iload_n 1, 1) := by decide +kernel
theorem dX12_room_8 : decode cX12_room 8 = .ok (.bipush 30, 2) := by decide +kernel
theorem dX12_room_10 : decode cX12_room 10 = .ok (.if_icmp .gt 27, 3) := by decide +kernel
theorem dX12_room_13 : decode cX12_room 13 = .ok (.aload_n 0, 1) := by decide +kernel
theorem dX12_room_14 : decode cX12_room 14 = .ok (.iload_n 1, 1) := by decide +kernel
theorem dX12_room_15 : decode cX12_room 15 = .ok (.invokevirtual 217, 3) := by decide +kernel
theorem dX12_room_18 : decode cX12_room 18 = .ok (.aload_n 0, 1) := by decide +kernel
theorem dX12_room_19 : decode cX12_room 19 = .ok (.iconst 0, 1) := by decide +kernel
theorem dX12_room_20 : decode cX12_room 20 = .ok (.iconst 0, 1) := by decide +kernel
theorem dX12_room_21 : decode cX12_room 21 = .ok (.bipush 15, 2) := by decide +kernel
theorem dX12_room_23 : decode cX12_room 23 = .ok (.invokevirtual 251, 3) := by decide +kernel
theorem dX12_room_26 : decode cX12_room 26 = .ok (.ifCond .eq 5, 3) := by decide +kernel
theorem dX12_room_29 : decode cX12_room 29 = .ok (.iload_n 1, 1) := by decide +kernel
theorem dX12_room_30 : decode cX12_room 30 = .ok (.ireturn, 1) := by decide +kernel
theorem dX12_room_31 : decode cX12_room 31 = .ok (.iinc 1 1, 3) := by decide +kernel
theorem dX12_room_34 : decode cX12_room 34 = .ok (.goto (-27), 3) := by decide +kernel
theorem dX12_room_37 : decode cX12_room 37 = .ok (.bipush (-5), 2) := by decide +kernel
theorem dX12_room_39 : decode cX12_room 39 = .ok (.ireturn, 1) := by decide +kernel
theorem dX12_movesFrom_0 : decode cX12_movesFrom 0 = .ok (.iload_n 3, 1) := by decide +kernel
theorem dX12_movesFrom_1 : decode cX12_movesFrom 1 = .ok (.aload_n 0, 1) := by decide +kernel
theorem dX12_movesFrom_2 : decode cX12_movesFrom 2 = .ok (.getfield 254, 3) := by decide +kernel
theorem dX12_movesFrom_5 : decode cX12_movesFrom 5 = .ok (.if_icmp .lt 4, 3) := by decide +kernel
theorem dX12_movesFrom_8 : decode cX12_movesFrom 8 = .ok (.return_, 1) := by decide +kernel
theorem dX12_movesFrom_9 : decode cX12_movesFrom 9 = .ok (.iload_n 1, 1) := by decide +kernel
theorem dX12_movesFrom_10 : decode cX12_movesFrom 10 = .ok (.aload_n 0, 1) := by decide +kernel
theorem dX12_movesFrom_11 : decode cX12_movesFrom 11 = .ok (.getfield 9, 3) := by decide +kernel
theorem dX12_movesFrom_14 : decode cX12_movesFrom 14 = .ok (.iconst 0, 1) := by decide +kernel
theorem dX12_movesFrom_15 : decode cX12_movesFrom 15 = .ok (.iaload, 1) := by decide +kernel
theorem dX12_movesFrom_16 : decode cX12_movesFrom 16 = .ok (.if_icmp .ne 9, 3) := by decide +kernel
theorem dX12_movesFrom_19 : decode cX12_movesFrom 19 = .ok (.aload_n 0, 1) := by decide +kernel
theorem dX12_movesFrom_20 : decode cX12_movesFrom 20 = .ok (.iload_n 3, 1) := by decide +kernel
theorem dX12_movesFrom_21 : decode cX12_movesFrom 21 = .ok (.putfield 254, 3) := by decide +kernel
theorem dX12_movesFrom_24 : decode cX12_movesFrom 24 = .ok (.return_, 1) := by decide +kernel
theorem dX12_movesFrom_25 : decode cX12_movesFrom 25 = .ok (.iload_n 1, 1) := by decide +kernel
theorem dX12_movesFrom_26 : decode cX12_movesFrom 26 = .ok (.iload 4, 2) := by decide +kernel
theorem dX12_movesFrom_28 : decode cX12_movesFrom 28 = .ok (.if_icmp .eq 28, 3) := by decide +kernel
theorem dX12_movesFrom_31 : decode cX12_movesFrom 31 = .ok (.aload_n 0, 1) := by decide +kernel
theorem dX12_movesFrom_32 : decode cX12_movesFrom 32 = .ok (.getfield 9, 3) := by decide +kernel
theorem dX12_movesFrom_35 : decode cX12_movesFrom 35 = .ok (.bipush 42, 2) := by decide +kernel
theorem dX12_movesFrom_37 : decode cX12_movesFrom 37 = .ok (.iload_n 1, 1) := by decide +kernel
theorem dX12_movesFrom_38 : decode cX12_movesFrom 38 = .ok (.iadd, 1) := by decide +kernel
theorem dX12_movesFrom_39 : decode cX12_movesFrom 39 = .ok (.iaload, 1) := by decide +kernel
theorem dX12_movesFrom_40 : decode cX12_movesFrom 40 = .ok (.iconst 4, 1) := by decide +kernel
theorem dX12_movesFrom_41 : decode cX12_movesFrom 41 = .ok (.if_icmp .ne 15, 3) := by decide +kernel
theorem dX12_movesFrom_44 : decode cX12_movesFrom 44 = .ok (.aload_n 0, 1) := by decide +kernel
theorem dX12_movesFrom_45 : decode cX12_movesFrom 45 = .ok (.iload_n 1, 1) := by decide +kernel
theorem dX12_movesFrom_46 : decode cX12_movesFrom 46 = .ok (.iconst 1, 1) := by decide +kernel
theorem dX12_movesFrom_47 : decode cX12_movesFrom 47 = .ok (.iadd, 1) := by decide +kernel
theorem dX12_movesFrom_48 : decode cX12_movesFrom 48 = .ok (.iload_n 2, 1) := by decide +kernel
theorem dX12_movesFrom_49 : decode cX12_movesFrom 49 = .ok (.iload_n 3, 1) := by decide +kernel
theorem dX12_movesFrom_50 : decode cX12_movesFrom 50 = .ok (.iload 4, 2) := by decide +kernel
theorem dX12_movesFrom_52 : decode cX12_movesFrom 52 = .ok (.invokevirtual 257, 3) := by decide +kernel
theorem dX12_movesFrom_55 : decode cX12_movesFrom 55 = .ok (.return_, 1) := by decide +kernel
theorem dX12_movesFrom_56 : decode cX12_movesFrom 56 = .ok (.iconst 0, 1) := by decide +kernel
theorem dX12_movesFrom_57 : decode cX12_movesFrom 57 = .ok (.istore 5, 2) := by decide +kernel
theorem dX12_movesFrom_59 : decode cX12_movesFrom 59 = .ok (.iload 5, 2) := by decide +kernel
theorem dX12_movesFrom_61 : decode cX12_movesFrom 61 = .ok (.iconst 4, 1) := by decide +kernel
theorem dX12_movesFrom_62 : decode cX12_movesFrom 62 = .ok (.if_icmp .ge 81, 3) := by decide +kernel
theorem dX12_movesFrom_65 : decode cX12_movesFrom 65 = .ok (.iconst 4, 1) := by decide +kernel
theorem dX12_movesFrom_66 : decode cX12_movesFrom 66 = .ok (.iload_n 1, 1) := by decide +kernel
theorem dX12_movesFrom_67 : decode cX12_movesFrom 67 = .ok (.imul, 1) := by decide +kernel
theorem dX12_movesFrom_68 : decode cX12_movesFrom 68 = .ok (.iload 5, 2) := by decide +kernel
theorem dX12_movesFrom_70 : decode cX12_movesFrom 70 = .ok (.iadd, 1) := by decide +kernel
theorem dX12_movesFrom_71 : decode cX12_movesFrom 71 = .ok (.istore 6, 2) := by decide +kernel
theorem dX12_movesFrom_73 : decode cX12_movesFrom 73 = .ok (.aload_n 0, 1) := by decide +kernel
theorem dX12_movesFrom_74 : decode cX12_movesFrom 74 = .ok (.getfield 25, 3) := by decide +kernel
theorem dX12_movesFrom_77 : decode cX12_movesFrom 77 = .ok (.iload 6, 2) := by decide +kernel
theorem dX12_movesFrom_79 : decode cX12_movesFrom 79 = .ok (.baload, 1) := by decide +kernel
theorem dX12_movesFrom_80 : decode cX12_movesFrom 80 = .ok (.ifCond .eq 57, 3) := by decide +kernel
theorem dX12_movesFrom_83 : decode cX12_movesFrom 83 = .ok (.aload_n 0, 1) := by decide +kernel
theorem dX12_movesFrom_84 : decode cX12_movesFrom 84 = .ok (.getfield 31, 3) := by decide +kernel
theorem dX12_movesFrom_87 : decode cX12_movesFrom 87 = .ok (.iload 6, 2) := by decide +kernel
theorem dX12_movesFrom_89 : decode cX12_movesFrom 89 = .ok (.iaload, 1) := by decide +kernel
theorem dX12_movesFrom_90 : decode cX12_movesFrom 90 = .ok (.iload_n 2, 1) := by decide +kernel
theorem dX12_movesFrom_91 : decode cX12_movesFrom 91 = .ok (.iand, 1) := by decide +kernel
theorem dX12_movesFrom_92 : decode cX12_movesFrom 92 = .ok (.ifCond .ne 45, 3) := by decide +kernel
theorem dX12_movesFrom_95 : decode cX12_movesFrom 95 = .ok (.aload_n 0, 1) := by decide +kernel
theorem dX12_movesFrom_96 : decode cX12_movesFrom 96 = .ok (.iload_n 1, 1) := by decide +kernel
theorem dX12_movesFrom_97 : decode cX12_movesFrom 97 = .ok (.iconst 1, 1) := by decide +kernel
theorem dX12_movesFrom_98 : decode cX12_movesFrom 98 = .ok (.iadd, 1) := by decide +kernel
theorem dX12_movesFrom_99 : decode cX12_movesFrom 99 = .ok (.iload_n 2, 1) := by decide +kernel
theorem dX12_movesFrom_100 : decode cX12_movesFrom 100 = .ok (.iconst 1, 1) := by decide +kernel
theorem dX12_movesFrom_101 : decode cX12_movesFrom 101 = .ok (.iload 6, 2) := by decide +kernel
theorem dX12_movesFrom_103 : decode cX12_movesFrom 103 = .ok (.ishl, 1) := by decide +kernel
theorem dX12_movesFrom_104 : decode cX12_movesFrom 104 = .ok (.ior, 1) := by decide +kernel
theorem dX12_movesFrom_105 : decode cX12_movesFrom 105 = .ok (.iload_n 3, 1) := by decide +kernel
theorem dX12_movesFrom_106 : decode cX12_movesFrom 106 = .ok (.iload_n 1, 1) := by decide +kernel
theorem dX12_movesFrom_107 : decode cX12_movesFrom 107 = .ok (.iload 4, 2) := by decide +kernel
theorem dX12_movesFrom_109 : decode cX12_movesFrom 109 = .ok (.if_icmp .eq 17, 3) := by decide +kernel
theorem dX12_movesFrom_112 : decode cX12_movesFrom 112 = .ok (.aload_n 0, 1) := by decide +kernel
theorem dX12_movesFrom_113 : decode cX12_movesFrom 113 = .ok (.getfield 9, 3) := by decide +kernel
theorem dX12_movesFrom_116 : decode cX12_movesFrom 116 = .ok (.bipush 42, 2) := by decide +kernel
theorem dX12_movesFrom_118 : decode cX12_movesFrom 118 = .ok (.iload_n 1, 1) := by decide +kernel
theorem dX12_movesFrom_119 : decode cX12_movesFrom 119 = .ok (.iadd, 1) := by decide +kernel
theorem dX12_movesFrom_120 : decode cX12_movesFrom 120 = .ok (.iaload, 1) := by decide +kernel
theorem dX12_movesFrom_121 : decode cX12_movesFrom 121 = .ok (.iload 5, 2) := by decide +kernel
theorem dX12_movesFrom_123 : decode cX12_movesFrom 123 = .ok (.if_icmp .ne 7, 3) := by decide +kernel
theorem dX12_movesFrom_126 : decode cX12_movesFrom 126 = .ok (.iconst 0, 1) := by decide +kernel
theorem dX12_movesFrom_127 : decode cX12_movesFrom 127 = .ok (.goto 4, 3) := by decide +kernel
theorem dX12_movesFrom_130 : decode cX12_movesFrom 130 = .ok (.iconst 1, 1) := by decide +kernel
theorem dX12_movesFrom_131 : decode cX12_movesFrom 131 = .ok (.iadd, 1) := by decide +kernel
theorem dX12_movesFrom_132 : decode cX12_movesFrom 132 = .ok (.iload 4, 2) := by decide +kernel
theorem dX12_movesFrom_134 : decode cX12_movesFrom 134 = .ok (.invokevirtual 257, 3) := by decide +kernel
theorem dX12_movesFrom_137 : decode cX12_movesFrom 137 = .ok (.iinc 5 1, 3) := by decide +kernel
theorem dX12_movesFrom_140 : decode cX12_movesFrom 140 = .ok (.goto (-81), 3) := by decide +kernel
theorem dX12_movesFrom_143 : decode cX12_movesFrom 143 = .ok (.return_, 1) := by decide +kernel
theorem dX12_moved_0 : decode cX12_moved 0 = .ok (.aload_n 0, 1) := by decide +kernel
theorem dX12_moved_1 : decode cX12_moved 1 = .ok (.iload_n 1, 1) := by decide +kernel
theorem dX12_moved_2 : decode cX12_moved 2 = .ok (.invokevirtual 189, 3) := by decide +kernel
theorem dX12_moved_5 : decode cX12_moved 5 = .ok (.ifCond .ne 5, 3) := by decide +kernel
theorem dX12_moved_8 : decode cX12_moved 8 = .ok (.iconst (-1), 1) := by decide +kernel
theorem dX12_moved_9 : decode cX12_moved 9 = .ok (.ireturn, 1) := by decide +kernel
theorem dX12_moved_10 : decode cX12_moved 10 = .ok (.aload_n 0, 1) := by decide +kernel
theorem dX12_moved_11 : decode cX12_moved 11 = .ok (.getfield 9, 3) := by decide +kernel
theorem dX12_moved_14 : decode cX12_moved 14 = .ok (.bipush 42, 2) := by decide +kernel
theorem dX12_moved_16 : decode cX12_moved 16 = .ok (.iload_n 1, 1) := by decide +kernel
theorem dX12_moved_17 : decode cX12_moved 17 = .ok (.iadd, 1) := by decide +kernel
theorem dX12_moved_18 : decode cX12_moved 18 = .ok (.iaload, 1) := by decide +kernel
theorem dX12_moved_19 : decode cX12_moved 19 = .ok (.iconst 4, 1) := by decide +kernel
theorem dX12_moved_20 : decode cX12_moved 20 = .ok (.if_icmp .eq 6, 3) := by decide +kernel
theorem dX12_moved_23 : decode cX12_moved 23 = .ok (.bipush (-5), 2) := by decide +kernel
theorem dX12_moved_25 : decode cX12_moved 25 = .ok (.ireturn, 1) := by decide +kernel
theorem dX12_moved_26 : decode cX12_moved 26 = .ok (.aload_n 0, 1) := by decide +kernel
theorem dX12_moved_27 : decode cX12_moved 27 = .ok (.aload_n 0, 1) := by decide +kernel
theorem dX12_moved_28 : decode cX12_moved 28 = .ok (.invokevirtual 164, 3) := by decide +kernel
theorem dX12_moved_31 : decode cX12_moved 31 = .ok (.invokevirtual 217, 3) := by decide +kernel
theorem dX12_moved_34 : decode cX12_moved 34 = .ok (.aload_n 0, 1) := by decide +kernel
theorem dX12_moved_35 : decode cX12_moved 35 = .ok (.invokevirtual 223, 3) := by decide +kernel
theorem dX12_moved_38 : decode cX12_moved 38 = .ok (.aload_n 0, 1) := by decide +kernel
theorem dX12_moved_39 : decode cX12_moved 39 = .ok (.bipush 99, 2) := by decide +kernel
theorem dX12_moved_41 : decode cX12_moved 41 = .ok (.putfield 254, 3) := by decide +kernel
theorem dX12_moved_44 : decode cX12_moved 44 = .ok (.aload_n 0, 1) := by decide +kernel
theorem dX12_moved_45 : decode cX12_moved 45 = .ok (.iconst 0, 1) := by decide +kernel
theorem dX12_moved_46 : decode cX12_moved 46 = .ok (.iconst 0, 1) := by decide +kernel
theorem dX12_moved_47 : decode cX12_moved 47 = .ok (.iconst 0, 1) := by decide +kernel
theorem dX12_moved_48 : decode cX12_moved 48 = .ok (.iload_n 1, 1) := by decide +kernel
theorem dX12_moved_49 : decode cX12_moved 49 = .ok (.invokevirtual 257, 3) := by decide +kernel
theorem dX12_moved_52 : decode cX12_moved 52 = .ok (.aload_n 0, 1) := by decide +kernel
theorem dX12_moved_53 : decode cX12_moved 53 = .ok (.getfield 254, 3) := by decide +kernel
theorem dX12_moved_56 : decode cX12_moved 56 = .ok (.bipush 99, 2) := by decide +kernel
theorem dX12_moved_58 : decode cX12_moved 58 = .ok (.if_icmp .ne 8, 3) := by decide +kernel
theorem dX12_moved_61 : decode cX12_moved 61 = .ok (.bipush (-5), 2) := by decide +kernel
theorem dX12_moved_63 : decode cX12_moved 63 = .ok (.goto 7, 3) := by decide +kernel
theorem dX12_moved_66 : decode cX12_moved 66 = .ok (.aload_n 0, 1) := by decide +kernel
theorem dX12_moved_67 : decode cX12_moved 67 = .ok (.getfield 254, 3) := by decide +kernel
theorem dX12_moved_70 : decode cX12_moved 70 = .ok (.ireturn, 1) := by decide +kernel
theorem dX12_takes_0 : decode cX12_takes 0 = .ok (.iconst 4, 1) := by decide +kernel
theorem dX12_takes_1 : decode cX12_takes 1 = .ok (.istore_n 3, 1) := by decide +kernel
theorem dX12_takes_2 : decode cX12_takes 2 = .ok (.iconst 0, 1) := by decide +kernel
theorem dX12_takes_3 : decode cX12_takes 3 = .ok (.istore 4, 2) := by decide +kernel
theorem dX12_takes_5 : decode cX12_takes 5 = .ok (.iload 4, 2) := by decide +kernel
theorem dX12_takes_7 : decode cX12_takes 7 = .ok (.iconst 4, 1) := by decide +kernel
theorem dX12_takes_8 : decode cX12_takes 8 = .ok (.if_icmp .ge 83, 3) := by decide +kernel
theorem dX12_takes_11 : decode cX12_takes 11 = .ok (.iconst 4, 1) := by decide +kernel
theorem dX12_takes_12 : decode cX12_takes 12 = .ok (.iload_n 1, 1) := by decide +kernel
theorem dX12_takes_13 : decode cX12_takes 13 = .ok (.imul, 1) := by decide +kernel
theorem dX12_takes_14 : decode cX12_takes 14 = .ok (.iload 4, 2) := by decide +kernel
theorem dX12_takes_16 : decode cX12_takes 16 = .ok (.iadd, 1) := by decide +kernel
theorem dX12_takes_17 : decode cX12_takes 17 = .ok (.istore 5, 2) := by decide +kernel
theorem dX12_takes_19 : decode cX12_takes 19 = .ok (.aload_n 0, 1) := by decide +kernel
theorem dX12_takes_20 : decode cX12_takes 20 = .ok (.getfield 25, 3) := by decide +kernel
theorem dX12_takes_23 : decode cX12_takes 23 = .ok (.iload 5, 2) := by decide +kernel
theorem dX12_takes_25 : decode cX12_takes 25 = .ok (.baload, 1) := by decide +kernel
theorem dX12_takes_26 : decode cX12_takes 26 = .ok (.ifCond .eq 19, 3) := by decide +kernel
theorem dX12_takes_29 : decode cX12_takes 29 = .ok (.aload_n 0, 1) := by decide +kernel
theorem dX12_takes_30 : decode cX12_takes 30 = .ok (.getfield 31, 3) := by decide +kernel
theorem dX12_takes_33 : decode cX12_takes 33 = .ok (.iload 5, 2) := by decide +kernel
theorem dX12_takes_35 : decode cX12_takes 35 = .ok (.iaload, 1) := by decide +kernel
theorem dX12_takes_36 : decode cX12_takes 36 = .ok (.iload_n 2, 1) := by decide +kernel
theorem dX12_takes_37 : decode cX12_takes 37 = .ok (.iand, 1) := by decide +kernel
theorem dX12_takes_38 : decode cX12_takes 38 = .ok (.ifCond .ne 7, 3) := by decide +kernel
theorem dX12_takes_41 : decode cX12_takes 41 = .ok (.iconst 1, 1) := by decide +kernel
theorem dX12_takes_42 : decode cX12_takes 42 = .ok (.goto 4, 3) := by decide +kernel
theorem dX12_takes_45 : decode cX12_takes 45 = .ok (.iconst 0, 1) := by decide +kernel
theorem dX12_takes_46 : decode cX12_takes 46 = .ok (.istore 6, 2) := by decide +kernel
theorem dX12_takes_48 : decode cX12_takes 48 = .ok (.iload 6, 2) := by decide +kernel
theorem dX12_takes_50 : decode cX12_takes 50 = .ok (.ifCond .eq 33, 3) := by decide +kernel
theorem dX12_takes_53 : decode cX12_takes 53 = .ok (.iload_n 3, 1) := by decide +kernel
theorem dX12_takes_54 : decode cX12_takes 54 = .ok (.iconst 4, 1) := by decide +kernel
theorem dX12_takes_55 : decode cX12_takes 55 = .ok (.if_icmp .eq 23, 3) := by decide +kernel
theorem dX12_takes_58 : decode cX12_takes 58 = .ok (.aload_n 0, 1) := by decide +kernel
theorem dX12_takes_59 : decode cX12_takes 59 = .ok (.getfield 28, 3) := by decide +kernel
theorem dX12_takes_62 : decode cX12_takes 62 = .ok (.iload 5, 2) := by decide +kernel
theorem dX12_takes_64 : decode cX12_takes 64 = .ok (.iaload, 1) := by decide +kernel
theorem dX12_takes_65 : decode cX12_takes 65 = .ok (.aload_n 0, 1) := by decide +kernel
theorem dX12_takes_66 : decode cX12_takes 66 = .ok (.getfield 28, 3) := by decide +kernel
theorem dX12_takes_69 : decode cX12_takes 69 = .ok (.iconst 4, 1) := by decide +kernel
theorem dX12_takes_70 : decode cX12_takes 70 = .ok (.iload_n 1, 1) := by decide +kernel
theorem dX12_takes_71 : decode cX12_takes 71 = .ok (.imul, 1) := by decide +kernel
theorem dX12_takes_72 : decode cX12_takes 72 = .ok (.iload_n 3, 1) := by decide +kernel
theorem dX12_takes_73 : decode cX12_takes 73 = .ok (.iadd, 1) := by decide +kernel
theorem dX12_takes_74 : decode cX12_takes 74 = .ok (.iaload, 1) := by decide +kernel
theorem dX12_takes_75 : decode cX12_takes 75 = .ok (.if_icmp .le 8, 3) := by decide +kernel
theorem dX12_takes_78 : decode cX12_takes 78 = .ok (.iload 4, 2) := by decide +kernel
theorem dX12_takes_80 : decode cX12_takes 80 = .ok (.goto 4, 3) := by decide +kernel
theorem dX12_takes_83 : decode cX12_takes 83 = .ok (.iload_n 3, 1) := by decide +kernel
theorem dX12_takes_84 : decode cX12_takes 84 = .ok (.istore_n 3, 1) := by decide +kernel
theorem dX12_takes_85 : decode cX12_takes 85 = .ok (.iinc 4 1, 3) := by decide +kernel
theorem dX12_takes_88 : decode cX12_takes 88 = .ok (.goto (-83), 3) := by decide +kernel
theorem dX12_takes_91 : decode cX12_takes 91 = .ok (.iload_n 3, 1) := by decide +kernel
theorem dX12_takes_92 : decode cX12_takes 92 = .ok (.ireturn, 1) := by decide +kernel
theorem dX12_keepsLine_0 : decode cX12_keepsLine 0 = .ok (.iload_n 1, 1) := by decide +kernel
theorem dX12_keepsLine_1 : decode cX12_keepsLine 1 = .ok (.aload_n 0, 1) := by decide +kernel
theorem dX12_keepsLine_2 : decode cX12_keepsLine 2 = .ok (.getfield 229, 3) := by decide +kernel
theorem dX12_keepsLine_5 : decode cX12_keepsLine 5 = .ok (.if_icmp .gt 19, 3) := by decide +kernel
theorem dX12_keepsLine_8 : decode cX12_keepsLine 8 = .ok (.iload_n 1, 1) := by decide +kernel
theorem dX12_keepsLine_9 : decode cX12_keepsLine 9 = .ok (.aload_n 0, 1) := by decide +kernel
theorem dX12_keepsLine_10 : decode cX12_keepsLine 10 = .ok (.getfield 229, 3) := by decide +kernel
theorem dX12_keepsLine_13 : decode cX12_keepsLine 13 = .ok (.if_icmp .ne 51, 3) := by decide +kernel
theorem dX12_keepsLine_16 : decode cX12_keepsLine 16 = .ok (.iload_n 2, 1) := by decide +kernel
theorem dX12_keepsLine_17 : decode cX12_keepsLine 17 = .ok (.aload_n 0, 1) := by decide +kernel
theorem dX12_keepsLine_18 : decode cX12_keepsLine 18 = .ok (.getfield 232, 3) := by decide +kernel
theorem dX12_keepsLine_21 : decode cX12_keepsLine 21 = .ok (.if_icmp .le 43, 3) := by decide +kernel
theorem dX12_keepsLine_24 : decode cX12_keepsLine 24 = .ok (.aload_n 0, 1) := by decide +kernel
theorem dX12_keepsLine_25 : decode cX12_keepsLine 25 = .ok (.iload_n 1, 1) := by decide +kernel
theorem dX12_keepsLine_26 : decode cX12_keepsLine 26 = .ok (.putfield 229, 3) := by decide +kernel
theorem dX12_keepsLine_29 : decode cX12_keepsLine 29 = .ok (.aload_n 0, 1) := by decide +kernel
theorem dX12_keepsLine_30 : decode cX12_keepsLine 30 = .ok (.iload_n 2, 1) := by decide +kernel
theorem dX12_keepsLine_31 : decode cX12_keepsLine 31 = .ok (.putfield 232, 3) := by decide +kernel
theorem dX12_keepsLine_34 : decode cX12_keepsLine 34 = .ok (.iconst 0, 1) := by decide +kernel
theorem dX12_keepsLine_35 : decode cX12_keepsLine 35 = .ok (.istore_n 3, 1) := by decide +kernel
theorem dX12_keepsLine_36 : decode cX12_keepsLine 36 = .ok (.iload_n 3, 1) := by decide +kernel
theorem dX12_keepsLine_37 : decode cX12_keepsLine 37 = .ok (.aload_n 0, 1) := by decide +kernel
theorem dX12_keepsLine_38 : decode cX12_keepsLine 38 = .ok (.getfield 9, 3) := by decide +kernel
theorem dX12_keepsLine_41 : decode cX12_keepsLine 41 = .ok (.iconst 0, 1) := by decide +kernel
theorem dX12_keepsLine_42 : decode cX12_keepsLine 42 = .ok (.iaload, 1) := by decide +kernel
theorem dX12_keepsLine_43 : decode cX12_keepsLine 43 = .ok (.if_icmp .ge 21, 3) := by decide +kernel
theorem dX12_keepsLine_46 : decode cX12_keepsLine 46 = .ok (.aload_n 0, 1) := by decide +kernel
theorem dX12_keepsLine_47 : decode cX12_keepsLine 47 = .ok (.getfield 43, 3) := by decide +kernel
theorem dX12_keepsLine_50 : decode cX12_keepsLine 50 = .ok (.iload_n 3, 1) := by decide +kernel
theorem dX12_keepsLine_51 : decode cX12_keepsLine 51 = .ok (.aload_n 0, 1) := by decide +kernel
theorem dX12_keepsLine_52 : decode cX12_keepsLine 52 = .ok (.getfield 40, 3) := by decide +kernel
theorem dX12_keepsLine_55 : decode cX12_keepsLine 55 = .ok (.iload_n 3, 1) := by decide +kernel
theorem dX12_keepsLine_56 : decode cX12_keepsLine 56 = .ok (.iaload, 1) := by decide +kernel
theorem dX12_keepsLine_57 : decode cX12_keepsLine 57 = .ok (.iastore, 1) := by decide +kernel
theorem dX12_keepsLine_58 : decode cX12_keepsLine 58 = .ok (.iinc 3 1, 3) := by decide +kernel
theorem dX12_keepsLine_61 : decode cX12_keepsLine 61 = .ok (.goto (-25), 3) := by decide +kernel
theorem dX12_keepsLine_64 : decode cX12_keepsLine 64 = .ok (.return_, 1) := by decide +kernel
theorem dX12_ordersFrom_0 : decode cX12_ordersFrom 0 = .ok (.iload_n 1, 1) := by decide +kernel
theorem dX12_ordersFrom_1 : decode cX12_ordersFrom 1 = .ok (.aload_n 0, 1) := by decide +kernel
theorem dX12_ordersFrom_2 : decode cX12_ordersFrom 2 = .ok (.getfield 9, 3) := by decide +kernel
theorem dX12_ordersFrom_5 : decode cX12_ordersFrom 5 = .ok (.iconst 0, 1) := by decide +kernel
theorem dX12_ordersFrom_6 : decode cX12_ordersFrom 6 = .ok (.iaload, 1) := by decide +kernel
theorem dX12_ordersFrom_7 : decode cX12_ordersFrom 7 = .ok (.if_icmp .ne 12, 3) := by decide +kernel
theorem dX12_ordersFrom_10 : decode cX12_ordersFrom 10 = .ok (.aload_n 0, 1) := by decide +kernel
theorem dX12_ordersFrom_11 : decode cX12_ordersFrom 11 = .ok (.iload 4, 2) := by decide +kernel
theorem dX12_ordersFrom_13 : decode cX12_ordersFrom 13 = .ok (.iload 5, 2) := by decide +kernel
theorem dX12_ordersFrom_15 : decode cX12_ordersFrom 15 = .ok (.invokevirtual 260, 3) := by decide +kernel
theorem dX12_ordersFrom_18 : decode cX12_ordersFrom 18 = .ok (.return_, 1) := by decide +kernel
theorem dX12_ordersFrom_19 : decode cX12_ordersFrom 19 = .ok (.iconst 0, 1) := by decide +kernel
theorem dX12_ordersFrom_20 : decode cX12_ordersFrom 20 = .ok (.istore 6, 2) := by decide +kernel
theorem dX12_ordersFrom_22 : decode cX12_ordersFrom 22 = .ok (.iload 6, 2) := by decide +kernel
theorem dX12_ordersFrom_24 : decode cX12_ordersFrom 24 = .ok (.aload_n 0, 1) := by decide +kernel
theorem dX12_ordersFrom_25 : decode cX12_ordersFrom 25 = .ok (.getfield 9, 3) := by decide +kernel
theorem dX12_ordersFrom_28 : decode cX12_ordersFrom 28 = .ok (.iconst 0, 1) := by decide +kernel
theorem dX12_ordersFrom_29 : decode cX12_ordersFrom 29 = .ok (.iaload, 1) := by decide +kernel
theorem dX12_ordersFrom_30 : decode cX12_ordersFrom 30 = .ok (.if_icmp .ge 105, 3) := by decide +kernel
theorem dX12_ordersFrom_33 : decode cX12_ordersFrom 33 = .ok (.iload_n 2, 1) := by decide +kernel
theorem dX12_ordersFrom_34 : decode cX12_ordersFrom 34 = .ok (.iload 6, 2) := by decide +kernel
theorem dX12_ordersFrom_36 : decode cX12_ordersFrom 36 = .ok (.ishr, 1) := by decide +kernel
theorem dX12_ordersFrom_37 : decode cX12_ordersFrom 37 = .ok (.iconst 1, 1) := by decide +kernel
theorem dX12_ordersFrom_38 : decode cX12_ordersFrom 38 = .ok (.iand, 1) := by decide +kernel
theorem dX12_ordersFrom_39 : decode cX12_ordersFrom 39 = .ok (.ifCond .ne 90, 3) := by decide +kernel
theorem dX12_ordersFrom_42 : decode cX12_ordersFrom 42 = .ok (.aload_n 0, 1) := by decide +kernel
theorem dX12_ordersFrom_43 : decode cX12_ordersFrom 43 = .ok (.iload 6, 2) := by decide +kernel
theorem dX12_ordersFrom_45 : decode cX12_ordersFrom 45 = .ok (.iload_n 3, 1) := by decide +kernel
theorem dX12_ordersFrom_46 : decode cX12_ordersFrom 46 = .ok (.invokevirtual 263, 3) := by decide +kernel
theorem dX12_ordersFrom_49 : decode cX12_ordersFrom 49 = .ok (.istore 7, 2) := by decide +kernel
theorem dX12_ordersFrom_51 : decode cX12_ordersFrom 51 = .ok (.aload_n 0, 1) := by decide +kernel
theorem dX12_ordersFrom_52 : decode cX12_ordersFrom 52 = .ok (.getfield 40, 3) := by decide +kernel
theorem dX12_ordersFrom_55 : decode cX12_ordersFrom 55 = .ok (.iload_n 1, 1) := by decide +kernel
theorem dX12_ordersFrom_56 : decode cX12_ordersFrom 56 = .ok (.iload 6, 2) := by decide +kernel
theorem dX12_ordersFrom_58 : decode cX12_ordersFrom 58 = .ok (.iastore, 1) := by decide +kernel
theorem dX12_ordersFrom_59 : decode cX12_ordersFrom 59 = .ok (.iload 7, 2) := by decide +kernel
theorem dX12_ordersFrom_61 : decode cX12_ordersFrom 61 = .ok (.iconst 4, 1) := by decide +kernel
theorem dX12_ordersFrom_62 : decode cX12_ordersFrom 62 = .ok (.if_icmp .ne 24, 3) := by decide +kernel
theorem dX12_ordersFrom_65 : decode cX12_ordersFrom 65 = .ok (.aload_n 0, 1) := by decide +kernel
theorem dX12_ordersFrom_66 : decode cX12_ordersFrom 66 = .ok (.iload_n 1, 1) := by decide +kernel
theorem dX12_ordersFrom_67 : decode cX12_ordersFrom 67 = .ok (.iconst 1, 1) := by decide +kernel
theorem dX12_ordersFrom_68 : decode cX12_ordersFrom 68 = .ok (.iadd, 1) := by decide +kernel
theorem dX12_ordersFrom_69 : decode cX12_ordersFrom 69 = .ok (.iload_n 2, 1) := by decide +kernel
theorem dX12_ordersFrom_70 : decode cX12_ordersFrom 70 = .ok (.iconst 1, 1) := by decide +kernel
theorem dX12_ordersFrom_71 : decode cX12_ordersFrom 71 = .ok (.iload 6, 2) := by decide +kernel
theorem dX12_ordersFrom_73 : decode cX12_ordersFrom 73 = .ok (.ishl, 1) := by decide +kernel
theorem dX12_ordersFrom_74 : decode cX12_ordersFrom 74 = .ok (.ior, 1) := by decide +kernel
theorem dX12_ordersFrom_75 : decode cX12_ordersFrom 75 = .ok (.iload_n 3, 1) := by decide +kernel
theorem dX12_ordersFrom_76 : decode cX12_ordersFrom 76 = .ok (.iload 4, 2) := by decide +kernel
theorem dX12_ordersFrom_78 : decode cX12_ordersFrom 78 = .ok (.iload 5, 2) := by decide +kernel
theorem dX12_ordersFrom_80 : decode cX12_ordersFrom 80 = .ok (.invokevirtual 266, 3) := by decide +kernel
theorem dX12_ordersFrom_83 : decode cX12_ordersFrom 83 = .ok (.goto 46, 3) := by decide +kernel
theorem dX12_ordersFrom_86 : decode cX12_ordersFrom 86 = .ok (.aload_n 0, 1) := by decide +kernel
theorem dX12_ordersFrom_87 : decode cX12_ordersFrom 87 = .ok (.iload_n 1, 1) := by decide +kernel
theorem dX12_ordersFrom_88 : decode cX12_ordersFrom 88 = .ok (.iconst 1, 1) := by decide +kernel
theorem dX12_ordersFrom_89 : decode cX12_ordersFrom 89 = .ok (.iadd, 1) := by decide +kernel
theorem dX12_ordersFrom_90 : decode cX12_ordersFrom 90 = .ok (.iload_n 2, 1) := by decide +kernel
theorem dX12_ordersFrom_91 : decode cX12_ordersFrom 91 = .ok (.iconst 1, 1) := by decide +kernel
theorem dX12_ordersFrom_92 : decode cX12_ordersFrom 92 = .ok (.iload 6, 2) := by decide +kernel
theorem dX12_ordersFrom_94 : decode cX12_ordersFrom 94 = .ok (.ishl, 1) := by decide +kernel
theorem dX12_ordersFrom_95 : decode cX12_ordersFrom 95 = .ok (.ior, 1) := by decide +kernel
theorem dX12_ordersFrom_96 : decode cX12_ordersFrom 96 = .ok (.iload_n 3, 1) := by decide +kernel
theorem dX12_ordersFrom_97 : decode cX12_ordersFrom 97 = .ok (.iconst 1, 1) := by decide +kernel
theorem dX12_ordersFrom_98 : decode cX12_ordersFrom 98 = .ok (.iconst 4, 1) := by decide +kernel
theorem dX12_ordersFrom_99 : decode cX12_ordersFrom 99 = .ok (.iload 6, 2) := by decide +kernel
theorem dX12_ordersFrom_101 : decode cX12_ordersFrom 101 = .ok (.imul, 1) := by decide +kernel
theorem dX12_ordersFrom_102 : decode cX12_ordersFrom 102 = .ok (.iload 7, 2) := by decide +kernel
theorem dX12_ordersFrom_104 : decode cX12_ordersFrom 104 = .ok (.iadd, 1) := by decide +kernel
theorem dX12_ordersFrom_105 : decode cX12_ordersFrom 105 = .ok (.ishl, 1) := by decide +kernel
theorem dX12_ordersFrom_106 : decode cX12_ordersFrom 106 = .ok (.ior, 1) := by decide +kernel
theorem dX12_ordersFrom_107 : decode cX12_ordersFrom 107 = .ok (.iload 4, 2) := by decide +kernel
theorem dX12_ordersFrom_109 : decode cX12_ordersFrom 109 = .ok (.iconst 1, 1) := by decide +kernel
theorem dX12_ordersFrom_110 : decode cX12_ordersFrom 110 = .ok (.iadd, 1) := by decide +kernel
theorem dX12_ordersFrom_111 : decode cX12_ordersFrom 111 = .ok (.iload 5, 2) := by decide +kernel
theorem dX12_ordersFrom_113 : decode cX12_ordersFrom 113 = .ok (.aload_n 0, 1) := by decide +kernel
theorem dX12_ordersFrom_114 : decode cX12_ordersFrom 114 = .ok (.getfield 28, 3) := by decide +kernel
theorem dX12_ordersFrom_117 : decode cX12_ordersFrom 117 = .ok (.iconst 4, 1) := by decide +kernel
theorem dX12_ordersFrom_118 : decode cX12_ordersFrom 118 = .ok (.iload 6, 2) := by decide +kernel
theorem dX12_ordersFrom_120 : decode cX12_ordersFrom 120 = .ok (.imul, 1) := by decide +kernel
theorem dX12_ordersFrom_121 : decode cX12_ordersFrom 121 = .ok (.iload 7, 2) := by decide +kernel
theorem dX12_ordersFrom_123 : decode cX12_ordersFrom 123 = .ok (.iadd, 1) := by decide +kernel
theorem dX12_ordersFrom_124 : decode cX12_ordersFrom 124 = .ok (.iaload, 1) := by decide +kernel
theorem dX12_ordersFrom_125 : decode cX12_ordersFrom 125 = .ok (.iadd, 1) := by decide +kernel
theorem dX12_ordersFrom_126 : decode cX12_ordersFrom 126 = .ok (.invokevirtual 266, 3) := by decide +kernel
theorem dX12_ordersFrom_129 : decode cX12_ordersFrom 129 = .ok (.iinc 6 1, 3) := by decide +kernel
theorem dX12_ordersFrom_132 : decode cX12_ordersFrom 132 = .ok (.goto (-110), 3) := by decide +kernel
theorem dX12_ordersFrom_135 : decode cX12_ordersFrom 135 = .ok (.return_, 1) := by decide +kernel
theorem dX12_inline_0 : decode cX12_inline 0 = .ok (.iload_n 1, 1) := by decide +kernel
theorem dX12_inline_1 : decode cX12_inline 1 = .ok (.iconst 0, 1) := by decide +kernel
theorem dX12_inline_2 : decode cX12_inline 2 = .ok (.iconst 1, 1) := by decide +kernel
theorem dX12_inline_3 : decode cX12_inline 3 = .ok (.invokestatic 56, 3) := by decide +kernel
theorem dX12_inline_6 : decode cX12_inline 6 = .ok (.ifCond .ne 7, 3) := by decide +kernel
theorem dX12_inline_9 : decode cX12_inline 9 = .ok (.sipush (-10001), 3) := by decide +kernel
theorem dX12_inline_12 : decode cX12_inline 12 = .ok (.ireturn, 1) := by decide +kernel
theorem dX12_inline_13 : decode cX12_inline 13 = .ok (.aload_n 0, 1) := by decide +kernel
theorem dX12_inline_14 : decode cX12_inline 14 = .ok (.invokevirtual 243, 3) := by decide +kernel
theorem dX12_inline_17 : decode cX12_inline 17 = .ok (.iconst 0, 1) := by decide +kernel
theorem dX12_inline_18 : decode cX12_inline 18 = .ok (.istore_n 2, 1) := by decide +kernel
theorem dX12_inline_19 : decode cX12_inline 19 = .ok (.iconst 0, 1) := by decide +kernel
theorem dX12_inline_20 : decode cX12_inline 20 = .ok (.istore_n 3, 1) := by decide +kernel
theorem dX12_inline_21 : decode cX12_inline 21 = .ok (.iconst 0, 1) := by decide +kernel
theorem dX12_inline_22 : decode cX12_inline 22 = .ok (.istore 4, 2) := by decide +kernel
theorem dX12_inline_24 : decode cX12_inline 24 = .ok (.iconst 0, 1) := by decide +kernel
theorem dX12_inline_25 : decode cX12_inline 25 = .ok (.istore 5, 2) := by decide +kernel
theorem dX12_inline_27 : decode cX12_inline 27 = .ok (.iload 5, 2) := by decide +kernel
theorem dX12_inline_29 : decode cX12_inline 29 = .ok (.aload_n 0, 1) := by decide +kernel
theorem dX12_inline_30 : decode cX12_inline 30 = .ok (.getfield 9, 3) := by decide +kernel
theorem dX12_inline_33 : decode cX12_inline 33 = .ok (.iconst 0, 1) := by decide +kernel
theorem dX12_inline_34 : decode cX12_inline 34 = .ok (.iaload, 1) := by decide +kernel
theorem dX12_inline_35 : decode cX12_inline 35 = .ok (.if_icmp .ge 56, 3) := by decide +kernel
theorem dX12_inline_38 : decode cX12_inline 38 = .ok (.aload_n 0, 1) := by decide +kernel
theorem dX12_inline_39 : decode cX12_inline 39 = .ok (.iload 5, 2) := by decide +kernel
theorem dX12_inline_41 : decode cX12_inline 41 = .ok (.iload_n 2, 1) := by decide +kernel
theorem dX12_inline_42 : decode cX12_inline 42 = .ok (.invokevirtual 263, 3) := by decide +kernel
theorem dX12_inline_45 : decode cX12_inline 45 = .ok (.istore 6, 2) := by decide +kernel
theorem dX12_inline_47 : decode cX12_inline 47 = .ok (.iload 6, 2) := by decide +kernel
theorem dX12_inline_49 : decode cX12_inline 49 = .ok (.iconst 4, 1) := by decide +kernel
theorem dX12_inline_50 : decode cX12_inline 50 = .ok (.if_icmp .eq 35, 3) := by decide +kernel
theorem dX12_inline_53 : decode cX12_inline 53 = .ok (.iload_n 2, 1) := by decide +kernel
theorem dX12_inline_54 : decode cX12_inline 54 = .ok (.iconst 1, 1) := by decide +kernel
theorem dX12_inline_55 : decode cX12_inline 55 = .ok (.iconst 4, 1) := by decide +kernel
theorem dX12_inline_56 : decode cX12_inline 56 = .ok (.iload 5, 2) := by decide +kernel
theorem dX12_inline_58 : decode cX12_inline 58 = .ok (.imul, 1) := by decide +kernel
theorem dX12_inline_59 : decode cX12_inline 59 = .ok (.iload 6, 2) := by decide +kernel
theorem dX12_inline_61 : decode cX12_inline 61 = .ok (.iadd, 1) := by decide +kernel
theorem dX12_inline_62 : decode cX12_inline 62 = .ok (.ishl, 1) := by decide +kernel
theorem dX12_inline_63 : decode cX12_inline 63 = .ok (.ior, 1) := by decide +kernel
theorem dX12_inline_64 : decode cX12_inline 64 = .ok (.istore_n 2, 1) := by decide +kernel
theorem dX12_inline_65 : decode cX12_inline 65 = .ok (.iinc 3 1, 3) := by decide +kernel
theorem dX12_inline_68 : decode cX12_inline 68 = .ok (.iload 4, 2) := by decide +kernel
theorem dX12_inline_70 : decode cX12_inline 70 = .ok (.aload_n 0, 1) := by decide +kernel
theorem dX12_inline_71 : decode cX12_inline 71 = .ok (.getfield 28, 3) := by decide +kernel
theorem dX12_inline_74 : decode cX12_inline 74 = .ok (.iconst 4, 1) := by decide +kernel
theorem dX12_inline_75 : decode cX12_inline 75 = .ok (.iload 5, 2) := by decide +kernel
theorem dX12_inline_77 : decode cX12_inline 77 = .ok (.imul, 1) := by decide +kernel
theorem dX12_inline_78 : decode cX12_inline 78 = .ok (.iload 6, 2) := by decide +kernel
theorem dX12_inline_80 : decode cX12_inline 80 = .ok (.iadd, 1) := by decide +kernel
theorem dX12_inline_81 : decode cX12_inline 81 = .ok (.iaload, 1) := by decide +kernel
theorem dX12_inline_82 : decode cX12_inline 82 = .ok (.iadd, 1) := by decide +kernel
theorem dX12_inline_83 : decode cX12_inline 83 = .ok (.istore 4, 2) := by decide +kernel
theorem dX12_inline_85 : decode cX12_inline 85 = .ok (.iinc 5 1, 3) := by decide +kernel
theorem dX12_inline_88 : decode cX12_inline 88 = .ok (.goto (-61), 3) := by decide +kernel
theorem dX12_inline_91 : decode cX12_inline 91 = .ok (.iload_n 1, 1) := by decide +kernel
theorem dX12_inline_92 : decode cX12_inline 92 = .ok (.ifCond .ne 7, 3) := by decide +kernel
theorem dX12_inline_95 : decode cX12_inline 95 = .ok (.iload_n 3, 1) := by decide +kernel
theorem dX12_inline_96 : decode cX12_inline 96 = .ok (.goto 5, 3) := by decide +kernel
theorem dX12_inline_99 : decode cX12_inline 99 = .ok (.iload 4, 2) := by decide +kernel
theorem dX12_inline_101 : decode cX12_inline 101 = .ok (.ireturn, 1) := by decide +kernel
theorem dX12_order_0 : decode cX12_order 0 = .ok (.iload_n 1, 1) := by decide +kernel
theorem dX12_order_1 : decode cX12_order 1 = .ok (.bipush (-2), 2) := by decide +kernel
theorem dX12_order_3 : decode cX12_order 3 = .ok (.bipush 6, 2) := by decide +kernel
theorem dX12_order_5 : decode cX12_order 5 = .ok (.invokestatic 56, 3) := by decide +kernel
theorem dX12_order_8 : decode cX12_order 8 = .ok (.ifCond .ne 7, 3) := by decide +kernel
theorem dX12_order_11 : decode cX12_order 11 = .ok (.sipush (-10001), 3) := by decide +kernel
theorem dX12_order_14 : decode cX12_order 14 = .ok (.ireturn, 1) := by decide +kernel
theorem dX12_order_15 : decode cX12_order 15 = .ok (.aload_n 0, 1) := by decide +kernel
theorem dX12_order_16 : decode cX12_order 16 = .ok (.invokevirtual 243, 3) := by decide +kernel
theorem dX12_order_19 : decode cX12_order 19 = .ok (.aload_n 0, 1) := by decide +kernel
theorem dX12_order_20 : decode cX12_order 20 = .ok (.iconst (-1), 1) := by decide +kernel
theorem dX12_order_21 : decode cX12_order 21 = .ok (.putfield 229, 3) := by decide +kernel
theorem dX12_order_24 : decode cX12_order 24 = .ok (.aload_n 0, 1) := by decide +kernel
theorem dX12_order_25 : decode cX12_order 25 = .ok (.ldc 246, 2) := by decide +kernel
theorem dX12_order_27 : decode cX12_order 27 = .ok (.putfield 232, 3) := by decide +kernel
theorem dX12_order_30 : decode cX12_order 30 = .ok (.aload_n 0, 1) := by decide +kernel
theorem dX12_order_31 : decode cX12_order 31 = .ok (.iconst 0, 1) := by decide +kernel
theorem dX12_order_32 : decode cX12_order 32 = .ok (.iconst 0, 1) := by decide +kernel
theorem dX12_order_33 : decode cX12_order 33 = .ok (.iconst 0, 1) := by decide +kernel
theorem dX12_order_34 : decode cX12_order 34 = .ok (.iconst 0, 1) := by decide +kernel
theorem dX12_order_35 : decode cX12_order 35 = .ok (.iconst 0, 1) := by decide +kernel
theorem dX12_order_36 : decode cX12_order 36 = .ok (.invokevirtual 266, 3) := by decide +kernel
theorem dX12_order_39 : decode cX12_order 39 = .ok (.iload_n 1, 1) := by decide +kernel
theorem dX12_order_40 : decode cX12_order 40 = .ok (.bipush (-2), 2) := by decide +kernel
theorem dX12_order_42 : decode cX12_order 42 = .ok (.if_icmp .ne 10, 3) := by decide +kernel
theorem dX12_order_45 : decode cX12_order 45 = .ok (.aload_n 0, 1) := by decide +kernel
theorem dX12_order_46 : decode cX12_order 46 = .ok (.getfield 229, 3) := by decide +kernel
theorem dX12_order_49 : decode cX12_order 49 = .ok (.goto 36, 3) := by decide +kernel
theorem dX12_order_52 : decode cX12_order 52 = .ok (.iload_n 1, 1) := by decide +kernel
theorem dX12_order_53 : decode cX12_order 53 = .ok (.iconst (-1), 1) := by decide +kernel
theorem dX12_order_54 : decode cX12_order 54 = .ok (.if_icmp .ne 10, 3) := by decide +kernel
theorem dX12_order_57 : decode cX12_order 57 = .ok (.aload_n 0, 1) := by decide +kernel
theorem dX12_order_58 : decode cX12_order 58 = .ok (.getfield 232, 3) := by decide +kernel
theorem dX12_order_61 : decode cX12_order 61 = .ok (.goto 24, 3) := by decide +kernel
theorem dX12_order_64 : decode cX12_order 64 = .ok (.iload_n 1, 1) := by decide +kernel
theorem dX12_order_65 : decode cX12_order 65 = .ok (.aload_n 0, 1) := by decide +kernel
theorem dX12_order_66 : decode cX12_order 66 = .ok (.getfield 9, 3) := by decide +kernel
theorem dX12_order_69 : decode cX12_order 69 = .ok (.iconst 0, 1) := by decide +kernel
theorem dX12_order_70 : decode cX12_order 70 = .ok (.iaload, 1) := by decide +kernel
theorem dX12_order_71 : decode cX12_order 71 = .ok (.if_icmp .ge 12, 3) := by decide +kernel
theorem dX12_order_74 : decode cX12_order 74 = .ok (.aload_n 0, 1) := by decide +kernel
theorem dX12_order_75 : decode cX12_order 75 = .ok (.getfield 43, 3) := by decide +kernel
theorem dX12_order_78 : decode cX12_order 78 = .ok (.iload_n 1, 1) := by decide +kernel
theorem dX12_order_79 : decode cX12_order 79 = .ok (.iaload, 1) := by decide +kernel
theorem dX12_order_80 : decode cX12_order 80 = .ok (.goto 5, 3) := by decide +kernel
theorem dX12_order_83 : decode cX12_order 83 = .ok (.bipush (-5), 2) := by decide +kernel
theorem dX12_order_85 : decode cX12_order 85 = .ok (.ireturn, 1) := by decide +kernel
theorem dX12_far_0 : decode cX12_far 0 = .ok (.aload_n 0, 1) := by decide +kernel
theorem dX12_far_1 : decode cX12_far 1 = .ok (.iload_n 1, 1) := by decide +kernel
theorem dX12_far_2 : decode cX12_far 2 = .ok (.invokevirtual 189, 3) := by decide +kernel
theorem dX12_far_5 : decode cX12_far 5 = .ok (.ifCond .ne 5, 3) := by decide +kernel
theorem dX12_far_8 : decode cX12_far 8 = .ok (.iconst (-1), 1) := by decide +kernel
theorem dX12_far_9 : decode cX12_far 9 = .ok (.ireturn, 1) := by decide +kernel
theorem dX12_far_10 : decode cX12_far 10 = .ok (.aload_n 0, 1) := by decide +kernel
theorem dX12_far_11 : decode cX12_far 11 = .ok (.getfield 9, 3) := by decide +kernel
theorem dX12_far_14 : decode cX12_far 14 = .ok (.bipush 42, 2) := by decide +kernel
theorem dX12_far_16 : decode cX12_far 16 = .ok (.iload_n 1, 1) := by decide +kernel
theorem dX12_far_17 : decode cX12_far 17 = .ok (.iadd, 1) := by decide +kernel
theorem dX12_far_18 : decode cX12_far 18 = .ok (.iaload, 1) := by decide +kernel
theorem dX12_far_19 : decode cX12_far 19 = .ok (.iconst 4, 1) := by decide +kernel
theorem dX12_far_20 : decode cX12_far 20 = .ok (.if_icmp .ne 8, 3) := by decide +kernel
theorem dX12_far_23 : decode cX12_far 23 = .ok (.bipush (-5), 2) := by decide +kernel
theorem dX12_far_25 : decode cX12_far 25 = .ok (.goto 9, 3) := by decide +kernel
theorem dX12_far_28 : decode cX12_far 28 = .ok (.aload_n 0, 1) := by decide +kernel
theorem dX12_far_29 : decode cX12_far 29 = .ok (.iload_n 1, 1) := by decide +kernel
theorem dX12_far_30 : decode cX12_far 30 = .ok (.iload_n 1, 1) := by decide +kernel
theorem dX12_far_31 : decode cX12_far 31 = .ok (.invokevirtual 205, 3) := by decide +kernel
theorem dX12_far_34 : decode cX12_far 34 = .ok (.ireturn, 1) := by decide +kernel
theorem dX12_see_0 : decode cX12_see 0 = .ok (.iload_n 1, 1) := by decide +kernel
theorem dX12_see_1 : decode cX12_see 1 = .ok (.iconst (-1), 1) := by decide +kernel
theorem dX12_see_2 : decode cX12_see 2 = .ok (.if_icmp .ne 12, 3) := by decide +kernel
theorem dX12_see_5 : decode cX12_see 5 = .ok (.aload_n 0, 1) := by decide +kernel
theorem dX12_see_6 : decode cX12_see 6 = .ok (.getfield 9, 3) := by decide +kernel
theorem dX12_see_9 : decode cX12_see 9 = .ok (.iconst 2, 1) := by decide +kernel
theorem dX12_see_10 : decode cX12_see 10 = .ok (.iconst 0, 1) := by decide +kernel
theorem dX12_see_11 : decode cX12_see 11 = .ok (.iastore, 1) := by decide +kernel
theorem dX12_see_12 : decode cX12_see 12 = .ok (.iconst 0, 1) := by decide +kernel
theorem dX12_see_13 : decode cX12_see 13 = .ok (.ireturn, 1) := by decide +kernel
theorem dX12_see_14 : decode cX12_see 14 = .ok (.iload_n 1, 1) := by decide +kernel
theorem dX12_see_15 : decode cX12_see 15 = .ok (.iconst 0, 1) := by decide +kernel
theorem dX12_see_16 : decode cX12_see 16 = .ok (.bipush 29, 2) := by decide +kernel
theorem dX12_see_18 : decode cX12_see 18 = .ok (.invokestatic 56, 3) := by decide +kernel
theorem dX12_see_21 : decode cX12_see 21 = .ok (.ifCond .eq 13, 3) := by decide +kernel
theorem dX12_see_24 : decode cX12_see 24 = .ok (.iload_n 2, 1) := by decide +kernel
theorem dX12_see_25 : decode cX12_see 25 = .ok (.iconst 0, 1) := by decide +kernel
theorem dX12_see_26 : decode cX12_see 26 = .ok (.bipush 11, 2) := by decide +kernel
theorem dX12_see_28 : decode cX12_see 28 = .ok (.invokestatic 56, 3) := by decide +kernel
theorem dX12_see_31 : decode cX12_see 31 = .ok (.ifCond .ne 5, 3) := by decide +kernel
theorem dX12_see_34 : decode cX12_see 34 = .ok (.iconst (-1), 1) := by decide +kernel
theorem dX12_see_35 : decode cX12_see 35 = .ok (.ireturn, 1) := by decide +kernel
theorem dX12_see_36 : decode cX12_see 36 = .ok (.aload_n 0, 1) := by decide +kernel
theorem dX12_see_37 : decode cX12_see 37 = .ok (.getfield 9, 3) := by decide +kernel
theorem dX12_see_40 : decode cX12_see 40 = .ok (.iconst 2, 1) := by decide +kernel
theorem dX12_see_41 : decode cX12_see 41 = .ok (.iaload, 1) := by decide +kernel
theorem dX12_see_42 : decode cX12_see 42 = .ok (.iconst 5, 1) := by decide +kernel
theorem dX12_see_43 : decode cX12_see 43 = .ok (.if_icmp .ne 6, 3) := by decide +kernel
theorem dX12_see_46 : decode cX12_see 46 = .ok (.bipush (-4), 2) := by decide +kernel
theorem dX12_see_48 : decode cX12_see 48 = .ok (.ireturn, 1) := by decide +kernel
theorem dX12_see_49 : decode cX12_see 49 = .ok (.aload_n 0, 1) := by decide +kernel
theorem dX12_see_50 : decode cX12_see 50 = .ok (.getfield 9, 3) := by decide +kernel
theorem dX12_see_53 : decode cX12_see 53 = .ok (.bipush 77, 2) := by decide +kernel
theorem dX12_see_55 : decode cX12_see 55 = .ok (.aload_n 0, 1) := by decide +kernel
theorem dX12_see_56 : decode cX12_see 56 = .ok (.getfield 9, 3) := by decide +kernel
theorem dX12_see_59 : decode cX12_see 59 = .ok (.iconst 2, 1) := by decide +kernel
theorem dX12_see_60 : decode cX12_see 60 = .ok (.iaload, 1) := by decide +kernel
theorem dX12_see_61 : decode cX12_see 61 = .ok (.iadd, 1) := by decide +kernel
theorem dX12_see_62 : decode cX12_see 62 = .ok (.iload_n 1, 1) := by decide +kernel
theorem dX12_see_63 : decode cX12_see 63 = .ok (.iastore, 1) := by decide +kernel
theorem dX12_see_64 : decode cX12_see 64 = .ok (.aload_n 0, 1) := by decide +kernel
theorem dX12_see_65 : decode cX12_see 65 = .ok (.getfield 9, 3) := by decide +kernel
theorem dX12_see_68 : decode cX12_see 68 = .ok (.bipush 82, 2) := by decide +kernel
theorem dX12_see_70 : decode cX12_see 70 = .ok (.aload_n 0, 1) := by decide +kernel
theorem dX12_see_71 : decode cX12_see 71 = .ok (.getfield 9, 3) := by decide +kernel
theorem dX12_see_74 : decode cX12_see 74 = .ok (.iconst 2, 1) := by decide +kernel
theorem dX12_see_75 : decode cX12_see 75 = .ok (.iaload, 1) := by decide +kernel
theorem dX12_see_76 : decode cX12_see 76 = .ok (.iadd, 1) := by decide +kernel
theorem dX12_see_77 : decode cX12_see 77 = .ok (.iload_n 2, 1) := by decide +kernel
theorem dX12_see_78 : decode cX12_see 78 = .ok (.iastore, 1) := by decide +kernel
theorem dX12_see_79 : decode cX12_see 79 = .ok (.aload_n 0, 1) := by decide +kernel
theorem dX12_see_80 : decode cX12_see 80 = .ok (.getfield 9, 3) := by decide +kernel
theorem dX12_see_83 : decode cX12_see 83 = .ok (.bipush 87, 2) := by decide +kernel
theorem dX12_see_85 : decode cX12_see 85 = .ok (.aload_n 0, 1) := by decide +kernel
theorem dX12_see_86 : decode cX12_see 86 = .ok (.getfield 9, 3) := by decide +kernel
theorem dX12_see_89 : decode cX12_see 89 = .ok (.iconst 2, 1) := by decide +kernel
theorem dX12_see_90 : decode cX12_see 90 = .ok (.iaload, 1) := by decide +kernel
theorem dX12_see_91 : decode cX12_see 91 = .ok (.iadd, 1) := by decide +kernel
theorem dX12_see_92 : decode cX12_see 92 = .ok (.iload_n 3, 1) := by decide +kernel
theorem dX12_see_93 : decode cX12_see 93 = .ok (.ifCond .eq 7, 3) := by decide +kernel
theorem dX12_see_96 : decode cX12_see 96 = .ok (.iconst 1, 1) := by decide +kernel
theorem dX12_see_97 : decode cX12_see 97 = .ok (.goto 4, 3) := by decide +kernel
theorem dX12_see_100 : decode cX12_see 100 = .ok (.iconst 0, 1) := by decide +kernel
theorem dX12_see_101 : decode cX12_see 101 = .ok (.iastore, 1) := by decide +kernel
theorem dX12_see_102 : decode cX12_see 102 = .ok (.aload_n 0, 1) := by decide +kernel
theorem dX12_see_103 : decode cX12_see 103 = .ok (.getfield 9, 3) := by decide +kernel
theorem dX12_see_106 : decode cX12_see 106 = .ok (.iconst 2, 1) := by decide +kernel
theorem dX12_see_107 : decode cX12_see 107 = .ok (.dup2, 1) := by decide +kernel
theorem dX12_see_108 : decode cX12_see 108 = .ok (.iaload, 1) := by decide +kernel
theorem dX12_see_109 : decode cX12_see 109 = .ok (.iconst 1, 1) := by decide +kernel
theorem dX12_see_110 : decode cX12_see 110 = .ok (.iadd, 1) := by decide +kernel
theorem dX12_see_111 : decode cX12_see 111 = .ok (.iastore, 1) := by decide +kernel
theorem dX12_see_112 : decode cX12_see 112 = .ok (.aload_n 0, 1) := by decide +kernel
theorem dX12_see_113 : decode cX12_see 113 = .ok (.getfield 9, 3) := by decide +kernel
theorem dX12_see_116 : decode cX12_see 116 = .ok (.iconst 2, 1) := by decide +kernel
theorem dX12_see_117 : decode cX12_see 117 = .ok (.iaload, 1) := by decide +kernel
theorem dX12_see_118 : decode cX12_see 118 = .ok (.ireturn, 1) := by decide +kernel
theorem dX12_areAsSeen_0 : decode cX12_areAsSeen 0 = .ok (.iconst 1, 1) := by decide +kernel
theorem dX12_areAsSeen_1 : decode cX12_areAsSeen 1 = .ok (.istore_n 1, 1) := by decide +kernel
theorem dX12_areAsSeen_2 : decode cX12_areAsSeen 2 = .ok (.iconst 0, 1) := by decide +kernel
theorem dX12_areAsSeen_3 : decode cX12_areAsSeen 3 = .ok (.istore_n 2, 1) := by decide +kernel
theorem dX12_areAsSeen_4 : decode cX12_areAsSeen 4 = .ok (.iload_n 2, 1) := by decide +kernel
theorem dX12_areAsSeen_5 : decode cX12_areAsSeen 5 = .ok (.aload_n 0, 1) := by decide +kernel
theorem dX12_areAsSeen_6 : decode cX12_areAsSeen 6 = .ok (.getfield 9, 3) := by decide +kernel
theorem dX12_areAsSeen_9 : decode cX12_areAsSeen 9 = .ok (.iconst 2, 1) := by decide +kernel
theorem dX12_areAsSeen_10 : decode cX12_areAsSeen 10 = .ok (.iaload, 1) := by decide +kernel
theorem dX12_areAsSeen_11 : decode cX12_areAsSeen 11 = .ok (.if_icmp .ge 70, 3) := by decide +kernel
theorem dX12_areAsSeen_14 : decode cX12_areAsSeen 14 = .ok (.iload_n 1, 1) := by decide +kernel
theorem dX12_areAsSeen_15 : decode cX12_areAsSeen 15 = .ok (.ifCond .eq 66, 3) := by decide +kernel
theorem dX12_areAsSeen_18 : decode cX12_areAsSeen 18 = .ok (.aload_n 0, 1) := by decide +kernel
theorem dX12_areAsSeen_19 : decode cX12_areAsSeen 19 = .ok (.aload_n 0, 1) := by decide +kernel
theorem dX12_areAsSeen_20 : decode cX12_areAsSeen 20 = .ok (.getfield 9, 3) := by decide +kernel
theorem dX12_areAsSeen_23 : decode cX12_areAsSeen 23 = .ok (.bipush 77, 2) := by decide +kernel
theorem dX12_areAsSeen_25 : decode cX12_areAsSeen 25 = .ok (.iload_n 2, 1) := by decide +kernel
theorem dX12_areAsSeen_26 : decode cX12_areAsSeen 26 = .ok (.iadd, 1) := by decide +kernel
theorem dX12_areAsSeen_27 : decode cX12_areAsSeen 27 = .ok (.iaload, 1) := by decide +kernel
theorem dX12_areAsSeen_28 : decode cX12_areAsSeen 28 = .ok (.aload_n 0, 1) := by decide +kernel
theorem dX12_areAsSeen_29 : decode cX12_areAsSeen 29 = .ok (.getfield 9, 3) := by decide +kernel
theorem dX12_areAsSeen_32 : decode cX12_areAsSeen 32 = .ok (.bipush 82, 2) := by decide +kernel
theorem dX12_areAsSeen_34 : decode cX12_areAsSeen 34 = .ok (.iload_n 2, 1) := by decide +kernel
theorem dX12_areAsSeen_35 : decode cX12_areAsSeen 35 = .ok (.iadd, 1) := by decide +kernel
theorem dX12_areAsSeen_36 : decode cX12_areAsSeen 36 = .ok (.iaload, 1) := by decide +kernel
theorem dX12_areAsSeen_37 : decode cX12_areAsSeen 37 = .ok (.invokevirtual 270, 3) := by decide +kernel
theorem dX12_areAsSeen_40 : decode cX12_areAsSeen 40 = .ok (.ifCond .le 7, 3) := by decide +kernel
theorem dX12_areAsSeen_43 : decode cX12_areAsSeen 43 = .ok (.iconst 1, 1) := by decide +kernel
theorem dX12_areAsSeen_44 : decode cX12_areAsSeen 44 = .ok (.goto 4, 3) := by decide +kernel
theorem dX12_areAsSeen_47 : decode cX12_areAsSeen 47 = .ok (.iconst 0, 1) := by decide +kernel
theorem dX12_areAsSeen_48 : decode cX12_areAsSeen 48 = .ok (.aload_n 0, 1) := by decide +kernel
theorem dX12_areAsSeen_49 : decode cX12_areAsSeen 49 = .ok (.getfield 9, 3) := by decide +kernel
theorem dX12_areAsSeen_52 : decode cX12_areAsSeen 52 = .ok (.bipush 87, 2) := by decide +kernel
theorem dX12_areAsSeen_54 : decode cX12_areAsSeen 54 = .ok (.iload_n 2, 1) := by decide +kernel
theorem dX12_areAsSeen_55 : decode cX12_areAsSeen 55 = .ok (.iadd, 1) := by decide +kernel
theorem dX12_areAsSeen_56 : decode cX12_areAsSeen 56 = .ok (.iaload, 1) := by decide +kernel
theorem dX12_areAsSeen_57 : decode cX12_areAsSeen 57 = .ok (.iconst 1, 1) := by decide +kernel
theorem dX12_areAsSeen_58 : decode cX12_areAsSeen 58 = .ok (.if_icmp .ne 7, 3) := by decide +kernel
theorem dX12_areAsSeen_61 : decode cX12_areAsSeen 61 = .ok (.iconst 1, 1) := by decide +kernel
theorem dX12_areAsSeen_62 : decode cX12_areAsSeen 62 = .ok (.goto 4, 3) := by decide +kernel
theorem dX12_areAsSeen_65 : decode cX12_areAsSeen 65 = .ok (.iconst 0, 1) := by decide +kernel
theorem dX12_areAsSeen_66 : decode cX12_areAsSeen 66 = .ok (.if_icmp .ne 7, 3) := by decide +kernel
theorem dX12_areAsSeen_69 : decode cX12_areAsSeen 69 = .ok (.iconst 1, 1) := by decide +kernel
theorem dX12_areAsSeen_70 : decode cX12_areAsSeen 70 = .ok (.goto 4, 3) := by decide +kernel
theorem dX12_areAsSeen_73 : decode cX12_areAsSeen 73 = .ok (.iconst 0, 1) := by decide +kernel
theorem dX12_areAsSeen_74 : decode cX12_areAsSeen 74 = .ok (.istore_n 1, 1) := by decide +kernel
theorem dX12_areAsSeen_75 : decode cX12_areAsSeen 75 = .ok (.iinc 2 1, 3) := by decide +kernel
theorem dX12_areAsSeen_78 : decode cX12_areAsSeen 78 = .ok (.goto (-74), 3) := by decide +kernel
theorem dX12_areAsSeen_81 : decode cX12_areAsSeen 81 = .ok (.iload_n 1, 1) := by decide +kernel
theorem dX12_areAsSeen_82 : decode cX12_areAsSeen 82 = .ok (.ireturn, 1) := by decide +kernel
theorem dX12_can_0 : decode cX12_can 0 = .ok (.aload_n 0, 1) := by decide +kernel
theorem dX12_can_1 : decode cX12_can 1 = .ok (.iload_n 1, 1) := by decide +kernel
theorem dX12_can_2 : decode cX12_can 2 = .ok (.invokevirtual 189, 3) := by decide +kernel
theorem dX12_can_5 : decode cX12_can 5 = .ok (.ifCond .ne 5, 3) := by decide +kernel
theorem dX12_can_8 : decode cX12_can 8 = .ok (.iconst (-1), 1) := by decide +kernel
theorem dX12_can_9 : decode cX12_can 9 = .ok (.ireturn, 1) := by decide +kernel
theorem dX12_can_10 : decode cX12_can 10 = .ok (.aload_n 0, 1) := by decide +kernel
theorem dX12_can_11 : decode cX12_can 11 = .ok (.getfield 9, 3) := by decide +kernel
theorem dX12_can_14 : decode cX12_can 14 = .ok (.bipush 42, 2) := by decide +kernel
theorem dX12_can_16 : decode cX12_can 16 = .ok (.iload_n 1, 1) := by decide +kernel
theorem dX12_can_17 : decode cX12_can 17 = .ok (.iadd, 1) := by decide +kernel
theorem dX12_can_18 : decode cX12_can 18 = .ok (.iaload, 1) := by decide +kernel
theorem dX12_can_19 : decode cX12_can 19 = .ok (.istore_n 2, 1) := by decide +kernel
theorem dX12_can_20 : decode cX12_can 20 = .ok (.iconst 0, 1) := by decide +kernel
theorem dX12_can_21 : decode cX12_can 21 = .ok (.istore_n 3, 1) := by decide +kernel
theorem dX12_can_22 : decode cX12_can 22 = .ok (.iconst 0, 1) := by decide +kernel
theorem dX12_can_23 : decode cX12_can 23 = .ok (.istore 4, 2) := by decide +kernel
theorem dX12_can_25 : decode cX12_can 25 = .ok (.iload 4, 2) := by decide +kernel
theorem dX12_can_27 : decode cX12_can 27 = .ok (.iconst 4, 1) := by decide +kernel
theorem dX12_can_28 : decode cX12_can 28 = .ok (.if_icmp .gt 38, 3) := by decide +kernel
theorem dX12_can_31 : decode cX12_can 31 = .ok (.aload_n 0, 1) := by decide +kernel
theorem dX12_can_32 : decode cX12_can 32 = .ok (.getfield 9, 3) := by decide +kernel
theorem dX12_can_35 : decode cX12_can 35 = .ok (.bipush 42, 2) := by decide +kernel
theorem dX12_can_37 : decode cX12_can 37 = .ok (.iload_n 1, 1) := by decide +kernel
theorem dX12_can_38 : decode cX12_can 38 = .ok (.iadd, 1) := by decide +kernel
theorem dX12_can_39 : decode cX12_can 39 = .ok (.iload 4, 2) := by decide +kernel
theorem dX12_can_41 : decode cX12_can 41 = .ok (.iastore, 1) := by decide +kernel
theorem dX12_can_42 : decode cX12_can 42 = .ok (.iload_n 3, 1) := by decide +kernel
theorem dX12_can_43 : decode cX12_can 43 = .ok (.aload_n 0, 1) := by decide +kernel
theorem dX12_can_44 : decode cX12_can 44 = .ok (.invokevirtual 273, 3) := by decide +kernel
theorem dX12_can_47 : decode cX12_can 47 = .ok (.ifCond .eq 10, 3) := by decide +kernel
theorem dX12_can_50 : decode cX12_can 50 = .ok (.iconst 1, 1) := by decide +kernel
theorem dX12_can_51 : decode cX12_can 51 = .ok (.iload 4, 2) := by decide +kernel
theorem dX12_can_53 : decode cX12_can 53 = .ok (.ishl, 1) := by decide +kernel
theorem dX12_can_54 : decode cX12_can 54 = .ok (.goto 4, 3) := by decide +kernel
theorem dX12_can_57 : decode cX12_can 57 = .ok (.iconst 0, 1) := by decide +kernel
theorem dX12_can_58 : decode cX12_can 58 = .ok (.ior, 1) := by decide +kernel
theorem dX12_can_59 : decode cX12_can 59 = .ok (.istore_n 3, 1) := by decide +kernel
theorem dX12_can_60 : decode cX12_can 60 = .ok (.iinc 4 1, 3) := by decide +kernel
theorem dX12_can_63 : decode cX12_can 63 = .ok (.goto (-38), 3) := by decide +kernel
theorem dX12_can_66 : decode cX12_can 66 = .ok (.aload_n 0, 1) := by decide +kernel
theorem dX12_can_67 : decode cX12_can 67 = .ok (.getfield 9, 3) := by decide +kernel
theorem dX12_can_70 : decode cX12_can 70 = .ok (.bipush 42, 2) := by decide +kernel
theorem dX12_can_72 : decode cX12_can 72 = .ok (.iload_n 1, 1) := by decide +kernel
theorem dX12_can_73 : decode cX12_can 73 = .ok (.iadd, 1) := by decide +kernel
theorem dX12_can_74 : decode cX12_can 74 = .ok (.iload_n 2, 1) := by decide +kernel
theorem dX12_can_75 : decode cX12_can 75 = .ok (.iastore, 1) := by decide +kernel
theorem dX12_can_76 : decode cX12_can 76 = .ok (.iload_n 3, 1) := by decide +kernel
end
section
theorem dX12_can_77 : decode cX12_can 77 = .ok (.ireturn, 1) := by decide +kernel
theorem dX12_firm_0 : decode cX12_firm 0 = .ok (.aload_n 0, 1) := by decide +kernel
theorem dX12_firm_1 : decode cX12_firm 1 = .ok (.iload_n 1, 1) := by decide +kernel
theorem dX12_firm_2 : decode cX12_firm 2 = .ok (.invokevirtual 189, 3) := by decide +kernel
theorem dX12_firm_5 : decode cX12_firm 5 = .ok (.ifCond .eq 12, 3) := by decide +kernel
theorem dX12_firm_8 : decode cX12_firm 8 = .ok (.iload_n 2, 1) := by decide +kernel
theorem dX12_firm_9 : decode cX12_firm 9 = .ok (.iconst 0, 1) := by decide +kernel
theorem dX12_firm_10 : decode cX12_firm 10 = .ok (.iconst 1, 1) := by decide +kernel
theorem dX12_firm_11 : decode cX12_firm 11 = .ok (.invokestatic 56, 3) := by decide +kernel
theorem dX12_firm_14 : decode cX12_firm 14 = .ok (.ifCond .ne 5, 3) := by decide +kernel
theorem dX12_firm_17 : decode cX12_firm 17 = .ok (.iconst (-1), 1) := by decide +kernel
theorem dX12_firm_18 : decode cX12_firm 18 = .ok (.ireturn, 1) := by decide +kernel
theorem dX12_firm_19 : decode cX12_firm 19 = .ok (.aload_n 0, 1) := by decide +kernel
theorem dX12_firm_20 : decode cX12_firm 20 = .ok (.getfield 9, 3) := by decide +kernel
theorem dX12_firm_23 : decode cX12_firm 23 = .ok (.bipush 14, 2) := by decide +kernel
theorem dX12_firm_25 : decode cX12_firm 25 = .ok (.iload_n 1, 1) := by decide +kernel
theorem dX12_firm_26 : decode cX12_firm 26 = .ok (.iadd, 1) := by decide +kernel
theorem dX12_firm_27 : decode cX12_firm 27 = .ok (.iaload, 1) := by decide +kernel
theorem dX12_firm_28 : decode cX12_firm 28 = .ok (.istore_n 3, 1) := by decide +kernel
theorem dX12_firm_29 : decode cX12_firm 29 = .ok (.iconst 0, 1) := by decide +kernel
theorem dX12_firm_30 : decode cX12_firm 30 = .ok (.istore 4, 2) := by decide +kernel
theorem dX12_firm_32 : decode cX12_firm 32 = .ok (.bipush (-5), 2) := by decide +kernel
theorem dX12_firm_34 : decode cX12_firm 34 = .ok (.istore 5, 2) := by decide +kernel
theorem dX12_firm_36 : decode cX12_firm 36 = .ok (.bipush 9, 2) := by decide +kernel
theorem dX12_firm_38 : decode cX12_firm 38 = .ok (.istore 6, 2) := by decide +kernel
theorem dX12_firm_40 : decode cX12_firm 40 = .ok (.iload 6, 2) := by decide +kernel
theorem dX12_firm_42 : decode cX12_firm 42 = .ok (.ifCond .lt 55, 3) := by decide +kernel
theorem dX12_firm_45 : decode cX12_firm 45 = .ok (.aload_n 0, 1) := by decide +kernel
theorem dX12_firm_46 : decode cX12_firm 46 = .ok (.getfield 9, 3) := by decide +kernel
theorem dX12_firm_49 : decode cX12_firm 49 = .ok (.bipush 14, 2) := by decide +kernel
theorem dX12_firm_51 : decode cX12_firm 51 = .ok (.iload_n 1, 1) := by decide +kernel
theorem dX12_firm_52 : decode cX12_firm 52 = .ok (.iadd, 1) := by decide +kernel
theorem dX12_firm_53 : decode cX12_firm 53 = .ok (.iload 6, 2) := by decide +kernel
theorem dX12_firm_55 : decode cX12_firm 55 = .ok (.iastore, 1) := by decide +kernel
theorem dX12_firm_56 : decode cX12_firm 56 = .ok (.aload_n 0, 1) := by decide +kernel
theorem dX12_firm_57 : decode cX12_firm 57 = .ok (.invokevirtual 273, 3) := by decide +kernel
theorem dX12_firm_60 : decode cX12_firm 60 = .ok (.istore 7, 2) := by decide +kernel
theorem dX12_firm_62 : decode cX12_firm 62 = .ok (.iload 4, 2) := by decide +kernel
theorem dX12_firm_64 : decode cX12_firm 64 = .ok (.iload 7, 2) := by decide +kernel
theorem dX12_firm_66 : decode cX12_firm 66 = .ok (.ifCond .eq 7, 3) := by decide +kernel
theorem dX12_firm_69 : decode cX12_firm 69 = .ok (.iconst 1, 1) := by decide +kernel
theorem dX12_firm_70 : decode cX12_firm 70 = .ok (.goto 4, 3) := by decide +kernel
theorem dX12_firm_73 : decode cX12_firm 73 = .ok (.iconst 0, 1) := by decide +kernel
theorem dX12_firm_74 : decode cX12_firm 74 = .ok (.iadd, 1) := by decide +kernel
theorem dX12_firm_75 : decode cX12_firm 75 = .ok (.istore 4, 2) := by decide +kernel
theorem dX12_firm_77 : decode cX12_firm 77 = .ok (.iload 7, 2) := by decide +kernel
theorem dX12_firm_79 : decode cX12_firm 79 = .ok (.ifCond .eq 8, 3) := by decide +kernel
theorem dX12_firm_82 : decode cX12_firm 82 = .ok (.iload 6, 2) := by decide +kernel
theorem dX12_firm_84 : decode cX12_firm 84 = .ok (.goto 5, 3) := by decide +kernel
theorem dX12_firm_87 : decode cX12_firm 87 = .ok (.iload 5, 2) := by decide +kernel
theorem dX12_firm_89 : decode cX12_firm 89 = .ok (.istore 5, 2) := by decide +kernel
theorem dX12_firm_91 : decode cX12_firm 91 = .ok (.iinc 6 (-1), 3) := by decide +kernel
theorem dX12_firm_94 : decode cX12_firm 94 = .ok (.goto (-54), 3) := by decide +kernel
theorem dX12_firm_97 : decode cX12_firm 97 = .ok (.aload_n 0, 1) := by decide +kernel
theorem dX12_firm_98 : decode cX12_firm 98 = .ok (.getfield 9, 3) := by decide +kernel
theorem dX12_firm_101 : decode cX12_firm 101 = .ok (.bipush 14, 2) := by decide +kernel
theorem dX12_firm_103 : decode cX12_firm 103 = .ok (.iload_n 1, 1) := by decide +kernel
theorem dX12_firm_104 : decode cX12_firm 104 = .ok (.iadd, 1) := by decide +kernel
theorem dX12_firm_105 : decode cX12_firm 105 = .ok (.iload_n 3, 1) := by decide +kernel
theorem dX12_firm_106 : decode cX12_firm 106 = .ok (.iastore, 1) := by decide +kernel
theorem dX12_firm_107 : decode cX12_firm 107 = .ok (.iload_n 2, 1) := by decide +kernel
theorem dX12_firm_108 : decode cX12_firm 108 = .ok (.ifCond .ne 8, 3) := by decide +kernel
theorem dX12_firm_111 : decode cX12_firm 111 = .ok (.iload 4, 2) := by decide +kernel
theorem dX12_firm_113 : decode cX12_firm 113 = .ok (.goto 5, 3) := by decide +kernel
theorem dX12_firm_116 : decode cX12_firm 116 = .ok (.iload 5, 2) := by decide +kernel
theorem dX12_firm_118 : decode cX12_firm 118 = .ok (.ireturn, 1) := by decide +kernel
theorem dX12_lowest_0 : decode cX12_lowest 0 = .ok (.lload_n 0, 1) := by decide +kernel
theorem dX12_lowest_1 : decode cX12_lowest 1 = .ok (.lconst 0, 1) := by decide +kernel
theorem dX12_lowest_2 : decode cX12_lowest 2 = .ok (.lcmp, 1) := by decide +kernel
theorem dX12_lowest_3 : decode cX12_lowest 3 = .ok (.ifCond .ge 8, 3) := by decide +kernel
theorem dX12_lowest_6 : decode cX12_lowest 6 = .ok (.lload_n 0, 1) := by decide +kernel
theorem dX12_lowest_7 : decode cX12_lowest 7 = .ok (.lneg, 1) := by decide +kernel
theorem dX12_lowest_8 : decode cX12_lowest 8 = .ok (.goto 4, 3) := by decide +kernel
theorem dX12_lowest_11 : decode cX12_lowest 11 = .ok (.lload_n 0, 1) := by decide +kernel
theorem dX12_lowest_12 : decode cX12_lowest 12 = .ok (.lstore 5, 2) := by decide +kernel
theorem dX12_lowest_14 : decode cX12_lowest 14 = .ok (.lload_n 2, 1) := by decide +kernel
theorem dX12_lowest_15 : decode cX12_lowest 15 = .ok (.lstore 7, 2) := by decide +kernel
theorem dX12_lowest_17 : decode cX12_lowest 17 = .ok (.lload 7, 2) := by decide +kernel
theorem dX12_lowest_19 : decode cX12_lowest 19 = .ok (.lconst 0, 1) := by decide +kernel
theorem dX12_lowest_20 : decode cX12_lowest 20 = .ok (.lcmp, 1) := by decide +kernel
theorem dX12_lowest_21 : decode cX12_lowest 21 = .ok (.ifCond .eq 21, 3) := by decide +kernel
theorem dX12_lowest_24 : decode cX12_lowest 24 = .ok (.lload 5, 2) := by decide +kernel
theorem dX12_lowest_26 : decode cX12_lowest 26 = .ok (.lload 7, 2) := by decide +kernel
theorem dX12_lowest_28 : decode cX12_lowest 28 = .ok (.lrem, 1) := by decide +kernel
theorem dX12_lowest_29 : decode cX12_lowest 29 = .ok (.lstore 9, 2) := by decide +kernel
theorem dX12_lowest_31 : decode cX12_lowest 31 = .ok (.lload 7, 2) := by decide +kernel
theorem dX12_lowest_33 : decode cX12_lowest 33 = .ok (.lstore 5, 2) := by decide +kernel
theorem dX12_lowest_35 : decode cX12_lowest 35 = .ok (.lload 9, 2) := by decide +kernel
theorem dX12_lowest_37 : decode cX12_lowest 37 = .ok (.lstore 7, 2) := by decide +kernel
theorem dX12_lowest_39 : decode cX12_lowest 39 = .ok (.goto (-22), 3) := by decide +kernel
theorem dX12_lowest_42 : decode cX12_lowest 42 = .ok (.iload 4, 2) := by decide +kernel
theorem dX12_lowest_44 : decode cX12_lowest 44 = .ok (.ifCond .ne 7, 3) := by decide +kernel
theorem dX12_lowest_47 : decode cX12_lowest 47 = .ok (.lload_n 0, 1) := by decide +kernel
theorem dX12_lowest_48 : decode cX12_lowest 48 = .ok (.goto 4, 3) := by decide +kernel
theorem dX12_lowest_51 : decode cX12_lowest 51 = .ok (.lload_n 2, 1) := by decide +kernel
theorem dX12_lowest_52 : decode cX12_lowest 52 = .ok (.lload 5, 2) := by decide +kernel
theorem dX12_lowest_54 : decode cX12_lowest 54 = .ok (.ldiv, 1) := by decide +kernel
theorem dX12_lowest_55 : decode cX12_lowest 55 = .ok (.lreturn, 1) := by decide +kernel
theorem dX12_odds_0 : decode cX12_odds 0 = .ok (.aload_n 0, 1) := by decide +kernel
theorem dX12_odds_1 : decode cX12_odds 1 = .ok (.iload_n 1, 1) := by decide +kernel
theorem dX12_odds_2 : decode cX12_odds 2 = .ok (.invokevirtual 189, 3) := by decide +kernel
theorem dX12_odds_5 : decode cX12_odds 5 = .ok (.ifCond .eq 12, 3) := by decide +kernel
theorem dX12_odds_8 : decode cX12_odds 8 = .ok (.iload_n 2, 1) := by decide +kernel
theorem dX12_odds_9 : decode cX12_odds 9 = .ok (.iconst 0, 1) := by decide +kernel
theorem dX12_odds_10 : decode cX12_odds 10 = .ok (.iconst 1, 1) := by decide +kernel
theorem dX12_odds_11 : decode cX12_odds 11 = .ok (.invokestatic 56, 3) := by decide +kernel
theorem dX12_odds_14 : decode cX12_odds 14 = .ok (.ifCond .ne 7, 3) := by decide +kernel
theorem dX12_odds_17 : decode cX12_odds 17 = .ok (.ldc2_w 277, 3) := by decide +kernel
theorem dX12_odds_20 : decode cX12_odds 20 = .ok (.lreturn, 1) := by decide +kernel
theorem dX12_odds_21 : decode cX12_odds 21 = .ok (.lconst 0, 1) := by decide +kernel
theorem dX12_odds_22 : decode cX12_odds 22 = .ok (.lstore_n 3, 1) := by decide +kernel
theorem dX12_odds_23 : decode cX12_odds 23 = .ok (.lconst 0, 1) := by decide +kernel
theorem dX12_odds_24 : decode cX12_odds 24 = .ok (.lstore 5, 2) := by decide +kernel
theorem dX12_odds_26 : decode cX12_odds 26 = .ok (.iconst 0, 1) := by decide +kernel
theorem dX12_odds_27 : decode cX12_odds 27 = .ok (.istore 7, 2) := by decide +kernel
theorem dX12_odds_29 : decode cX12_odds 29 = .ok (.iload 7, 2) := by decide +kernel
theorem dX12_odds_31 : decode cX12_odds 31 = .ok (.iconst 4, 1) := by decide +kernel
theorem dX12_odds_32 : decode cX12_odds 32 = .ok (.if_icmp .ge 47, 3) := by decide +kernel
theorem dX12_odds_35 : decode cX12_odds 35 = .ok (.lload 5, 2) := by decide +kernel
theorem dX12_odds_37 : decode cX12_odds 37 = .ok (.aload_n 0, 1) := by decide +kernel
theorem dX12_odds_38 : decode cX12_odds 38 = .ok (.iload_n 1, 1) := by decide +kernel
theorem dX12_odds_39 : decode cX12_odds 39 = .ok (.iload 7, 2) := by decide +kernel
theorem dX12_odds_41 : decode cX12_odds 41 = .ok (.invokevirtual 160, 3) := by decide +kernel
theorem dX12_odds_44 : decode cX12_odds 44 = .ok (.ifCond .eq 7, 3) := by decide +kernel
theorem dX12_odds_47 : decode cX12_odds 47 = .ok (.lconst 1, 1) := by decide +kernel
theorem dX12_odds_48 : decode cX12_odds 48 = .ok (.goto 4, 3) := by decide +kernel
theorem dX12_odds_51 : decode cX12_odds 51 = .ok (.lconst 0, 1) := by decide +kernel
theorem dX12_odds_52 : decode cX12_odds 52 = .ok (.ladd, 1) := by decide +kernel
theorem dX12_odds_53 : decode cX12_odds 53 = .ok (.lstore 5, 2) := by decide +kernel
theorem dX12_odds_55 : decode cX12_odds 55 = .ok (.lload_n 3, 1) := by decide +kernel
theorem dX12_odds_56 : decode cX12_odds 56 = .ok (.aload_n 0, 1) := by decide +kernel
theorem dX12_odds_57 : decode cX12_odds 57 = .ok (.iload_n 1, 1) := by decide +kernel
theorem dX12_odds_58 : decode cX12_odds 58 = .ok (.iload 7, 2) := by decide +kernel
theorem dX12_odds_60 : decode cX12_odds 60 = .ok (.invokevirtual 186, 3) := by decide +kernel
theorem dX12_odds_63 : decode cX12_odds 63 = .ok (.ifCond .eq 7, 3) := by decide +kernel
theorem dX12_odds_66 : decode cX12_odds 66 = .ok (.lconst 1, 1) := by decide +kernel
theorem dX12_odds_67 : decode cX12_odds 67 = .ok (.goto 4, 3) := by decide +kernel
theorem dX12_odds_70 : decode cX12_odds 70 = .ok (.lconst 0, 1) := by decide +kernel
theorem dX12_odds_71 : decode cX12_odds 71 = .ok (.ladd, 1) := by decide +kernel
theorem dX12_odds_72 : decode cX12_odds 72 = .ok (.lstore_n 3, 1) := by decide +kernel
theorem dX12_odds_73 : decode cX12_odds 73 = .ok (.iinc 7 1, 3) := by decide +kernel
theorem dX12_odds_76 : decode cX12_odds 76 = .ok (.goto (-47), 3) := by decide +kernel
theorem dX12_odds_79 : decode cX12_odds 79 = .ok (.lload 5, 2) := by decide +kernel
theorem dX12_odds_81 : decode cX12_odds 81 = .ok (.lconst 0, 1) := by decide +kernel
theorem dX12_odds_82 : decode cX12_odds 82 = .ok (.lcmp, 1) := by decide +kernel
theorem dX12_odds_83 : decode cX12_odds 83 = .ok (.ifCond .ne 9, 3) := by decide +kernel
theorem dX12_odds_86 : decode cX12_odds 86 = .ok (.ldc2_w 277, 3) := by decide +kernel
theorem dX12_odds_89 : decode cX12_odds 89 = .ok (.goto 10, 3) := by decide +kernel
theorem dX12_odds_92 : decode cX12_odds 92 = .ok (.lload_n 3, 1) := by decide +kernel
theorem dX12_odds_93 : decode cX12_odds 93 = .ok (.lload 5, 2) := by decide +kernel
theorem dX12_odds_95 : decode cX12_odds 95 = .ok (.iload_n 2, 1) := by decide +kernel
theorem dX12_odds_96 : decode cX12_odds 96 = .ok (.invokestatic 279, 3) := by decide +kernel
theorem dX12_odds_99 : decode cX12_odds 99 = .ok (.lreturn, 1) := by decide +kernel
theorem dX12_mean_0 : decode cX12_mean 0 = .ok (.iload_n 1, 1) := by decide +kernel
theorem dX12_mean_1 : decode cX12_mean 1 = .ok (.iconst 0, 1) := by decide +kernel
theorem dX12_mean_2 : decode cX12_mean 2 = .ok (.iconst 1, 1) := by decide +kernel
theorem dX12_mean_3 : decode cX12_mean 3 = .ok (.invokestatic 56, 3) := by decide +kernel
theorem dX12_mean_6 : decode cX12_mean 6 = .ok (.ifCond .eq 10, 3) := by decide +kernel
theorem dX12_mean_9 : decode cX12_mean 9 = .ok (.aload_n 0, 1) := by decide +kernel
theorem dX12_mean_10 : decode cX12_mean 10 = .ok (.invokevirtual 211, 3) := by decide +kernel
theorem dX12_mean_13 : decode cX12_mean 13 = .ok (.ifCond .ne 7, 3) := by decide +kernel
theorem dX12_mean_16 : decode cX12_mean 16 = .ok (.ldc2_w 277, 3) := by decide +kernel
theorem dX12_mean_19 : decode cX12_mean 19 = .ok (.lreturn, 1) := by decide +kernel
theorem dX12_mean_20 : decode cX12_mean 20 = .ok (.aload_n 0, 1) := by decide +kernel
theorem dX12_mean_21 : decode cX12_mean 21 = .ok (.invokevirtual 214, 3) := by decide +kernel
theorem dX12_mean_24 : decode cX12_mean 24 = .ok (.i2l, 1) := by decide +kernel
theorem dX12_mean_25 : decode cX12_mean 25 = .ok (.aload_n 0, 1) := by decide +kernel
theorem dX12_mean_26 : decode cX12_mean 26 = .ok (.invokevirtual 211, 3) := by decide +kernel
theorem dX12_mean_29 : decode cX12_mean 29 = .ok (.i2l, 1) := by decide +kernel
theorem dX12_mean_30 : decode cX12_mean 30 = .ok (.iload_n 1, 1) := by decide +kernel
theorem dX12_mean_31 : decode cX12_mean 31 = .ok (.invokestatic 279, 3) := by decide +kernel
theorem dX12_mean_34 : decode cX12_mean 34 = .ok (.lreturn, 1) := by decide +kernel
theorem dX12_plan_0 : decode cX12_plan 0 = .ok (.iload_n 1, 1) := by decide +kernel
theorem dX12_plan_1 : decode cX12_plan 1 = .ok (.iconst (-1), 1) := by decide +kernel
theorem dX12_plan_2 : decode cX12_plan 2 = .ok (.if_icmp .ne 12, 3) := by decide +kernel
theorem dX12_plan_5 : decode cX12_plan 5 = .ok (.aload_n 0, 1) := by decide +kernel
theorem dX12_plan_6 : decode cX12_plan 6 = .ok (.getfield 9, 3) := by decide +kernel
theorem dX12_plan_9 : decode cX12_plan 9 = .ok (.iconst 3, 1) := by decide +kernel
theorem dX12_plan_10 : decode cX12_plan 10 = .ok (.iconst 0, 1) := by decide +kernel
theorem dX12_plan_11 : decode cX12_plan 11 = .ok (.iastore, 1) := by decide +kernel
theorem dX12_plan_12 : decode cX12_plan 12 = .ok (.iconst 0, 1) := by decide +kernel
theorem dX12_plan_13 : decode cX12_plan 13 = .ok (.ireturn, 1) := by decide +kernel
theorem dX12_plan_14 : decode cX12_plan 14 = .ok (.aload_n 0, 1) := by decide +kernel
theorem dX12_plan_15 : decode cX12_plan 15 = .ok (.iload_n 1, 1) := by decide +kernel
theorem dX12_plan_16 : decode cX12_plan 16 = .ok (.invokevirtual 189, 3) := by decide +kernel
theorem dX12_plan_19 : decode cX12_plan 19 = .ok (.ifCond .eq 12, 3) := by decide +kernel
theorem dX12_plan_22 : decode cX12_plan 22 = .ok (.iload_n 2, 1) := by decide +kernel
theorem dX12_plan_23 : decode cX12_plan 23 = .ok (.iconst 0, 1) := by decide +kernel
theorem dX12_plan_24 : decode cX12_plan 24 = .ok (.iconst 4, 1) := by decide +kernel
theorem dX12_plan_25 : decode cX12_plan 25 = .ok (.invokestatic 56, 3) := by decide +kernel
theorem dX12_plan_28 : decode cX12_plan 28 = .ok (.ifCond .ne 5, 3) := by decide +kernel
theorem dX12_plan_31 : decode cX12_plan 31 = .ok (.iconst (-1), 1) := by decide +kernel
theorem dX12_plan_32 : decode cX12_plan 32 = .ok (.ireturn, 1) := by decide +kernel
theorem dX12_plan_33 : decode cX12_plan 33 = .ok (.aload_n 0, 1) := by decide +kernel
theorem dX12_plan_34 : decode cX12_plan 34 = .ok (.getfield 9, 3) := by decide +kernel
theorem dX12_plan_37 : decode cX12_plan 37 = .ok (.iconst 3, 1) := by decide +kernel
theorem dX12_plan_38 : decode cX12_plan 38 = .ok (.iaload, 1) := by decide +kernel
theorem dX12_plan_39 : decode cX12_plan 39 = .ok (.bipush 8, 2) := by decide +kernel
theorem dX12_plan_41 : decode cX12_plan 41 = .ok (.if_icmp .ne 6, 3) := by decide +kernel
theorem dX12_plan_44 : decode cX12_plan 44 = .ok (.bipush (-4), 2) := by decide +kernel
theorem dX12_plan_46 : decode cX12_plan 46 = .ok (.ireturn, 1) := by decide +kernel
theorem dX12_plan_47 : decode cX12_plan 47 = .ok (.aload_n 0, 1) := by decide +kernel
theorem dX12_plan_48 : decode cX12_plan 48 = .ok (.getfield 9, 3) := by decide +kernel
theorem dX12_plan_51 : decode cX12_plan 51 = .ok (.bipush 92, 2) := by decide +kernel
theorem dX12_plan_53 : decode cX12_plan 53 = .ok (.aload_n 0, 1) := by decide +kernel
theorem dX12_plan_54 : decode cX12_plan 54 = .ok (.getfield 9, 3) := by decide +kernel
theorem dX12_plan_57 : decode cX12_plan 57 = .ok (.iconst 3, 1) := by decide +kernel
theorem dX12_plan_58 : decode cX12_plan 58 = .ok (.iaload, 1) := by decide +kernel
theorem dX12_plan_59 : decode cX12_plan 59 = .ok (.iadd, 1) := by decide +kernel
theorem dX12_plan_60 : decode cX12_plan 60 = .ok (.iload_n 1, 1) := by decide +kernel
theorem dX12_plan_61 : decode cX12_plan 61 = .ok (.iastore, 1) := by decide +kernel
theorem dX12_plan_62 : decode cX12_plan 62 = .ok (.aload_n 0, 1) := by decide +kernel
theorem dX12_plan_63 : decode cX12_plan 63 = .ok (.getfield 9, 3) := by decide +kernel
theorem dX12_plan_66 : decode cX12_plan 66 = .ok (.bipush 100, 2) := by decide +kernel
theorem dX12_plan_68 : decode cX12_plan 68 = .ok (.aload_n 0, 1) := by decide +kernel
theorem dX12_plan_69 : decode cX12_plan 69 = .ok (.getfield 9, 3) := by decide +kernel
theorem dX12_plan_72 : decode cX12_plan 72 = .ok (.iconst 3, 1) := by decide +kernel
theorem dX12_plan_73 : decode cX12_plan 73 = .ok (.iaload, 1) := by decide +kernel
theorem dX12_plan_74 : decode cX12_plan 74 = .ok (.iadd, 1) := by decide +kernel
theorem dX12_plan_75 : decode cX12_plan 75 = .ok (.iload_n 2, 1) := by decide +kernel
theorem dX12_plan_76 : decode cX12_plan 76 = .ok (.iastore, 1) := by decide +kernel
theorem dX12_plan_77 : decode cX12_plan 77 = .ok (.aload_n 0, 1) := by decide +kernel
theorem dX12_plan_78 : decode cX12_plan 78 = .ok (.getfield 9, 3) := by decide +kernel
theorem dX12_plan_81 : decode cX12_plan 81 = .ok (.iconst 3, 1) := by decide +kernel
theorem dX12_plan_82 : decode cX12_plan 82 = .ok (.dup2, 1) := by decide +kernel
theorem dX12_plan_83 : decode cX12_plan 83 = .ok (.iaload, 1) := by decide +kernel
theorem dX12_plan_84 : decode cX12_plan 84 = .ok (.iconst 1, 1) := by decide +kernel
theorem dX12_plan_85 : decode cX12_plan 85 = .ok (.iadd, 1) := by decide +kernel
theorem dX12_plan_86 : decode cX12_plan 86 = .ok (.iastore, 1) := by decide +kernel
theorem dX12_plan_87 : decode cX12_plan 87 = .ok (.aload_n 0, 1) := by decide +kernel
theorem dX12_plan_88 : decode cX12_plan 88 = .ok (.getfield 9, 3) := by decide +kernel
theorem dX12_plan_91 : decode cX12_plan 91 = .ok (.iconst 3, 1) := by decide +kernel
theorem dX12_plan_92 : decode cX12_plan 92 = .ok (.iaload, 1) := by decide +kernel
theorem dX12_plan_93 : decode cX12_plan 93 = .ok (.ireturn, 1) := by decide +kernel
theorem dX12_done_0 : decode cX12_done 0 = .ok (.iload_n 1, 1) := by decide +kernel
theorem dX12_done_1 : decode cX12_done 1 = .ok (.iconst 0, 1) := by decide +kernel
theorem dX12_done_2 : decode cX12_done 2 = .ok (.iconst 1, 1) := by decide +kernel
theorem dX12_done_3 : decode cX12_done 3 = .ok (.invokestatic 56, 3) := by decide +kernel
theorem dX12_done_6 : decode cX12_done 6 = .ok (.ifCond .ne 7, 3) := by decide +kernel
theorem dX12_done_9 : decode cX12_done 9 = .ok (.sipush (-10001), 3) := by decide +kernel
theorem dX12_done_12 : decode cX12_done 12 = .ok (.ireturn, 1) := by decide +kernel
theorem dX12_done_13 : decode cX12_done 13 = .ok (.iconst 0, 1) := by decide +kernel
theorem dX12_done_14 : decode cX12_done 14 = .ok (.istore_n 2, 1) := by decide +kernel
theorem dX12_done_15 : decode cX12_done 15 = .ok (.iload_n 2, 1) := by decide +kernel
theorem dX12_done_16 : decode cX12_done 16 = .ok (.bipush 7, 2) := by decide +kernel
theorem dX12_done_18 : decode cX12_done 18 = .ok (.if_icmp .ge 24, 3) := by decide +kernel
theorem dX12_done_21 : decode cX12_done 21 = .ok (.aload_n 0, 1) := by decide +kernel
theorem dX12_done_22 : decode cX12_done 22 = .ok (.getfield 46, 3) := by decide +kernel
theorem dX12_done_25 : decode cX12_done 25 = .ok (.iload_n 2, 1) := by decide +kernel
theorem dX12_done_26 : decode cX12_done 26 = .ok (.aload_n 0, 1) := by decide +kernel
theorem dX12_done_27 : decode cX12_done 27 = .ok (.getfield 9, 3) := by decide +kernel
theorem dX12_done_30 : decode cX12_done 30 = .ok (.bipush 42, 2) := by decide +kernel
theorem dX12_done_32 : decode cX12_done 32 = .ok (.iload_n 2, 1) := by decide +kernel
theorem dX12_done_33 : decode cX12_done 33 = .ok (.iadd, 1) := by decide +kernel
theorem dX12_done_34 : decode cX12_done 34 = .ok (.iaload, 1) := by decide +kernel
theorem dX12_done_35 : decode cX12_done 35 = .ok (.iastore, 1) := by decide +kernel
theorem dX12_done_36 : decode cX12_done 36 = .ok (.iinc 2 1, 3) := by decide +kernel
theorem dX12_done_39 : decode cX12_done 39 = .ok (.goto (-24), 3) := by decide +kernel
theorem dX12_done_42 : decode cX12_done 42 = .ok (.iconst 0, 1) := by decide +kernel
theorem dX12_done_43 : decode cX12_done 43 = .ok (.istore_n 2, 1) := by decide +kernel
theorem dX12_done_44 : decode cX12_done 44 = .ok (.iload_n 2, 1) := by decide +kernel
theorem dX12_done_45 : decode cX12_done 45 = .ok (.aload_n 0, 1) := by decide +kernel
theorem dX12_done_46 : decode cX12_done 46 = .ok (.getfield 9, 3) := by decide +kernel
theorem dX12_done_49 : decode cX12_done 49 = .ok (.iconst 3, 1) := by decide +kernel
theorem dX12_done_50 : decode cX12_done 50 = .ok (.iaload, 1) := by decide +kernel
theorem dX12_done_51 : decode cX12_done 51 = .ok (.if_icmp .ge 69, 3) := by decide +kernel
theorem dX12_done_54 : decode cX12_done 54 = .ok (.aload_n 0, 1) := by decide +kernel
theorem dX12_done_55 : decode cX12_done 55 = .ok (.getfield 9, 3) := by decide +kernel
theorem dX12_done_58 : decode cX12_done 58 = .ok (.bipush 92, 2) := by decide +kernel
theorem dX12_done_60 : decode cX12_done 60 = .ok (.iload_n 2, 1) := by decide +kernel
theorem dX12_done_61 : decode cX12_done 61 = .ok (.iadd, 1) := by decide +kernel
theorem dX12_done_62 : decode cX12_done 62 = .ok (.iaload, 1) := by decide +kernel
theorem dX12_done_63 : decode cX12_done 63 = .ok (.istore_n 3, 1) := by decide +kernel
theorem dX12_done_64 : decode cX12_done 64 = .ok (.aload_n 0, 1) := by decide +kernel
theorem dX12_done_65 : decode cX12_done 65 = .ok (.getfield 9, 3) := by decide +kernel
theorem dX12_done_68 : decode cX12_done 68 = .ok (.bipush 100, 2) := by decide +kernel
theorem dX12_done_70 : decode cX12_done 70 = .ok (.iload_n 2, 1) := by decide +kernel
theorem dX12_done_71 : decode cX12_done 71 = .ok (.iadd, 1) := by decide +kernel
theorem dX12_done_72 : decode cX12_done 72 = .ok (.iaload, 1) := by decide +kernel
theorem dX12_done_73 : decode cX12_done 73 = .ok (.istore 4, 2) := by decide +kernel
theorem dX12_done_75 : decode cX12_done 75 = .ok (.aload_n 0, 1) := by decide +kernel
theorem dX12_done_76 : decode cX12_done 76 = .ok (.getfield 9, 3) := by decide +kernel
theorem dX12_done_79 : decode cX12_done 79 = .ok (.bipush 42, 2) := by decide +kernel
theorem dX12_done_81 : decode cX12_done 81 = .ok (.iload_n 3, 1) := by decide +kernel
theorem dX12_done_82 : decode cX12_done 82 = .ok (.iadd, 1) := by decide +kernel
theorem dX12_done_83 : decode cX12_done 83 = .ok (.iload 4, 2) := by decide +kernel
theorem dX12_done_85 : decode cX12_done 85 = .ok (.iconst 4, 1) := by decide +kernel
theorem dX12_done_86 : decode cX12_done 86 = .ok (.if_icmp .eq 13, 3) := by decide +kernel
theorem dX12_done_89 : decode cX12_done 89 = .ok (.aload_n 0, 1) := by decide +kernel
theorem dX12_done_90 : decode cX12_done 90 = .ok (.iload_n 3, 1) := by decide +kernel
theorem dX12_done_91 : decode cX12_done 91 = .ok (.iload 4, 2) := by decide +kernel
theorem dX12_done_93 : decode cX12_done 93 = .ok (.invokevirtual 186, 3) := by decide +kernel
theorem dX12_done_96 : decode cX12_done 96 = .ok (.ifCond .eq 8, 3) := by decide +kernel
theorem dX12_done_99 : decode cX12_done 99 = .ok (.iload 4, 2) := by decide +kernel
theorem dX12_done_101 : decode cX12_done 101 = .ok (.goto 12, 3) := by decide +kernel
theorem dX12_done_104 : decode cX12_done 104 = .ok (.aload_n 0, 1) := by decide +kernel
theorem dX12_done_105 : decode cX12_done 105 = .ok (.getfield 9, 3) := by decide +kernel
theorem dX12_done_108 : decode cX12_done 108 = .ok (.bipush 42, 2) := by decide +kernel
theorem dX12_done_110 : decode cX12_done 110 = .ok (.iload_n 3, 1) := by decide +kernel
theorem dX12_done_111 : decode cX12_done 111 = .ok (.iadd, 1) := by decide +kernel
theorem dX12_done_112 : decode cX12_done 112 = .ok (.iaload, 1) := by decide +kernel
theorem dX12_done_113 : decode cX12_done 113 = .ok (.iastore, 1) := by decide +kernel
theorem dX12_done_114 : decode cX12_done 114 = .ok (.iinc 2 1, 3) := by decide +kernel
theorem dX12_done_117 : decode cX12_done 117 = .ok (.goto (-73), 3) := by decide +kernel
theorem dX12_done_120 : decode cX12_done 120 = .ok (.iload_n 1, 1) := by decide +kernel
theorem dX12_done_121 : decode cX12_done 121 = .ok (.ifCond .ne 10, 3) := by decide +kernel
theorem dX12_done_124 : decode cX12_done 124 = .ok (.aload_n 0, 1) := by decide +kernel
theorem dX12_done_125 : decode cX12_done 125 = .ok (.invokevirtual 211, 3) := by decide +kernel
theorem dX12_done_128 : decode cX12_done 128 = .ok (.goto 7, 3) := by decide +kernel
theorem dX12_done_131 : decode cX12_done 131 = .ok (.aload_n 0, 1) := by decide +kernel
theorem dX12_done_132 : decode cX12_done 132 = .ok (.invokevirtual 214, 3) := by decide +kernel
theorem dX12_done_135 : decode cX12_done 135 = .ok (.istore_n 2, 1) := by decide +kernel
theorem dX12_done_136 : decode cX12_done 136 = .ok (.iconst 0, 1) := by decide +kernel
theorem dX12_done_137 : decode cX12_done 137 = .ok (.istore_n 3, 1) := by decide +kernel
theorem dX12_done_138 : decode cX12_done 138 = .ok (.iload_n 3, 1) := by decide +kernel
theorem dX12_done_139 : decode cX12_done 139 = .ok (.bipush 7, 2) := by decide +kernel
theorem dX12_done_141 : decode cX12_done 141 = .ok (.if_icmp .ge 24, 3) := by decide +kernel
theorem dX12_done_144 : decode cX12_done 144 = .ok (.aload_n 0, 1) := by decide +kernel
theorem dX12_done_145 : decode cX12_done 145 = .ok (.getfield 9, 3) := by decide +kernel
theorem dX12_done_148 : decode cX12_done 148 = .ok (.bipush 42, 2) := by decide +kernel
theorem dX12_done_150 : decode cX12_done 150 = .ok (.iload_n 3, 1) := by decide +kernel
theorem dX12_done_151 : decode cX12_done 151 = .ok (.iadd, 1) := by decide +kernel
theorem dX12_done_152 : decode cX12_done 152 = .ok (.aload_n 0, 1) := by decide +kernel
theorem dX12_done_153 : decode cX12_done 153 = .ok (.getfield 46, 3) := by decide +kernel
theorem dX12_done_156 : decode cX12_done 156 = .ok (.iload_n 3, 1) := by decide +kernel
theorem dX12_done_157 : decode cX12_done 157 = .ok (.iaload, 1) := by decide +kernel
theorem dX12_done_158 : decode cX12_done 158 = .ok (.iastore, 1) := by decide +kernel
theorem dX12_done_159 : decode cX12_done 159 = .ok (.iinc 3 1, 3) := by decide +kernel
theorem dX12_done_162 : decode cX12_done 162 = .ok (.goto (-24), 3) := by decide +kernel
theorem dX12_done_165 : decode cX12_done 165 = .ok (.iload_n 2, 1) := by decide +kernel
theorem dX12_done_166 : decode cX12_done 166 = .ok (.ireturn, 1) := by decide +kernel
theorem dX12_book_0 : decode cX12_book 0 = .ok (.iload_n 1, 1) := by decide +kernel
theorem dX12_book_1 : decode cX12_book 1 = .ok (.iconst (-1), 1) := by decide +kernel
theorem dX12_book_2 : decode cX12_book 2 = .ok (.if_icmp .ne 12, 3) := by decide +kernel
theorem dX12_book_5 : decode cX12_book 5 = .ok (.aload_n 0, 1) := by decide +kernel
theorem dX12_book_6 : decode cX12_book 6 = .ok (.getfield 9, 3) := by decide +kernel
theorem dX12_book_9 : decode cX12_book 9 = .ok (.iconst 4, 1) := by decide +kernel
theorem dX12_book_10 : decode cX12_book 10 = .ok (.iconst 0, 1) := by decide +kernel
theorem dX12_book_11 : decode cX12_book 11 = .ok (.iastore, 1) := by decide +kernel
theorem dX12_book_12 : decode cX12_book 12 = .ok (.iconst 0, 1) := by decide +kernel
theorem dX12_book_13 : decode cX12_book 13 = .ok (.ireturn, 1) := by decide +kernel
theorem dX12_book_14 : decode cX12_book 14 = .ok (.aload_n 0, 1) := by decide +kernel
theorem dX12_book_15 : decode cX12_book 15 = .ok (.iload_n 1, 1) := by decide +kernel
theorem dX12_book_16 : decode cX12_book 16 = .ok (.invokevirtual 189, 3) := by decide +kernel
theorem dX12_book_19 : decode cX12_book 19 = .ok (.ifCond .eq 12, 3) := by decide +kernel
theorem dX12_book_22 : decode cX12_book 22 = .ok (.iload_n 2, 1) := by decide +kernel
theorem dX12_book_23 : decode cX12_book 23 = .ok (.iconst 0, 1) := by decide +kernel
theorem dX12_book_24 : decode cX12_book 24 = .ok (.iconst 4, 1) := by decide +kernel
theorem dX12_book_25 : decode cX12_book 25 = .ok (.invokestatic 56, 3) := by decide +kernel
theorem dX12_book_28 : decode cX12_book 28 = .ok (.ifCond .ne 5, 3) := by decide +kernel
theorem dX12_book_31 : decode cX12_book 31 = .ok (.iconst (-1), 1) := by decide +kernel
theorem dX12_book_32 : decode cX12_book 32 = .ok (.ireturn, 1) := by decide +kernel
theorem dX12_book_33 : decode cX12_book 33 = .ok (.aload_n 0, 1) := by decide +kernel
theorem dX12_book_34 : decode cX12_book 34 = .ok (.getfield 9, 3) := by decide +kernel
theorem dX12_book_37 : decode cX12_book 37 = .ok (.iconst 4, 1) := by decide +kernel
theorem dX12_book_38 : decode cX12_book 38 = .ok (.iaload, 1) := by decide +kernel
theorem dX12_book_39 : decode cX12_book 39 = .ok (.bipush 8, 2) := by decide +kernel
theorem dX12_book_41 : decode cX12_book 41 = .ok (.if_icmp .ne 6, 3) := by decide +kernel
theorem dX12_book_44 : decode cX12_book 44 = .ok (.bipush (-4), 2) := by decide +kernel
theorem dX12_book_46 : decode cX12_book 46 = .ok (.ireturn, 1) := by decide +kernel
theorem dX12_book_47 : decode cX12_book 47 = .ok (.aload_n 0, 1) := by decide +kernel
theorem dX12_book_48 : decode cX12_book 48 = .ok (.getfield 9, 3) := by decide +kernel
theorem dX12_book_51 : decode cX12_book 51 = .ok (.bipush 108, 2) := by decide +kernel
theorem dX12_book_53 : decode cX12_book 53 = .ok (.aload_n 0, 1) := by decide +kernel
theorem dX12_book_54 : decode cX12_book 54 = .ok (.getfield 9, 3) := by decide +kernel
theorem dX12_book_57 : decode cX12_book 57 = .ok (.iconst 4, 1) := by decide +kernel
theorem dX12_book_58 : decode cX12_book 58 = .ok (.iaload, 1) := by decide +kernel
theorem dX12_book_59 : decode cX12_book 59 = .ok (.iadd, 1) := by decide +kernel
theorem dX12_book_60 : decode cX12_book 60 = .ok (.iload_n 1, 1) := by decide +kernel
theorem dX12_book_61 : decode cX12_book 61 = .ok (.iastore, 1) := by decide +kernel
theorem dX12_book_62 : decode cX12_book 62 = .ok (.aload_n 0, 1) := by decide +kernel
theorem dX12_book_63 : decode cX12_book 63 = .ok (.getfield 9, 3) := by decide +kernel
theorem dX12_book_66 : decode cX12_book 66 = .ok (.bipush 116, 2) := by decide +kernel
theorem dX12_book_68 : decode cX12_book 68 = .ok (.aload_n 0, 1) := by decide +kernel
theorem dX12_book_69 : decode cX12_book 69 = .ok (.getfield 9, 3) := by decide +kernel
theorem dX12_book_72 : decode cX12_book 72 = .ok (.iconst 4, 1) := by decide +kernel
theorem dX12_book_73 : decode cX12_book 73 = .ok (.iaload, 1) := by decide +kernel
theorem dX12_book_74 : decode cX12_book 74 = .ok (.iadd, 1) := by decide +kernel
theorem dX12_book_75 : decode cX12_book 75 = .ok (.iload_n 2, 1) := by decide +kernel
theorem dX12_book_76 : decode cX12_book 76 = .ok (.iastore, 1) := by decide +kernel
theorem dX12_book_77 : decode cX12_book 77 = .ok (.aload_n 0, 1) := by decide +kernel
theorem dX12_book_78 : decode cX12_book 78 = .ok (.getfield 9, 3) := by decide +kernel
theorem dX12_book_81 : decode cX12_book 81 = .ok (.iconst 4, 1) := by decide +kernel
theorem dX12_book_82 : decode cX12_book 82 = .ok (.dup2, 1) := by decide +kernel
theorem dX12_book_83 : decode cX12_book 83 = .ok (.iaload, 1) := by decide +kernel
theorem dX12_book_84 : decode cX12_book 84 = .ok (.iconst 1, 1) := by decide +kernel
theorem dX12_book_85 : decode cX12_book 85 = .ok (.iadd, 1) := by decide +kernel
theorem dX12_book_86 : decode cX12_book 86 = .ok (.iastore, 1) := by decide +kernel
theorem dX12_book_87 : decode cX12_book 87 = .ok (.aload_n 0, 1) := by decide +kernel
theorem dX12_book_88 : decode cX12_book 88 = .ok (.getfield 9, 3) := by decide +kernel
theorem dX12_book_91 : decode cX12_book 91 = .ok (.iconst 4, 1) := by decide +kernel
theorem dX12_book_92 : decode cX12_book 92 = .ok (.iaload, 1) := by decide +kernel
theorem dX12_book_93 : decode cX12_book 93 = .ok (.ireturn, 1) := by decide +kernel
theorem dX12_looked_0 : decode cX12_looked 0 = .ok (.iconst 0, 1) := by decide +kernel
theorem dX12_looked_1 : decode cX12_looked 1 = .ok (.istore_n 1, 1) := by decide +kernel
theorem dX12_looked_2 : decode cX12_looked 2 = .ok (.iload_n 1, 1) := by decide +kernel
theorem dX12_looked_3 : decode cX12_looked 3 = .ok (.aload_n 0, 1) := by decide +kernel
theorem dX12_looked_4 : decode cX12_looked 4 = .ok (.getfield 9, 3) := by decide +kernel
theorem dX12_looked_7 : decode cX12_looked 7 = .ok (.iconst 4, 1) := by decide +kernel
theorem dX12_looked_8 : decode cX12_looked 8 = .ok (.iaload, 1) := by decide +kernel
theorem dX12_looked_9 : decode cX12_looked 9 = .ok (.if_icmp .ge 40, 3) := by decide +kernel
theorem dX12_looked_12 : decode cX12_looked 12 = .ok (.aload_n 0, 1) := by decide +kernel
theorem dX12_looked_13 : decode cX12_looked 13 = .ok (.getfield 9, 3) := by decide +kernel
theorem dX12_looked_16 : decode cX12_looked 16 = .ok (.bipush 42, 2) := by decide +kernel
theorem dX12_looked_18 : decode cX12_looked 18 = .ok (.aload_n 0, 1) := by decide +kernel
theorem dX12_looked_19 : decode cX12_looked 19 = .ok (.getfield 9, 3) := by decide +kernel
theorem dX12_looked_22 : decode cX12_looked 22 = .ok (.bipush 108, 2) := by decide +kernel
theorem dX12_looked_24 : decode cX12_looked 24 = .ok (.iload_n 1, 1) := by decide +kernel
theorem dX12_looked_25 : decode cX12_looked 25 = .ok (.iadd, 1) := by decide +kernel
theorem dX12_looked_26 : decode cX12_looked 26 = .ok (.iaload, 1) := by decide +kernel
theorem dX12_looked_27 : decode cX12_looked 27 = .ok (.iadd, 1) := by decide +kernel
theorem dX12_looked_28 : decode cX12_looked 28 = .ok (.iaload, 1) := by decide +kernel
theorem dX12_looked_29 : decode cX12_looked 29 = .ok (.aload_n 0, 1) := by decide +kernel
theorem dX12_looked_30 : decode cX12_looked 30 = .ok (.getfield 9, 3) := by decide +kernel
theorem dX12_looked_33 : decode cX12_looked 33 = .ok (.bipush 116, 2) := by decide +kernel
theorem dX12_looked_35 : decode cX12_looked 35 = .ok (.iload_n 1, 1) := by decide +kernel
theorem dX12_looked_36 : decode cX12_looked 36 = .ok (.iadd, 1) := by decide +kernel
theorem dX12_looked_37 : decode cX12_looked 37 = .ok (.iaload, 1) := by decide +kernel
theorem dX12_looked_38 : decode cX12_looked 38 = .ok (.if_icmp .eq 5, 3) := by decide +kernel
theorem dX12_looked_41 : decode cX12_looked 41 = .ok (.iload_n 1, 1) := by decide +kernel
theorem dX12_looked_42 : decode cX12_looked 42 = .ok (.ireturn, 1) := by decide +kernel
theorem dX12_looked_43 : decode cX12_looked 43 = .ok (.iinc 1 1, 3) := by decide +kernel
theorem dX12_looked_46 : decode cX12_looked 46 = .ok (.goto (-44), 3) := by decide +kernel
theorem dX12_looked_49 : decode cX12_looked 49 = .ok (.bipush (-5), 2) := by decide +kernel
theorem dX12_looked_51 : decode cX12_looked 51 = .ok (.ireturn, 1) := by decide +kernel
theorem dX12_ranBody_0 : decode cX12_ranBody 0 = .ok (.aload_n 0, 1) := by decide +kernel
theorem dX12_ranBody_1 : decode cX12_ranBody 1 = .ok (.getfield 283, 3) := by decide +kernel
theorem dX12_ranBody_4 : decode cX12_ranBody 4 = .ok (.bipush 20, 2) := by decide +kernel
theorem dX12_ranBody_6 : decode cX12_ranBody 6 = .ok (.if_icmp .ge 13, 3) := by decide +kernel
theorem dX12_ranBody_9 : decode cX12_ranBody 9 = .ok (.aload_n 0, 1) := by decide +kernel
theorem dX12_ranBody_10 : decode cX12_ranBody 10 = .ok (.getfield 49, 3) := by decide +kernel
theorem dX12_ranBody_13 : decode cX12_ranBody 13 = .ok (.aload_n 0, 1) := by decide +kernel
theorem dX12_ranBody_14 : decode cX12_ranBody 14 = .ok (.getfield 283, 3) := by decide +kernel
theorem dX12_ranBody_17 : decode cX12_ranBody 17 = .ok (.iload_n 1, 1) := by decide +kernel
theorem dX12_ranBody_18 : decode cX12_ranBody 18 = .ok (.iastore, 1) := by decide +kernel
theorem dX12_ranBody_19 : decode cX12_ranBody 19 = .ok (.aload_n 0, 1) := by decide +kernel
theorem dX12_ranBody_20 : decode cX12_ranBody 20 = .ok (.dup, 1) := by decide +kernel
theorem dX12_ranBody_21 : decode cX12_ranBody 21 = .ok (.getfield 283, 3) := by decide +kernel
theorem dX12_ranBody_24 : decode cX12_ranBody 24 = .ok (.iconst 1, 1) := by decide +kernel
theorem dX12_ranBody_25 : decode cX12_ranBody 25 = .ok (.iadd, 1) := by decide +kernel
theorem dX12_ranBody_26 : decode cX12_ranBody 26 = .ok (.putfield 283, 3) := by decide +kernel
theorem dX12_ranBody_29 : decode cX12_ranBody 29 = .ok (.return_, 1) := by decide +kernel
theorem dX12_isUnder_0 : decode cX12_isUnder 0 = .ok (.iload_n 1, 1) := by decide +kernel
theorem dX12_isUnder_1 : decode cX12_isUnder 1 = .ok (.ifCond .eq 24, 3) := by decide +kernel
theorem dX12_isUnder_4 : decode cX12_isUnder 4 = .ok (.iload_n 1, 1) := by decide +kernel
theorem dX12_isUnder_5 : decode cX12_isUnder 5 = .ok (.iload_n 0, 1) := by decide +kernel
theorem dX12_isUnder_6 : decode cX12_isUnder 6 = .ok (.if_icmp .eq 19, 3) := by decide +kernel
theorem dX12_isUnder_9 : decode cX12_isUnder 9 = .ok (.iload_n 1, 1) := by decide +kernel
theorem dX12_isUnder_10 : decode cX12_isUnder 10 = .ok (.ifCond .le 19, 3) := by decide +kernel
theorem dX12_isUnder_13 : decode cX12_isUnder 13 = .ok (.iload_n 1, 1) := by decide +kernel
theorem dX12_isUnder_14 : decode cX12_isUnder 14 = .ok (.iconst 4, 1) := by decide +kernel
theorem dX12_isUnder_15 : decode cX12_isUnder 15 = .ok (.if_icmp .ge 14, 3) := by decide +kernel
theorem dX12_isUnder_18 : decode cX12_isUnder 18 = .ok (.iload_n 0, 1) := by decide +kernel
theorem dX12_isUnder_19 : decode cX12_isUnder 19 = .ok (.iload_n 1, 1) := by decide +kernel
theorem dX12_isUnder_20 : decode cX12_isUnder 20 = .ok (.iconst 3, 1) := by decide +kernel
theorem dX12_isUnder_21 : decode cX12_isUnder 21 = .ok (.iadd, 1) := by decide +kernel
theorem dX12_isUnder_22 : decode cX12_isUnder 22 = .ok (.if_icmp .ne 7, 3) := by decide +kernel
theorem dX12_isUnder_25 : decode cX12_isUnder 25 = .ok (.iconst 1, 1) := by decide +kernel
theorem dX12_isUnder_26 : decode cX12_isUnder 26 = .ok (.goto 4, 3) := by decide +kernel
theorem dX12_isUnder_29 : decode cX12_isUnder 29 = .ok (.iconst 0, 1) := by decide +kernel
theorem dX12_isUnder_30 : decode cX12_isUnder 30 = .ok (.ireturn, 1) := by decide +kernel
theorem dX12_plainLies_0 : decode cX12_plainLies 0 = .ok (.aload_n 0, 1) := by decide +kernel
theorem dX12_plainLies_1 : decode cX12_plainLies 1 = .ok (.iconst 1, 1) := by decide +kernel
theorem dX12_plainLies_2 : decode cX12_plainLies 2 = .ok (.invokevirtual 286, 3) := by decide +kernel
theorem dX12_plainLies_5 : decode cX12_plainLies 5 = .ok (.iload_n 1, 1) := by decide +kernel
theorem dX12_plainLies_6 : decode cX12_plainLies 6 = .ok (.aload_n 0, 1) := by decide +kernel
theorem dX12_plainLies_7 : decode cX12_plainLies 7 = .ok (.getfield 289, 3) := by decide +kernel
theorem dX12_plainLies_10 : decode cX12_plainLies 10 = .ok (.iadd, 1) := by decide +kernel
theorem dX12_plainLies_11 : decode cX12_plainLies 11 = .ok (.ireturn, 1) := by decide +kernel
theorem dX12_liesActs_0 : decode cX12_liesActs 0 = .ok (.aload_n 0, 1) := by decide +kernel
theorem dX12_liesActs_1 : decode cX12_liesActs 1 = .ok (.getfield 292, 3) := by decide +kernel
theorem dX12_liesActs_4 : decode cX12_liesActs 4 = .ok (.iconst 1, 1) := by decide +kernel
theorem dX12_liesActs_5 : decode cX12_liesActs 5 = .ok (.invokestatic 295, 3) := by decide +kernel
theorem dX12_liesActs_8 : decode cX12_liesActs 8 = .ok (.ifCond .eq 17, 3) := by decide +kernel
theorem dX12_liesActs_11 : decode cX12_liesActs 11 = .ok (.aload_n 0, 1) := by decide +kernel
theorem dX12_liesActs_12 : decode cX12_liesActs 12 = .ok (.bipush 11, 2) := by decide +kernel
theorem dX12_liesActs_14 : decode cX12_liesActs 14 = .ok (.invokevirtual 286, 3) := by decide +kernel
theorem dX12_liesActs_17 : decode cX12_liesActs 17 = .ok (.aload_n 0, 1) := by decide +kernel
theorem dX12_liesActs_18 : decode cX12_liesActs 18 = .ok (.iload_n 1, 1) := by decide +kernel
theorem dX12_liesActs_19 : decode cX12_liesActs 19 = .ok (.iconst 3, 1) := by decide +kernel
theorem dX12_liesActs_20 : decode cX12_liesActs 20 = .ok (.imul, 1) := by decide +kernel
theorem dX12_liesActs_21 : decode cX12_liesActs 21 = .ok (.invokevirtual 298, 3) := by decide +kernel
theorem dX12_liesActs_24 : decode cX12_liesActs 24 = .ok (.ireturn, 1) := by decide +kernel
theorem dX12_liesActs_25 : decode cX12_liesActs 25 = .ok (.aload_n 0, 1) := by decide +kernel
theorem dX12_liesActs_26 : decode cX12_liesActs 26 = .ok (.getfield 292, 3) := by decide +kernel
theorem dX12_liesActs_29 : decode cX12_liesActs 29 = .ok (.iconst 5, 1) := by decide +kernel
theorem dX12_liesActs_30 : decode cX12_liesActs 30 = .ok (.if_icmp .ne 20, 3) := by decide +kernel
theorem dX12_liesActs_33 : decode cX12_liesActs 33 = .ok (.aload_n 0, 1) := by decide +kernel
theorem dX12_liesActs_34 : decode cX12_liesActs 34 = .ok (.bipush 51, 2) := by decide +kernel
theorem dX12_liesActs_36 : decode cX12_liesActs 36 = .ok (.invokevirtual 286, 3) := by decide +kernel
theorem dX12_liesActs_39 : decode cX12_liesActs 39 = .ok (.aload_n 0, 1) := by decide +kernel
theorem dX12_liesActs_40 : decode cX12_liesActs 40 = .ok (.iload_n 1, 1) := by decide +kernel
theorem dX12_liesActs_41 : decode cX12_liesActs 41 = .ok (.invokevirtual 298, 3) := by decide +kernel
theorem dX12_liesActs_44 : decode cX12_liesActs 44 = .ok (.aload_n 0, 1) := by decide +kernel
theorem dX12_liesActs_45 : decode cX12_liesActs 45 = .ok (.getfield 289, 3) := by decide +kernel
theorem dX12_liesActs_48 : decode cX12_liesActs 48 = .ok (.ixor, 1) := by decide +kernel
theorem dX12_liesActs_49 : decode cX12_liesActs 49 = .ok (.ireturn, 1) := by decide +kernel
theorem dX12_liesActs_50 : decode cX12_liesActs 50 = .ok (.aload_n 0, 1) := by decide +kernel
theorem dX12_liesActs_51 : decode cX12_liesActs 51 = .ok (.iload_n 1, 1) := by decide +kernel
theorem dX12_liesActs_52 : decode cX12_liesActs 52 = .ok (.invokevirtual 298, 3) := by decide +kernel
theorem dX12_liesActs_55 : decode cX12_liesActs 55 = .ok (.ireturn, 1) := by decide +kernel
theorem dX12_plainReads_0 : decode cX12_plainReads 0 = .ok (.aload_n 0, 1) := by decide +kernel
theorem dX12_plainReads_1 : decode cX12_plainReads 1 = .ok (.iconst 2, 1) := by decide +kernel
theorem dX12_plainReads_2 : decode cX12_plainReads 2 = .ok (.invokevirtual 286, 3) := by decide +kernel
theorem dX12_plainReads_5 : decode cX12_plainReads 5 = .ok (.aload_n 0, 1) := by decide +kernel
theorem dX12_plainReads_6 : decode cX12_plainReads 6 = .ok (.iload_n 1, 1) := by decide +kernel
theorem dX12_plainReads_7 : decode cX12_plainReads 7 = .ok (.invokevirtual 301, 3) := by decide +kernel
theorem dX12_plainReads_10 : decode cX12_plainReads 10 = .ok (.aload_n 0, 1) := by decide +kernel
theorem dX12_plainReads_11 : decode cX12_plainReads 11 = .ok (.getfield 304, 3) := by decide +kernel
theorem dX12_plainReads_14 : decode cX12_plainReads 14 = .ok (.isub, 1) := by decide +kernel
theorem dX12_plainReads_15 : decode cX12_plainReads 15 = .ok (.ireturn, 1) := by decide +kernel
theorem dX12_readsActs_0 : decode cX12_readsActs 0 = .ok (.aload_n 0, 1) := by decide +kernel
theorem dX12_readsActs_1 : decode cX12_readsActs 1 = .ok (.getfield 292, 3) := by decide +kernel
theorem dX12_readsActs_4 : decode cX12_readsActs 4 = .ok (.iconst 2, 1) := by decide +kernel
theorem dX12_readsActs_5 : decode cX12_readsActs 5 = .ok (.invokestatic 295, 3) := by decide +kernel
theorem dX12_readsActs_8 : decode cX12_readsActs 8 = .ok (.ifCond .eq 16, 3) := by decide +kernel
theorem dX12_readsActs_11 : decode cX12_readsActs 11 = .ok (.aload_n 0, 1) := by decide +kernel
theorem dX12_readsActs_12 : decode cX12_readsActs 12 = .ok (.bipush 21, 2) := by decide +kernel
theorem dX12_readsActs_14 : decode cX12_readsActs 14 = .ok (.invokevirtual 286, 3) := by decide +kernel
theorem dX12_readsActs_17 : decode cX12_readsActs 17 = .ok (.aload_n 0, 1) := by decide +kernel
theorem dX12_readsActs_18 : decode cX12_readsActs 18 = .ok (.iload_n 1, 1) := by decide +kernel
theorem dX12_readsActs_19 : decode cX12_readsActs 19 = .ok (.invokevirtual 307, 3) := by decide +kernel
theorem dX12_readsActs_22 : decode cX12_readsActs 22 = .ok (.ineg, 1) := by decide +kernel
theorem dX12_readsActs_23 : decode cX12_readsActs 23 = .ok (.ireturn, 1) := by decide +kernel
theorem dX12_readsActs_24 : decode cX12_readsActs 24 = .ok (.aload_n 0, 1) := by decide +kernel
theorem dX12_readsActs_25 : decode cX12_readsActs 25 = .ok (.getfield 292, 3) := by decide +kernel
theorem dX12_readsActs_28 : decode cX12_readsActs 28 = .ok (.bipush 6, 2) := by decide +kernel
theorem dX12_readsActs_30 : decode cX12_readsActs 30 = .ok (.if_icmp .ne 20, 3) := by decide +kernel
theorem dX12_readsActs_33 : decode cX12_readsActs 33 = .ok (.aload_n 0, 1) := by decide +kernel
theorem dX12_readsActs_34 : decode cX12_readsActs 34 = .ok (.bipush 61, 2) := by decide +kernel
theorem dX12_readsActs_36 : decode cX12_readsActs 36 = .ok (.invokevirtual 286, 3) := by decide +kernel
theorem dX12_readsActs_39 : decode cX12_readsActs 39 = .ok (.aload_n 0, 1) := by decide +kernel
theorem dX12_readsActs_40 : decode cX12_readsActs 40 = .ok (.iload_n 1, 1) := by decide +kernel
theorem dX12_readsActs_41 : decode cX12_readsActs 41 = .ok (.invokevirtual 307, 3) := by decide +kernel
theorem dX12_readsActs_44 : decode cX12_readsActs 44 = .ok (.aload_n 0, 1) := by decide +kernel
theorem dX12_readsActs_45 : decode cX12_readsActs 45 = .ok (.getfield 304, 3) := by decide +kernel
theorem dX12_readsActs_48 : decode cX12_readsActs 48 = .ok (.iadd, 1) := by decide +kernel
theorem dX12_readsActs_49 : decode cX12_readsActs 49 = .ok (.ireturn, 1) := by decide +kernel
theorem dX12_readsActs_50 : decode cX12_readsActs 50 = .ok (.aload_n 0, 1) := by decide +kernel
theorem dX12_readsActs_51 : decode cX12_readsActs 51 = .ok (.iload_n 1, 1) := by decide +kernel
theorem dX12_readsActs_52 : decode cX12_readsActs 52 = .ok (.invokevirtual 307, 3) := by decide +kernel
theorem dX12_readsActs_55 : decode cX12_readsActs 55 = .ok (.ireturn, 1) := by decide +kernel
theorem dX12_plainTelling_0 : decode cX12_plainTelling 0 = .ok (.aload_n 0, 1) := by decide +kernel
theorem dX12_plainTelling_1 : decode cX12_plainTelling 1 = .ok (.iconst 3, 1) := by decide +kernel
theorem dX12_plainTelling_2 : decode cX12_plainTelling 2 = .ok (.invokevirtual 286, 3) := by decide +kernel
theorem dX12_plainTelling_5 : decode cX12_plainTelling 5 = .ok (.aload_n 0, 1) := by decide +kernel
theorem dX12_plainTelling_6 : decode cX12_plainTelling 6 = .ok (.iload_n 1, 1) := by decide +kernel
theorem dX12_plainTelling_7 : decode cX12_plainTelling 7 = .ok (.invokevirtual 310, 3) := by decide +kernel
theorem dX12_plainTelling_10 : decode cX12_plainTelling 10 = .ok (.iconst 2, 1) := by decide +kernel
theorem dX12_plainTelling_11 : decode cX12_plainTelling 11 = .ok (.imul, 1) := by decide +kernel
theorem dX12_plainTelling_12 : decode cX12_plainTelling 12 = .ok (.ireturn, 1) := by decide +kernel
theorem dX12_tellsActs_0 : decode cX12_tellsActs 0 = .ok (.aload_n 0, 1) := by decide +kernel
theorem dX12_tellsActs_1 : decode cX12_tellsActs 1 = .ok (.getfield 292, 3) := by decide +kernel
theorem dX12_tellsActs_4 : decode cX12_tellsActs 4 = .ok (.iconst 3, 1) := by decide +kernel
theorem dX12_tellsActs_5 : decode cX12_tellsActs 5 = .ok (.invokestatic 295, 3) := by decide +kernel
theorem dX12_tellsActs_8 : decode cX12_tellsActs 8 = .ok (.ifCond .eq 18, 3) := by decide +kernel
theorem dX12_tellsActs_11 : decode cX12_tellsActs 11 = .ok (.aload_n 0, 1) := by decide +kernel
theorem dX12_tellsActs_12 : decode cX12_tellsActs 12 = .ok (.bipush 31, 2) := by decide +kernel
theorem dX12_tellsActs_14 : decode cX12_tellsActs 14 = .ok (.invokevirtual 286, 3) := by decide +kernel
theorem dX12_tellsActs_17 : decode cX12_tellsActs 17 = .ok (.aload_n 0, 1) := by decide +kernel
theorem dX12_tellsActs_18 : decode cX12_tellsActs 18 = .ok (.iload_n 1, 1) := by decide +kernel
theorem dX12_tellsActs_19 : decode cX12_tellsActs 19 = .ok (.invokevirtual 313, 3) := by decide +kernel
theorem dX12_tellsActs_22 : decode cX12_tellsActs 22 = .ok (.bipush 7, 2) := by decide +kernel
theorem dX12_tellsActs_24 : decode cX12_tellsActs 24 = .ok (.ixor, 1) := by decide +kernel
theorem dX12_tellsActs_25 : decode cX12_tellsActs 25 = .ok (.ireturn, 1) := by decide +kernel
theorem dX12_tellsActs_26 : decode cX12_tellsActs 26 = .ok (.aload_n 0, 1) := by decide +kernel
theorem dX12_tellsActs_27 : decode cX12_tellsActs 27 = .ok (.getfield 292, 3) := by decide +kernel
theorem dX12_tellsActs_30 : decode cX12_tellsActs 30 = .ok (.iconst 4, 1) := by decide +kernel
theorem dX12_tellsActs_31 : decode cX12_tellsActs 31 = .ok (.if_icmp .ne 25, 3) := by decide +kernel
theorem dX12_tellsActs_34 : decode cX12_tellsActs 34 = .ok (.aload_n 0, 1) := by decide +kernel
theorem dX12_tellsActs_35 : decode cX12_tellsActs 35 = .ok (.bipush 41, 2) := by decide +kernel
theorem dX12_tellsActs_37 : decode cX12_tellsActs 37 = .ok (.invokevirtual 286, 3) := by decide +kernel
theorem dX12_tellsActs_40 : decode cX12_tellsActs 40 = .ok (.aload_n 0, 1) := by decide +kernel
theorem dX12_tellsActs_41 : decode cX12_tellsActs 41 = .ok (.iload_n 1, 1) := by decide +kernel
theorem dX12_tellsActs_42 : decode cX12_tellsActs 42 = .ok (.iconst 1, 1) := by decide +kernel
theorem dX12_tellsActs_43 : decode cX12_tellsActs 43 = .ok (.isub, 1) := by decide +kernel
theorem dX12_tellsActs_44 : decode cX12_tellsActs 44 = .ok (.invokevirtual 313, 3) := by decide +kernel
theorem dX12_tellsActs_47 : decode cX12_tellsActs 47 = .ok (.istore_n 2, 1) := by decide +kernel
theorem dX12_tellsActs_48 : decode cX12_tellsActs 48 = .ok (.iload_n 2, 1) := by decide +kernel
theorem dX12_tellsActs_49 : decode cX12_tellsActs 49 = .ok (.aload_n 0, 1) := by decide +kernel
theorem dX12_tellsActs_50 : decode cX12_tellsActs 50 = .ok (.iconst 2, 1) := by decide +kernel
theorem dX12_tellsActs_51 : decode cX12_tellsActs 51 = .ok (.invokevirtual 301, 3) := by decide +kernel
theorem dX12_tellsActs_54 : decode cX12_tellsActs 54 = .ok (.iadd, 1) := by decide +kernel
theorem dX12_tellsActs_55 : decode cX12_tellsActs 55 = .ok (.ireturn, 1) := by decide +kernel
theorem dX12_tellsActs_56 : decode cX12_tellsActs 56 = .ok (.aload_n 0, 1) := by decide +kernel
theorem dX12_tellsActs_57 : decode cX12_tellsActs 57 = .ok (.iload_n 1, 1) := by decide +kernel
theorem dX12_tellsActs_58 : decode cX12_tellsActs 58 = .ok (.invokevirtual 313, 3) := by decide +kernel
theorem dX12_tellsActs_61 : decode cX12_tellsActs 61 = .ok (.ireturn, 1) := by decide +kernel
theorem dX12_act_0 : decode cX12_act 0 = .ok (.aload_n 0, 1) := by decide +kernel
theorem dX12_act_1 : decode cX12_act 1 = .ok (.iconst 0, 1) := by decide +kernel
theorem dX12_act_2 : decode cX12_act 2 = .ok (.putfield 283, 3) := by decide +kernel
theorem dX12_act_5 : decode cX12_act 5 = .ok (.aload_n 0, 1) := by decide +kernel
theorem dX12_act_6 : decode cX12_act 6 = .ok (.iload_n 1, 1) := by decide +kernel
theorem dX12_act_7 : decode cX12_act 7 = .ok (.invokevirtual 189, 3) := by decide +kernel
theorem dX12_act_10 : decode cX12_act 10 = .ok (.ifCond .eq 12, 3) := by decide +kernel
theorem dX12_act_13 : decode cX12_act 13 = .ok (.iload_n 2, 1) := by decide +kernel
theorem dX12_act_14 : decode cX12_act 14 = .ok (.iconst 0, 1) := by decide +kernel
theorem dX12_act_15 : decode cX12_act 15 = .ok (.iconst 2, 1) := by decide +kernel
theorem dX12_act_16 : decode cX12_act 16 = .ok (.invokestatic 56, 3) := by decide +kernel
theorem dX12_act_19 : decode cX12_act 19 = .ok (.ifCond .ne 5, 3) := by decide +kernel
theorem dX12_act_22 : decode cX12_act 22 = .ok (.iconst 0, 1) := by decide +kernel
theorem dX12_act_23 : decode cX12_act 23 = .ok (.ireturn, 1) := by decide +kernel
theorem dX12_act_24 : decode cX12_act 24 = .ok (.aload_n 0, 1) := by decide +kernel
theorem dX12_act_25 : decode cX12_act 25 = .ok (.aload_n 0, 1) := by decide +kernel
theorem dX12_act_26 : decode cX12_act 26 = .ok (.getfield 9, 3) := by decide +kernel
theorem dX12_act_29 : decode cX12_act 29 = .ok (.bipush 7, 2) := by decide +kernel
theorem dX12_act_31 : decode cX12_act 31 = .ok (.iload_n 1, 1) := by decide +kernel
theorem dX12_act_32 : decode cX12_act 32 = .ok (.iadd, 1) := by decide +kernel
theorem dX12_act_33 : decode cX12_act 33 = .ok (.iaload, 1) := by decide +kernel
theorem dX12_act_34 : decode cX12_act 34 = .ok (.putfield 292, 3) := by decide +kernel
theorem dX12_act_37 : decode cX12_act 37 = .ok (.aload_n 0, 1) := by decide +kernel
theorem dX12_act_38 : decode cX12_act 38 = .ok (.iload_n 1, 1) := by decide +kernel
theorem dX12_act_39 : decode cX12_act 39 = .ok (.putfield 289, 3) := by decide +kernel
theorem dX12_act_42 : decode cX12_act 42 = .ok (.aload_n 0, 1) := by decide +kernel
theorem dX12_act_43 : decode cX12_act 43 = .ok (.aload_n 0, 1) := by decide +kernel
theorem dX12_act_44 : decode cX12_act 44 = .ok (.getfield 9, 3) := by decide +kernel
theorem dX12_act_47 : decode cX12_act 47 = .ok (.bipush 14, 2) := by decide +kernel
theorem dX12_act_49 : decode cX12_act 49 = .ok (.iload_n 1, 1) := by decide +kernel
theorem dX12_act_50 : decode cX12_act 50 = .ok (.iadd, 1) := by decide +kernel
theorem dX12_act_51 : decode cX12_act 51 = .ok (.iaload, 1) := by decide +kernel
theorem dX12_act_52 : decode cX12_act 52 = .ok (.putfield 304, 3) := by decide +kernel
theorem dX12_act_55 : decode cX12_act 55 = .ok (.iload_n 2, 1) := by decide +kernel
theorem dX12_act_56 : decode cX12_act 56 = .ok (.ifCond .ne 11, 3) := by decide +kernel
theorem dX12_act_59 : decode cX12_act 59 = .ok (.aload_n 0, 1) := by decide +kernel
theorem dX12_act_60 : decode cX12_act 60 = .ok (.iload_n 3, 1) := by decide +kernel
theorem dX12_act_61 : decode cX12_act 61 = .ok (.invokevirtual 301, 3) := by decide +kernel
theorem dX12_act_64 : decode cX12_act 64 = .ok (.goto 21, 3) := by decide +kernel
theorem dX12_act_67 : decode cX12_act 67 = .ok (.iload_n 2, 1) := by decide +kernel
theorem dX12_act_68 : decode cX12_act 68 = .ok (.iconst 1, 1) := by decide +kernel
theorem dX12_act_69 : decode cX12_act 69 = .ok (.if_icmp .ne 11, 3) := by decide +kernel
theorem dX12_act_72 : decode cX12_act 72 = .ok (.aload_n 0, 1) := by decide +kernel
theorem dX12_act_73 : decode cX12_act 73 = .ok (.iload_n 3, 1) := by decide +kernel
theorem dX12_act_74 : decode cX12_act 74 = .ok (.invokevirtual 310, 3) := by decide +kernel
theorem dX12_act_77 : decode cX12_act 77 = .ok (.goto 8, 3) := by decide +kernel
theorem dX12_act_80 : decode cX12_act 80 = .ok (.aload_n 0, 1) := by decide +kernel
theorem dX12_act_81 : decode cX12_act 81 = .ok (.iload_n 3, 1) := by decide +kernel
theorem dX12_act_82 : decode cX12_act 82 = .ok (.invokevirtual 316, 3) := by decide +kernel
theorem dX12_act_85 : decode cX12_act 85 = .ok (.ireturn, 1) := by decide +kernel
theorem dX12_trace_0 : decode cX12_trace 0 = .ok (.iload_n 1, 1) := by decide +kernel
theorem dX12_trace_1 : decode cX12_trace 1 = .ok (.iconst 0, 1) := by decide +kernel
theorem dX12_trace_2 : decode cX12_trace 2 = .ok (.aload_n 0, 1) := by decide +kernel
theorem dX12_trace_3 : decode cX12_trace 3 = .ok (.getfield 283, 3) := by decide +kernel
theorem dX12_trace_6 : decode cX12_trace 6 = .ok (.bipush 20, 2) := by decide +kernel
theorem dX12_trace_8 : decode cX12_trace 8 = .ok (.if_icmp .ge 10, 3) := by decide +kernel
theorem dX12_trace_11 : decode cX12_trace 11 = .ok (.aload_n 0, 1) := by decide +kernel
theorem dX12_trace_12 : decode cX12_trace 12 = .ok (.getfield 283, 3) := by decide +kernel
theorem dX12_trace_15 : decode cX12_trace 15 = .ok (.goto 5, 3) := by decide +kernel
theorem dX12_trace_18 : decode cX12_trace 18 = .ok (.bipush 20, 2) := by decide +kernel
theorem dX12_trace_20 : decode cX12_trace 20 = .ok (.iconst 1, 1) := by decide +kernel
theorem dX12_trace_21 : decode cX12_trace 21 = .ok (.isub, 1) := by decide +kernel
theorem dX12_trace_22 : decode cX12_trace 22 = .ok (.invokestatic 56, 3) := by decide +kernel
theorem dX12_trace_25 : decode cX12_trace 25 = .ok (.ifCond .eq 12, 3) := by decide +kernel
theorem dX12_trace_28 : decode cX12_trace 28 = .ok (.aload_n 0, 1) := by decide +kernel
theorem dX12_trace_29 : decode cX12_trace 29 = .ok (.getfield 49, 3) := by decide +kernel
theorem dX12_trace_32 : decode cX12_trace 32 = .ok (.iload_n 1, 1) := by decide +kernel
theorem dX12_trace_33 : decode cX12_trace 33 = .ok (.iaload, 1) := by decide +kernel
theorem dX12_trace_34 : decode cX12_trace 34 = .ok (.goto 4, 3) := by decide +kernel
theorem dX12_trace_37 : decode cX12_trace 37 = .ok (.iconst (-1), 1) := by decide +kernel
theorem dX12_trace_38 : decode cX12_trace 38 = .ok (.ireturn, 1) := by decide +kernel
theorem dX12_as_0 : decode cX12_as 0 = .ok (.aload_n 0, 1) := by decide +kernel
theorem dX12_as_1 : decode cX12_as 1 = .ok (.iload_n 1, 1) := by decide +kernel
theorem dX12_as_2 : decode cX12_as 2 = .ok (.invokevirtual 189, 3) := by decide +kernel
theorem dX12_as_5 : decode cX12_as 5 = .ok (.ifCond .eq 13, 3) := by decide +kernel
theorem dX12_as_8 : decode cX12_as 8 = .ok (.iload_n 2, 1) := by decide +kernel
theorem dX12_as_9 : decode cX12_as 9 = .ok (.iconst 0, 1) := by decide +kernel
theorem dX12_as_10 : decode cX12_as 10 = .ok (.bipush 6, 2) := by decide +kernel
theorem dX12_as_12 : decode cX12_as 12 = .ok (.invokestatic 56, 3) := by decide +kernel
theorem dX12_as_15 : decode cX12_as 15 = .ok (.ifCond .ne 5, 3) := by decide +kernel
theorem dX12_as_18 : decode cX12_as 18 = .ok (.iconst (-1), 1) := by decide +kernel
theorem dX12_as_19 : decode cX12_as 19 = .ok (.ireturn, 1) := by decide +kernel
theorem dX12_as_20 : decode cX12_as 20 = .ok (.aload_n 0, 1) := by decide +kernel
theorem dX12_as_21 : decode cX12_as 21 = .ok (.getfield 9, 3) := by decide +kernel
theorem dX12_as_24 : decode cX12_as 24 = .ok (.bipush 7, 2) := by decide +kernel
theorem dX12_as_26 : decode cX12_as 26 = .ok (.iload_n 1, 1) := by decide +kernel
theorem dX12_as_27 : decode cX12_as 27 = .ok (.iadd, 1) := by decide +kernel
theorem dX12_as_28 : decode cX12_as 28 = .ok (.iaload, 1) := by decide +kernel
theorem dX12_as_29 : decode cX12_as 29 = .ok (.iload_n 2, 1) := by decide +kernel
theorem dX12_as_30 : decode cX12_as 30 = .ok (.invokestatic 295, 3) := by decide +kernel
theorem dX12_as_33 : decode cX12_as 33 = .ok (.ifCond .eq 15, 3) := by decide +kernel
theorem dX12_as_36 : decode cX12_as 36 = .ok (.aload_n 0, 1) := by decide +kernel
theorem dX12_as_37 : decode cX12_as 37 = .ok (.getfield 9, 3) := by decide +kernel
theorem dX12_as_40 : decode cX12_as 40 = .ok (.bipush 14, 2) := by decide +kernel
theorem dX12_as_42 : decode cX12_as 42 = .ok (.iload_n 1, 1) := by decide +kernel
theorem dX12_as_43 : decode cX12_as 43 = .ok (.iadd, 1) := by decide +kernel
theorem dX12_as_44 : decode cX12_as 44 = .ok (.iaload, 1) := by decide +kernel
theorem dX12_as_45 : decode cX12_as 45 = .ok (.goto 5, 3) := by decide +kernel
theorem dX12_as_48 : decode cX12_as 48 = .ok (.bipush (-6), 2) := by decide +kernel
theorem dX12_as_50 : decode cX12_as 50 = .ok (.ireturn, 1) := by decide +kernel
theorem dX12_image_0 : decode cX12_image 0 = .ok (.iconst 0, 1) := by decide +kernel
theorem dX12_image_1 : decode cX12_image 1 = .ok (.istore_n 1, 1) := by decide +kernel
theorem dX12_image_2 : decode cX12_image 2 = .ok (.iload_n 1, 1) := by decide +kernel
theorem dX12_image_3 : decode cX12_image 3 = .ok (.sipush 939, 3) := by decide +kernel
theorem dX12_image_6 : decode cX12_image 6 = .ok (.if_icmp .ge 21, 3) := by decide +kernel
theorem dX12_image_9 : decode cX12_image 9 = .ok (.aload_n 0, 1) := by decide +kernel
theorem dX12_image_10 : decode cX12_image 10 = .ok (.getfield 15, 3) := by decide +kernel
theorem dX12_image_13 : decode cX12_image 13 = .ok (.iload_n 1, 1) := by decide +kernel
theorem dX12_image_14 : decode cX12_image 14 = .ok (.aload_n 0, 1) := by decide +kernel
theorem dX12_image_15 : decode cX12_image 15 = .ok (.getfield 9, 3) := by decide +kernel
theorem dX12_image_18 : decode cX12_image 18 = .ok (.iload_n 1, 1) := by decide +kernel
theorem dX12_image_19 : decode cX12_image 19 = .ok (.iaload, 1) := by decide +kernel
theorem dX12_image_20 : decode cX12_image 20 = .ok (.iastore, 1) := by decide +kernel
theorem dX12_image_21 : decode cX12_image 21 = .ok (.iinc 1 1, 3) := by decide +kernel
theorem dX12_image_24 : decode cX12_image 24 = .ok (.goto (-22), 3) := by decide +kernel
theorem dX12_image_27 : decode cX12_image 27 = .ok (.aload_n 0, 1) := by decide +kernel
theorem dX12_image_28 : decode cX12_image 28 = .ok (.iconst 1, 1) := by decide +kernel
theorem dX12_image_29 : decode cX12_image 29 = .ok (.putfield 319, 3) := by decide +kernel
theorem dX12_image_32 : decode cX12_image 32 = .ok (.aload_n 0, 1) := by decide +kernel
theorem dX12_image_33 : decode cX12_image 33 = .ok (.getfield 9, 3) := by decide +kernel
theorem dX12_image_36 : decode cX12_image 36 = .ok (.iconst 0, 1) := by decide +kernel
theorem dX12_image_37 : decode cX12_image 37 = .ok (.iaload, 1) := by decide +kernel
theorem dX12_image_38 : decode cX12_image 38 = .ok (.ireturn, 1) := by decide +kernel
theorem dX12_undo_0 : decode cX12_undo 0 = .ok (.aload_n 0, 1) := by decide +kernel
theorem dX12_undo_1 : decode cX12_undo 1 = .ok (.getfield 319, 3) := by decide +kernel
theorem dX12_undo_4 : decode cX12_undo 4 = .ok (.ifCond .ne 6, 3) := by decide +kernel
theorem dX12_undo_7 : decode cX12_undo 7 = .ok (.bipush (-3), 2) := by decide +kernel
theorem dX12_undo_9 : decode cX12_undo 9 = .ok (.ireturn, 1) := by decide +kernel
theorem dX12_undo_10 : decode cX12_undo 10 = .ok (.iconst 0, 1) := by decide +kernel
theorem dX12_undo_11 : decode cX12_undo 11 = .ok (.istore_n 1, 1) := by decide +kernel
theorem dX12_undo_12 : decode cX12_undo 12 = .ok (.iload_n 1, 1) := by decide +kernel
theorem dX12_undo_13 : decode cX12_undo 13 = .ok (.sipush 939, 3) := by decide +kernel
theorem dX12_undo_16 : decode cX12_undo 16 = .ok (.if_icmp .ge 21, 3) := by decide +kernel
theorem dX12_undo_19 : decode cX12_undo 19 = .ok (.aload_n 0, 1) := by decide +kernel
theorem dX12_undo_20 : decode cX12_undo 20 = .ok (.getfield 9, 3) := by decide +kernel
theorem dX12_undo_23 : decode cX12_undo 23 = .ok (.iload_n 1, 1) := by decide +kernel
theorem dX12_undo_24 : decode cX12_undo 24 = .ok (.aload_n 0, 1) := by decide +kernel
theorem dX12_undo_25 : decode cX12_undo 25 = .ok (.getfield 15, 3) := by decide +kernel
theorem dX12_undo_28 : decode cX12_undo 28 = .ok (.iload_n 1, 1) := by decide +kernel
theorem dX12_undo_29 : decode cX12_undo 29 = .ok (.iaload, 1) := by decide +kernel
theorem dX12_undo_30 : decode cX12_undo 30 = .ok (.iastore, 1) := by decide +kernel
theorem dX12_undo_31 : decode cX12_undo 31 = .ok (.iinc 1 1, 3) := by decide +kernel
theorem dX12_undo_34 : decode cX12_undo 34 = .ok (.goto (-22), 3) := by decide +kernel
theorem dX12_undo_37 : decode cX12_undo 37 = .ok (.aload_n 0, 1) := by decide +kernel
theorem dX12_undo_38 : decode cX12_undo 38 = .ok (.getfield 9, 3) := by decide +kernel
theorem dX12_undo_41 : decode cX12_undo 41 = .ok (.iconst 0, 1) := by decide +kernel
theorem dX12_undo_42 : decode cX12_undo 42 = .ok (.iaload, 1) := by decide +kernel
theorem dX12_undo_43 : decode cX12_undo 43 = .ok (.ireturn, 1) := by decide +kernel
theorem dX12_count_0 : decode cX12_count 0 = .ok (.iload_n 1, 1) := by decide +kernel
theorem dX12_count_1 : decode cX12_count 1 = .ok (.bipush 6, 2) := by decide +kernel
theorem dX12_count_3 : decode cX12_count 3 = .ok (.if_icmp .ne 10, 3) := by decide +kernel
theorem dX12_count_6 : decode cX12_count 6 = .ok (.aload_n 0, 1) := by decide +kernel
theorem dX12_count_7 : decode cX12_count 7 = .ok (.getfield 283, 3) := by decide +kernel
theorem dX12_count_10 : decode cX12_count 10 = .ok (.goto 24, 3) := by decide +kernel
theorem dX12_count_13 : decode cX12_count 13 = .ok (.iload_n 1, 1) := by decide +kernel
theorem dX12_count_14 : decode cX12_count 14 = .ok (.iconst 0, 1) := by decide +kernel
theorem dX12_count_15 : decode cX12_count 15 = .ok (.iconst 5, 1) := by decide +kernel
theorem dX12_count_16 : decode cX12_count 16 = .ok (.invokestatic 56, 3) := by decide +kernel
theorem dX12_count_19 : decode cX12_count 19 = .ok (.ifCond .eq 14, 3) := by decide +kernel
theorem dX12_count_22 : decode cX12_count 22 = .ok (.aload_n 0, 1) := by decide +kernel
theorem dX12_count_23 : decode cX12_count 23 = .ok (.getfield 9, 3) := by decide +kernel
theorem dX12_count_26 : decode cX12_count 26 = .ok (.iconst 0, 1) := by decide +kernel
theorem dX12_count_27 : decode cX12_count 27 = .ok (.iload_n 1, 1) := by decide +kernel
theorem dX12_count_28 : decode cX12_count 28 = .ok (.iadd, 1) := by decide +kernel
theorem dX12_count_29 : decode cX12_count 29 = .ok (.iaload, 1) := by decide +kernel
theorem dX12_count_30 : decode cX12_count 30 = .ok (.goto 4, 3) := by decide +kernel
theorem dX12_count_33 : decode cX12_count 33 = .ok (.iconst (-1), 1) := by decide +kernel
theorem dX12_count_34 : decode cX12_count 34 = .ok (.ireturn, 1) := by decide +kernel
theorem dJ6_bitCount_0f7a4_0 : decode cJ6_bitCount_0f7a4 0 = .ok (.iload_n 0, 1) := by decide +kernel
theorem dJ6_bitCount_0f7a4_1 : decode cJ6_bitCount_0f7a4 1 = .ok (.iload_n 0, 1) := by decide +kernel
theorem dJ6_bitCount_0f7a4_2 : decode cJ6_bitCount_0f7a4 2 = .ok (.iconst 1, 1) := by decide +kernel
theorem dJ6_bitCount_0f7a4_3 : decode cJ6_bitCount_0f7a4 3 = .ok (.iushr, 1) := by decide +kernel
theorem dJ6_bitCount_0f7a4_4 : decode cJ6_bitCount_0f7a4 4 = .ok (.ldc_w 265, 3) := by decide +kernel
theorem dJ6_bitCount_0f7a4_7 : decode cJ6_bitCount_0f7a4 7 = .ok (.iand, 1) := by decide +kernel
theorem dJ6_bitCount_0f7a4_8 : decode cJ6_bitCount_0f7a4 8 = .ok (.isub, 1) := by decide +kernel
theorem dJ6_bitCount_0f7a4_9 : decode cJ6_bitCount_0f7a4 9 = .ok (.istore_n 0, 1) := by decide +kernel
theorem dJ6_bitCount_0f7a4_10 : decode cJ6_bitCount_0f7a4 10 = .ok (.iload_n 0, 1) := by decide +kernel
theorem dJ6_bitCount_0f7a4_11 : decode cJ6_bitCount_0f7a4 11 = .ok (.ldc_w 266, 3) := by decide +kernel
theorem dJ6_bitCount_0f7a4_14 : decode cJ6_bitCount_0f7a4 14 = .ok (.iand, 1) := by decide +kernel
theorem dJ6_bitCount_0f7a4_15 : decode cJ6_bitCount_0f7a4 15 = .ok (.iload_n 0, 1) := by decide +kernel
theorem dJ6_bitCount_0f7a4_16 : decode cJ6_bitCount_0f7a4 16 = .ok (.iconst 2, 1) := by decide +kernel
theorem dJ6_bitCount_0f7a4_17 : decode cJ6_bitCount_0f7a4 17 = .ok (.iushr, 1) := by decide +kernel
theorem dJ6_bitCount_0f7a4_18 : decode cJ6_bitCount_0f7a4 18 = .ok (.ldc_w 266, 3) := by decide +kernel
theorem dJ6_bitCount_0f7a4_21 : decode cJ6_bitCount_0f7a4 21 = .ok (.iand, 1) := by decide +kernel
theorem dJ6_bitCount_0f7a4_22 : decode cJ6_bitCount_0f7a4 22 = .ok (.iadd, 1) := by decide +kernel
theorem dJ6_bitCount_0f7a4_23 : decode cJ6_bitCount_0f7a4 23 = .ok (.istore_n 0, 1) := by decide +kernel
theorem dJ6_bitCount_0f7a4_24 : decode cJ6_bitCount_0f7a4 24 = .ok (.iload_n 0, 1) := by decide +kernel
theorem dJ6_bitCount_0f7a4_25 : decode cJ6_bitCount_0f7a4 25 = .ok (.iload_n 0, 1) := by decide +kernel
theorem dJ6_bitCount_0f7a4_26 : decode cJ6_bitCount_0f7a4 26 = .ok (.iconst 4, 1) := by decide +kernel
theorem dJ6_bitCount_0f7a4_27 : decode cJ6_bitCount_0f7a4 27 = .ok (.iushr, 1) := by decide +kernel
theorem dJ6_bitCount_0f7a4_28 : decode cJ6_bitCount_0f7a4 28 = .ok (.iadd, 1) := by decide +kernel
theorem dJ6_bitCount_0f7a4_29 : decode cJ6_bitCount_0f7a4 29 = .ok (.ldc_w 267, 3) := by decide +kernel
theorem dJ6_bitCount_0f7a4_32 : decode cJ6_bitCount_0f7a4 32 = .ok (.iand, 1) := by decide +kernel
theorem dJ6_bitCount_0f7a4_33 : decode cJ6_bitCount_0f7a4 33 = .ok (.istore_n 0, 1) := by decide +kernel
theorem dJ6_bitCount_0f7a4_34 : decode cJ6_bitCount_0f7a4 34 = .ok (.iload_n 0, 1) := by decide +kernel
theorem dJ6_bitCount_0f7a4_35 : decode cJ6_bitCount_0f7a4 35 = .ok (.iload_n 0, 1) := by decide +kernel
theorem dJ6_bitCount_0f7a4_36 : decode cJ6_bitCount_0f7a4 36 = .ok (.bipush 8, 2) := by decide +kernel
theorem dJ6_bitCount_0f7a4_38 : decode cJ6_bitCount_0f7a4 38 = .ok (.iushr, 1) := by decide +kernel
theorem dJ6_bitCount_0f7a4_39 : decode cJ6_bitCount_0f7a4 39 = .ok (.iadd, 1) := by decide +kernel
theorem dJ6_bitCount_0f7a4_40 : decode cJ6_bitCount_0f7a4 40 = .ok (.istore_n 0, 1) := by decide +kernel
theorem dJ6_bitCount_0f7a4_41 : decode cJ6_bitCount_0f7a4 41 = .ok (.iload_n 0, 1) := by decide +kernel
theorem dJ6_bitCount_0f7a4_42 : decode cJ6_bitCount_0f7a4 42 = .ok (.iload_n 0, 1) := by decide +kernel
theorem dJ6_bitCount_0f7a4_43 : decode cJ6_bitCount_0f7a4 43 = .ok (.bipush 16, 2) := by decide +kernel
theorem dJ6_bitCount_0f7a4_45 : decode cJ6_bitCount_0f7a4 45 = .ok (.iushr, 1) := by decide +kernel
theorem dJ6_bitCount_0f7a4_46 : decode cJ6_bitCount_0f7a4 46 = .ok (.iadd, 1) := by decide +kernel
theorem dJ6_bitCount_0f7a4_47 : decode cJ6_bitCount_0f7a4 47 = .ok (.istore_n 0, 1) := by decide +kernel
theorem dJ6_bitCount_0f7a4_48 : decode cJ6_bitCount_0f7a4 48 = .ok (.iload_n 0, 1) := by decide +kernel
theorem dJ6_bitCount_0f7a4_49 : decode cJ6_bitCount_0f7a4 49 = .ok (.bipush 63, 2) := by decide +kernel
theorem dJ6_bitCount_0f7a4_51 : decode cJ6_bitCount_0f7a4 51 = .ok (.iand, 1) := by decide +kernel
theorem dJ6_bitCount_0f7a4_52 : decode cJ6_bitCount_0f7a4 52 = .ok (.ireturn, 1) := by decide +kernel
theorem dJ13_bitCount_95d88_0 : decode cJ13_bitCount_95d88 0 = .ok (.lload_n 0, 1) := by decide +kernel
theorem dJ13_bitCount_95d88_1 : decode cJ13_bitCount_95d88 1 = .ok (.lload_n 0, 1) := by decide +kernel
theorem dJ13_bitCount_95d88_2 : decode cJ13_bitCount_95d88 2 = .ok (.iconst 1, 1) := by decide +kernel
theorem dJ13_bitCount_95d88_3 : decode cJ13_bitCount_95d88 3 = .ok (.lushr, 1) := by decide +kernel
theorem dJ13_bitCount_95d88_4 : decode cJ13_bitCount_95d88 4 = .ok (.ldc2_w 314, 3) := by decide +kernel
theorem dJ13_bitCount_95d88_7 : decode cJ13_bitCount_95d88 7 = .ok (.land, 1) := by decide +kernel
theorem dJ13_bitCount_95d88_8 : decode cJ13_bitCount_95d88 8 = .ok (.lsub, 1) := by decide +kernel
theorem dJ13_bitCount_95d88_9 : decode cJ13_bitCount_95d88 9 = .ok (.lstore_n 0, 1) := by decide +kernel
theorem dJ13_bitCount_95d88_10 : decode cJ13_bitCount_95d88 10 = .ok (.lload_n 0, 1) := by decide +kernel
theorem dJ13_bitCount_95d88_11 : decode cJ13_bitCount_95d88 11 = .ok (.ldc2_w 316, 3) := by decide +kernel
theorem dJ13_bitCount_95d88_14 : decode cJ13_bitCount_95d88 14 = .ok (.land, 1) := by decide +kernel
theorem dJ13_bitCount_95d88_15 : decode cJ13_bitCount_95d88 15 = .ok (.lload_n 0, 1) := by decide +kernel
theorem dJ13_bitCount_95d88_16 : decode cJ13_bitCount_95d88 16 = .ok (.iconst 2, 1) := by decide +kernel
theorem dJ13_bitCount_95d88_17 : decode cJ13_bitCount_95d88 17 = .ok (.lushr, 1) := by decide +kernel
theorem dJ13_bitCount_95d88_18 : decode cJ13_bitCount_95d88 18 = .ok (.ldc2_w 316, 3) := by decide +kernel
theorem dJ13_bitCount_95d88_21 : decode cJ13_bitCount_95d88 21 = .ok (.land, 1) := by decide +kernel
theorem dJ13_bitCount_95d88_22 : decode cJ13_bitCount_95d88 22 = .ok (.ladd, 1) := by decide +kernel
theorem dJ13_bitCount_95d88_23 : decode cJ13_bitCount_95d88 23 = .ok (.lstore_n 0, 1) := by decide +kernel
theorem dJ13_bitCount_95d88_24 : decode cJ13_bitCount_95d88 24 = .ok (.lload_n 0, 1) := by decide +kernel
theorem dJ13_bitCount_95d88_25 : decode cJ13_bitCount_95d88 25 = .ok (.lload_n 0, 1) := by decide +kernel
theorem dJ13_bitCount_95d88_26 : decode cJ13_bitCount_95d88 26 = .ok (.iconst 4, 1) := by decide +kernel
theorem dJ13_bitCount_95d88_27 : decode cJ13_bitCount_95d88 27 = .ok (.lushr, 1) := by decide +kernel
theorem dJ13_bitCount_95d88_28 : decode cJ13_bitCount_95d88 28 = .ok (.ladd, 1) := by decide +kernel
theorem dJ13_bitCount_95d88_29 : decode cJ13_bitCount_95d88 29 = .ok (.ldc2_w 318, 3) := by decide +kernel
theorem dJ13_bitCount_95d88_32 : decode cJ13_bitCount_95d88 32 = .ok (.land, 1) := by decide +kernel
theorem dJ13_bitCount_95d88_33 : decode cJ13_bitCount_95d88 33 = .ok (.lstore_n 0, 1) := by decide +kernel
theorem dJ13_bitCount_95d88_34 : decode cJ13_bitCount_95d88 34 = .ok (.lload_n 0, 1) := by decide +kernel
theorem dJ13_bitCount_95d88_35 : decode cJ13_bitCount_95d88 35 = .ok (.lload_n 0, 1) := by decide +kernel
theorem dJ13_bitCount_95d88_36 : decode cJ13_bitCount_95d88 36 = .ok (.bipush 8, 2) := by decide +kernel
theorem dJ13_bitCount_95d88_38 : decode cJ13_bitCount_95d88 38 = .ok (.lushr, 1) := by decide +kernel
theorem dJ13_bitCount_95d88_39 : decode cJ13_bitCount_95d88 39 = .ok (.ladd, 1) := by decide +kernel
theorem dJ13_bitCount_95d88_40 : decode cJ13_bitCount_95d88 40 = .ok (.lstore_n 0, 1) := by decide +kernel
theorem dJ13_bitCount_95d88_41 : decode cJ13_bitCount_95d88 41 = .ok (.lload_n 0, 1) := by decide +kernel
theorem dJ13_bitCount_95d88_42 : decode cJ13_bitCount_95d88 42 = .ok (.lload_n 0, 1) := by decide +kernel
theorem dJ13_bitCount_95d88_43 : decode cJ13_bitCount_95d88 43 = .ok (.bipush 16, 2) := by decide +kernel
theorem dJ13_bitCount_95d88_45 : decode cJ13_bitCount_95d88 45 = .ok (.lushr, 1) := by decide +kernel
theorem dJ13_bitCount_95d88_46 : decode cJ13_bitCount_95d88 46 = .ok (.ladd, 1) := by decide +kernel
theorem dJ13_bitCount_95d88_47 : decode cJ13_bitCount_95d88 47 = .ok (.lstore_n 0, 1) := by decide +kernel
theorem dJ13_bitCount_95d88_48 : decode cJ13_bitCount_95d88 48 = .ok (.lload_n 0, 1) := by decide +kernel
theorem dJ13_bitCount_95d88_49 : decode cJ13_bitCount_95d88 49 = .ok (.lload_n 0, 1) := by decide +kernel
theorem dJ13_bitCount_95d88_50 : decode cJ13_bitCount_95d88 50 = .ok (.bipush 32, 2) := by decide +kernel
theorem dJ13_bitCount_95d88_52 : decode cJ13_bitCount_95d88 52 = .ok (.lushr, 1) := by decide +kernel
theorem dJ13_bitCount_95d88_53 : decode cJ13_bitCount_95d88 53 = .ok (.ladd, 1) := by decide +kernel
theorem dJ13_bitCount_95d88_54 : decode cJ13_bitCount_95d88 54 = .ok (.lstore_n 0, 1) := by decide +kernel
theorem dJ13_bitCount_95d88_55 : decode cJ13_bitCount_95d88 55 = .ok (.lload_n 0, 1) := by decide +kernel
theorem dJ13_bitCount_95d88_56 : decode cJ13_bitCount_95d88 56 = .ok (.l2i, 1) := by decide +kernel
theorem dJ13_bitCount_95d88_57 : decode cJ13_bitCount_95d88 57 = .ok (.bipush 127, 2) := by decide +kernel
theorem dJ13_bitCount_95d88_59 : decode cJ13_bitCount_95d88 59 = .ok (.iand, 1) := by decide +kernel
theorem dJ13_bitCount_95d88_60 : decode cJ13_bitCount_95d88 60 = .ok (.ireturn, 1) := by decide +kernel
theorem dJ9_floorDiv_7cf53_0 : decode cJ9_floorDiv_7cf53 0 = .ok (.iload_n 0, 1) := by decide +kernel
theorem dJ9_floorDiv_7cf53_1 : decode cJ9_floorDiv_7cf53 1 = .ok (.iload_n 1, 1) := by decide +kernel
theorem dJ9_floorDiv_7cf53_2 : decode cJ9_floorDiv_7cf53 2 = .ok (.idiv, 1) := by decide +kernel
theorem dJ9_floorDiv_7cf53_3 : decode cJ9_floorDiv_7cf53 3 = .ok (.istore_n 2, 1) := by decide +kernel
theorem dJ9_floorDiv_7cf53_4 : decode cJ9_floorDiv_7cf53 4 = .ok (.iload_n 0, 1) := by decide +kernel
theorem dJ9_floorDiv_7cf53_5 : decode cJ9_floorDiv_7cf53 5 = .ok (.iload_n 1, 1) := by decide +kernel
theorem dJ9_floorDiv_7cf53_6 : decode cJ9_floorDiv_7cf53 6 = .ok (.ixor, 1) := by decide +kernel
theorem dJ9_floorDiv_7cf53_7 : decode cJ9_floorDiv_7cf53 7 = .ok (.ifCond .ge 14, 3) := by decide +kernel
theorem dJ9_floorDiv_7cf53_10 : decode cJ9_floorDiv_7cf53 10 = .ok (.iload_n 2, 1) := by decide +kernel
theorem dJ9_floorDiv_7cf53_11 : decode cJ9_floorDiv_7cf53 11 = .ok (.iload_n 1, 1) := by decide +kernel
theorem dJ9_floorDiv_7cf53_12 : decode cJ9_floorDiv_7cf53 12 = .ok (.imul, 1) := by decide +kernel
theorem dJ9_floorDiv_7cf53_13 : decode cJ9_floorDiv_7cf53 13 = .ok (.iload_n 0, 1) := by decide +kernel
theorem dJ9_floorDiv_7cf53_14 : decode cJ9_floorDiv_7cf53 14 = .ok (.if_icmp .eq 7, 3) := by decide +kernel
theorem dJ9_floorDiv_7cf53_17 : decode cJ9_floorDiv_7cf53 17 = .ok (.iload_n 2, 1) := by decide +kernel
theorem dJ9_floorDiv_7cf53_18 : decode cJ9_floorDiv_7cf53 18 = .ok (.iconst 1, 1) := by decide +kernel
theorem dJ9_floorDiv_7cf53_19 : decode cJ9_floorDiv_7cf53 19 = .ok (.isub, 1) := by decide +kernel
theorem dJ9_floorDiv_7cf53_20 : decode cJ9_floorDiv_7cf53 20 = .ok (.ireturn, 1) := by decide +kernel
theorem dJ9_floorDiv_7cf53_21 : decode cJ9_floorDiv_7cf53 21 = .ok (.iload_n 2, 1) := by decide +kernel
theorem dJ9_floorDiv_7cf53_22 : decode cJ9_floorDiv_7cf53 22 = .ok (.ireturn, 1) := by decide +kernel
theorem dJ9_abs_0f7a4_0 : decode cJ9_abs_0f7a4 0 = .ok (.iload_n 0, 1) := by decide +kernel
theorem dJ9_abs_0f7a4_1 : decode cJ9_abs_0f7a4 1 = .ok (.ifCond .ge 8, 3) := by decide +kernel
theorem dJ9_abs_0f7a4_4 : decode cJ9_abs_0f7a4 4 = .ok (.iload_n 0, 1) := by decide +kernel
theorem dJ9_abs_0f7a4_5 : decode cJ9_abs_0f7a4 5 = .ok (.ineg, 1) := by decide +kernel
theorem dJ9_abs_0f7a4_6 : decode cJ9_abs_0f7a4 6 = .ok (.goto 4, 3) := by decide +kernel
theorem dJ9_abs_0f7a4_9 : decode cJ9_abs_0f7a4 9 = .ok (.iload_n 0, 1) := by decide +kernel
theorem dJ9_abs_0f7a4_10 : decode cJ9_abs_0f7a4 10 = .ok (.ireturn, 1) := by decide +kernel
theorem dJ9_max_7cf53_0 : decode cJ9_max_7cf53 0 = .ok (.iload_n 0, 1) := by decide +kernel
theorem dJ9_max_7cf53_1 : decode cJ9_max_7cf53 1 = .ok (.iload_n 1, 1) := by decide +kernel
theorem dJ9_max_7cf53_2 : decode cJ9_max_7cf53 2 = .ok (.if_icmp .lt 7, 3) := by decide +kernel
theorem dJ9_max_7cf53_5 : decode cJ9_max_7cf53 5 = .ok (.iload_n 0, 1) := by decide +kernel
theorem dJ9_max_7cf53_6 : decode cJ9_max_7cf53 6 = .ok (.goto 4, 3) := by decide +kernel
theorem dJ9_max_7cf53_9 : decode cJ9_max_7cf53 9 = .ok (.iload_n 1, 1) := by decide +kernel
theorem dJ9_max_7cf53_10 : decode cJ9_max_7cf53 10 = .ok (.ireturn, 1) := by decide +kernel
theorem dJ9_min_7cf53_0 : decode cJ9_min_7cf53 0 = .ok (.iload_n 0, 1) := by decide +kernel
theorem dJ9_min_7cf53_1 : decode cJ9_min_7cf53 1 = .ok (.iload_n 1, 1) := by decide +kernel
theorem dJ9_min_7cf53_2 : decode cJ9_min_7cf53 2 = .ok (.if_icmp .gt 7, 3) := by decide +kernel
theorem dJ9_min_7cf53_5 : decode cJ9_min_7cf53 5 = .ok (.iload_n 0, 1) := by decide +kernel
theorem dJ9_min_7cf53_6 : decode cJ9_min_7cf53 6 = .ok (.goto 4, 3) := by decide +kernel
theorem dJ9_min_7cf53_9 : decode cJ9_min_7cf53 9 = .ok (.iload_n 1, 1) := by decide +kernel
theorem dJ9_min_7cf53_10 : decode cJ9_min_7cf53 10 = .ok (.ireturn, 1) := by decide +kernel
theorem dJ0_length_8abf5_0 : decode cJ0_length_8abf5 0 = .ok (.aload_n 0, 1) := by decide +kernel
theorem dJ0_length_8abf5_1 : decode cJ0_length_8abf5 1 = .ok (.getfield 9, 3) := by decide +kernel
theorem dJ0_length_8abf5_4 : decode cJ0_length_8abf5 4 = .ok (.arraylength, 1) := by decide +kernel
theorem dJ0_length_8abf5_5 : decode cJ0_length_8abf5 5 = .ok (.aload_n 0, 1) := by decide +kernel
theorem dJ0_length_8abf5_6 : decode cJ0_length_8abf5 6 = .ok (.invokevirtual 335, 3) := by decide +kernel
theorem dJ0_length_8abf5_9 : decode cJ0_length_8abf5 9 = .ok (.ishr, 1) := by decide +kernel
theorem dJ0_length_8abf5_10 : decode cJ0_length_8abf5 10 = .ok (.ireturn, 1) := by decide +kernel
theorem dJ0_charAt_5068e_0 : decode cJ0_charAt_5068e 0 = .ok (.aload_n 0, 1) := by decide +kernel
theorem dJ0_charAt_5068e_1 : decode cJ0_charAt_5068e 1 = .ok (.invokevirtual 492, 3) := by decide +kernel
theorem dJ0_charAt_5068e_4 : decode cJ0_charAt_5068e 4 = .ok (.ifCond .eq 12, 3) := by decide +kernel
theorem dJ0_charAt_5068e_7 : decode cJ0_charAt_5068e 7 = .ok (.aload_n 0, 1) := by decide +kernel
theorem dJ0_charAt_5068e_8 : decode cJ0_charAt_5068e 8 = .ok (.getfield 9, 3) := by decide +kernel
theorem dJ0_charAt_5068e_11 : decode cJ0_charAt_5068e 11 = .ok (.iload_n 1, 1) := by decide +kernel
theorem dJ0_charAt_5068e_12 : decode cJ0_charAt_5068e 12 = .ok (.invokestatic 495, 3) := by decide +kernel
theorem dJ0_charAt_5068e_15 : decode cJ0_charAt_5068e 15 = .ok (.ireturn, 1) := by decide +kernel
theorem dJ0_charAt_5068e_16 : decode cJ0_charAt_5068e 16 = .ok (.aload_n 0, 1) := by decide +kernel
theorem dJ0_charAt_5068e_17 : decode cJ0_charAt_5068e 17 = .ok (.getfield 9, 3) := by decide +kernel
theorem dJ0_charAt_5068e_20 : decode cJ0_charAt_5068e 20 = .ok (.iload_n 1, 1) := by decide +kernel
theorem dJ0_charAt_5068e_21 : decode cJ0_charAt_5068e 21 = .ok (.invokestatic 498, 3) := by decide +kernel
theorem dJ0_charAt_5068e_24 : decode cJ0_charAt_5068e 24 = .ok (.ireturn, 1) := by decide +kernel
theorem dJ0_coder_7d493_0 : decode cJ0_coder_7d493 0 = .ok (.getstatic 38, 3) := by decide +kernel
theorem dJ0_coder_7d493_3 : decode cJ0_coder_7d493 3 = .ok (.ifCond .eq 10, 3) := by decide +kernel
theorem dJ0_coder_7d493_6 : decode cJ0_coder_7d493 6 = .ok (.aload_n 0, 1) := by decide +kernel
theorem dJ0_coder_7d493_7 : decode cJ0_coder_7d493 7 = .ok (.getfield 15, 3) := by decide +kernel
theorem dJ0_coder_7d493_10 : decode cJ0_coder_7d493 10 = .ok (.goto 4, 3) := by decide +kernel
theorem dJ0_coder_7d493_13 : decode cJ0_coder_7d493 13 = .ok (.iconst 1, 1) := by decide +kernel
theorem dJ0_coder_7d493_14 : decode cJ0_coder_7d493 14 = .ok (.ireturn, 1) := by decide +kernel
theorem dJ0_isLatin1_aae02_0 : decode cJ0_isLatin1_aae02 0 = .ok (.getstatic 38, 3) := by decide +kernel
theorem dJ0_isLatin1_aae02_3 : decode cJ0_isLatin1_aae02 3 = .ok (.ifCond .eq 14, 3) := by decide +kernel
theorem dJ0_isLatin1_aae02_6 : decode cJ0_isLatin1_aae02 6 = .ok (.aload_n 0, 1) := by decide +kernel
theorem dJ0_isLatin1_aae02_7 : decode cJ0_isLatin1_aae02 7 = .ok (.getfield 15, 3) := by decide +kernel
theorem dJ0_isLatin1_aae02_10 : decode cJ0_isLatin1_aae02 10 = .ok (.ifCond .ne 7, 3) := by decide +kernel
theorem dJ0_isLatin1_aae02_13 : decode cJ0_isLatin1_aae02 13 = .ok (.iconst 1, 1) := by decide +kernel
theorem dJ0_isLatin1_aae02_14 : decode cJ0_isLatin1_aae02 14 = .ok (.goto 4, 3) := by decide +kernel
theorem dJ0_isLatin1_aae02_17 : decode cJ0_isLatin1_aae02 17 = .ok (.iconst 0, 1) := by decide +kernel
theorem dJ0_isLatin1_aae02_18 : decode cJ0_isLatin1_aae02 18 = .ok (.ireturn, 1) := by decide +kernel
theorem dJ0_checkIndex_df160_0 : decode cJ0_checkIndex_df160 0 = .ok (.iload_n 0, 1) := by decide +kernel
theorem dJ0_checkIndex_df160_1 : decode cJ0_checkIndex_df160 1 = .ok (.iload_n 1, 1) := by decide +kernel
theorem dJ0_checkIndex_df160_2 : decode cJ0_checkIndex_df160 2 = .ok (.getstatic 1053, 3) := by decide +kernel
theorem dJ0_checkIndex_df160_5 : decode cJ0_checkIndex_df160 5 = .ok (.invokestatic 1059, 3) := by decide +kernel
theorem dJ0_checkIndex_df160_8 : decode cJ0_checkIndex_df160 8 = .ok (.pop, 1) := by decide +kernel
theorem dJ0_checkIndex_df160_9 : decode cJ0_checkIndex_df160 9 = .ok (.return_, 1) := by decide +kernel
theorem dJ1_charAt_3b067_0 : decode cJ1_charAt_3b067 0 = .ok (.iload_n 1, 1) := by decide +kernel
theorem dJ1_charAt_3b067_1 : decode cJ1_charAt_3b067 1 = .ok (.aload_n 0, 1) := by decide +kernel
theorem dJ1_charAt_3b067_2 : decode cJ1_charAt_3b067 2 = .ok (.arraylength, 1) := by decide +kernel
theorem dJ1_charAt_3b067_3 : decode cJ1_charAt_3b067 3 = .ok (.invokestatic 9, 3) := by decide +kernel
theorem dJ1_charAt_3b067_6 : decode cJ1_charAt_3b067 6 = .ok (.aload_n 0, 1) := by decide +kernel
theorem dJ1_charAt_3b067_7 : decode cJ1_charAt_3b067 7 = .ok (.iload_n 1, 1) := by decide +kernel
theorem dJ1_charAt_3b067_8 : decode cJ1_charAt_3b067 8 = .ok (.baload, 1) := by decide +kernel
theorem dJ1_charAt_3b067_9 : decode cJ1_charAt_3b067 9 = .ok (.sipush 255, 3) := by decide +kernel
theorem dJ1_charAt_3b067_12 : decode cJ1_charAt_3b067 12 = .ok (.iand, 1) := by decide +kernel
theorem dJ1_charAt_3b067_13 : decode cJ1_charAt_3b067 13 = .ok (.i2c, 1) := by decide +kernel
theorem dJ1_charAt_3b067_14 : decode cJ1_charAt_3b067 14 = .ok (.ireturn, 1) := by decide +kernel
theorem dJ2_getChar_3b067_0 : decode cJ2_getChar_3b067 0 = .ok (.getstatic 44, 3) := by decide +kernel
theorem dJ2_getChar_3b067_3 : decode cJ2_getChar_3b067 3 = .ok (.ifCond .ne 25, 3) := by decide +kernel
theorem dJ2_getChar_3b067_6 : decode cJ2_getChar_3b067 6 = .ok (.iload_n 1, 1) := by decide +kernel
theorem dJ2_getChar_3b067_7 : decode cJ2_getChar_3b067 7 = .ok (.ifCond .lt 11, 3) := by decide +kernel
theorem dJ2_getChar_3b067_10 : decode cJ2_getChar_3b067 10 = .ok (.iload_n 1, 1) := by decide +kernel
theorem dJ2_getChar_3b067_11 : decode cJ2_getChar_3b067 11 = .ok (.aload_n 0, 1) := by decide +kernel
theorem dJ2_getChar_3b067_12 : decode cJ2_getChar_3b067 12 = .ok (.invokestatic 48, 3) := by decide +kernel
theorem dJ2_getChar_3b067_15 : decode cJ2_getChar_3b067 15 = .ok (.if_icmp .lt 13, 3) := by decide +kernel
theorem dJ2_getChar_3b067_18 : decode cJ2_getChar_3b067 18 = .ok (.new 52, 3) := by decide +kernel
theorem dJ2_getChar_3b067_21 : decode cJ2_getChar_3b067 21 = .ok (.dup, 1) := by decide +kernel
theorem dJ2_getChar_3b067_22 : decode cJ2_getChar_3b067 22 = .ok (.ldc 54, 2) := by decide +kernel
theorem dJ2_getChar_3b067_24 : decode cJ2_getChar_3b067 24 = .ok (.invokespecial 56, 3) := by decide +kernel
theorem dJ2_getChar_3b067_27 : decode cJ2_getChar_3b067 27 = .ok (.athrow, 1) := by decide +kernel
theorem dJ2_getChar_3b067_28 : decode cJ2_getChar_3b067 28 = .ok (.iload_n 1, 1) := by decide +kernel
theorem dJ2_getChar_3b067_29 : decode cJ2_getChar_3b067 29 = .ok (.iconst 1, 1) := by decide +kernel
theorem dJ2_getChar_3b067_30 : decode cJ2_getChar_3b067 30 = .ok (.ishl, 1) := by decide +kernel
theorem dJ2_getChar_3b067_31 : decode cJ2_getChar_3b067 31 = .ok (.istore_n 1, 1) := by decide +kernel
theorem dJ2_getChar_3b067_32 : decode cJ2_getChar_3b067 32 = .ok (.aload_n 0, 1) := by decide +kernel
theorem dJ2_getChar_3b067_33 : decode cJ2_getChar_3b067 33 = .ok (.iload_n 1, 1) := by decide +kernel
theorem dJ2_getChar_3b067_34 : decode cJ2_getChar_3b067 34 = .ok (.iinc 1 1, 3) := by decide +kernel
theorem dJ2_getChar_3b067_37 : decode cJ2_getChar_3b067 37 = .ok (.baload, 1) := by decide +kernel
theorem dJ2_getChar_3b067_38 : decode cJ2_getChar_3b067 38 = .ok (.sipush 255, 3) := by decide +kernel
theorem dJ2_getChar_3b067_41 : decode cJ2_getChar_3b067 41 = .ok (.iand, 1) := by decide +kernel
theorem dJ2_getChar_3b067_42 : decode cJ2_getChar_3b067 42 = .ok (.getstatic 59, 3) := by decide +kernel
theorem dJ2_getChar_3b067_45 : decode cJ2_getChar_3b067 45 = .ok (.ishl, 1) := by decide +kernel
theorem dJ2_getChar_3b067_46 : decode cJ2_getChar_3b067 46 = .ok (.aload_n 0, 1) := by decide +kernel
theorem dJ2_getChar_3b067_47 : decode cJ2_getChar_3b067 47 = .ok (.iload_n 1, 1) := by decide +kernel
theorem dJ2_getChar_3b067_48 : decode cJ2_getChar_3b067 48 = .ok (.baload, 1) := by decide +kernel
theorem dJ2_getChar_3b067_49 : decode cJ2_getChar_3b067 49 = .ok (.sipush 255, 3) := by decide +kernel
theorem dJ2_getChar_3b067_52 : decode cJ2_getChar_3b067 52 = .ok (.iand, 1) := by decide +kernel
theorem dJ2_getChar_3b067_53 : decode cJ2_getChar_3b067 53 = .ok (.getstatic 63, 3) := by decide +kernel
theorem dJ2_getChar_3b067_56 : decode cJ2_getChar_3b067 56 = .ok (.ishl, 1) := by decide +kernel
theorem dJ2_getChar_3b067_57 : decode cJ2_getChar_3b067 57 = .ok (.ior, 1) := by decide +kernel
theorem dJ2_getChar_3b067_58 : decode cJ2_getChar_3b067 58 = .ok (.i2c, 1) := by decide +kernel
theorem dJ2_getChar_3b067_59 : decode cJ2_getChar_3b067 59 = .ok (.ireturn, 1) := by decide +kernel
theorem dJ2_length_9d52b_0 : decode cJ2_length_9d52b 0 = .ok (.aload_n 0, 1) := by decide +kernel
theorem dJ2_length_9d52b_1 : decode cJ2_length_9d52b 1 = .ok (.arraylength, 1) := by decide +kernel
theorem dJ2_length_9d52b_2 : decode cJ2_length_9d52b 2 = .ok (.iconst 1, 1) := by decide +kernel
theorem dJ2_length_9d52b_3 : decode cJ2_length_9d52b 3 = .ok (.ishr, 1) := by decide +kernel
theorem dJ2_length_9d52b_4 : decode cJ2_length_9d52b 4 = .ok (.ireturn, 1) := by decide +kernel
theorem dJ2_charAt_3b067_0 : decode cJ2_charAt_3b067 0 = .ok (.iload_n 1, 1) := by decide +kernel
theorem dJ2_charAt_3b067_1 : decode cJ2_charAt_3b067 1 = .ok (.aload_n 0, 1) := by decide +kernel
theorem dJ2_charAt_3b067_2 : decode cJ2_charAt_3b067 2 = .ok (.invokestatic 67, 3) := by decide +kernel
theorem dJ2_charAt_3b067_5 : decode cJ2_charAt_3b067 5 = .ok (.aload_n 0, 1) := by decide +kernel
theorem dJ2_charAt_3b067_6 : decode cJ2_charAt_3b067 6 = .ok (.iload_n 1, 1) := by decide +kernel
theorem dJ2_charAt_3b067_7 : decode cJ2_charAt_3b067 7 = .ok (.invokestatic 71, 3) := by decide +kernel
theorem dJ2_charAt_3b067_10 : decode cJ2_charAt_3b067 10 = .ok (.ireturn, 1) := by decide +kernel
theorem dJ2_checkIndex_2214a_0 : decode cJ2_checkIndex_2214a 0 = .ok (.iload_n 0, 1) := by decide +kernel
theorem dJ2_checkIndex_2214a_1 : decode cJ2_checkIndex_2214a 1 = .ok (.aload_n 1, 1) := by decide +kernel
theorem dJ2_checkIndex_2214a_2 : decode cJ2_checkIndex_2214a 2 = .ok (.invokestatic 48, 3) := by decide +kernel
theorem dJ2_checkIndex_2214a_5 : decode cJ2_checkIndex_2214a 5 = .ok (.invokestatic 414, 3) := by decide +kernel
theorem dJ2_checkIndex_2214a_8 : decode cJ2_checkIndex_2214a 8 = .ok (.return_, 1) := by decide +kernel
theorem dJxa1e45_init_da8c8_0 : decode cJxa1e45_init_da8c8 0 = .ok (.aload_n 0, 1) := by decide +kernel
theorem dJxa1e45_init_da8c8_1 : decode cJxa1e45_init_da8c8 1 = .ok (.invokespecial 1, 3) := by decide +kernel
theorem dJxa1e45_init_da8c8_4 : decode cJxa1e45_init_da8c8 4 = .ok (.return_, 1) := by decide +kernel
theorem dJxc12de_init_da8c8_0 : decode cJxc12de_init_da8c8 0 = .ok (.aload_n 0, 1) := by decide +kernel
theorem dJxc12de_init_da8c8_1 : decode cJxc12de_init_da8c8 1 = .ok (.invokespecial 1, 3) := by decide +kernel
theorem dJxc12de_init_da8c8_4 : decode cJxc12de_init_da8c8 4 = .ok (.aload_n 0, 1) := by decide +kernel
theorem dJxc12de_init_da8c8_5 : decode cJxc12de_init_da8c8 5 = .ok (.iconst 0, 1) := by decide +kernel
theorem dJxc12de_init_da8c8_6 : decode cJxc12de_init_da8c8 6 = .ok (.putfield 7, 3) := by decide +kernel
theorem dJxc12de_init_da8c8_9 : decode cJxc12de_init_da8c8 9 = .ok (.return_, 1) := by decide +kernel
theorem dJx4a65c_init_da8c8_0 : decode cJx4a65c_init_da8c8 0 = .ok (.aload_n 0, 1) := by decide +kernel
theorem dJx4a65c_init_da8c8_1 : decode cJx4a65c_init_da8c8 1 = .ok (.invokespecial 1, 3) := by decide +kernel
theorem dJx4a65c_init_da8c8_4 : decode cJx4a65c_init_da8c8 4 = .ok (.aload_n 0, 1) := by decide +kernel
theorem dJx4a65c_init_da8c8_5 : decode cJx4a65c_init_da8c8 5 = .ok (.getstatic 39, 3) := by decide +kernel
theorem dJx4a65c_init_da8c8_8 : decode cJx4a65c_init_da8c8 8 = .ok (.putfield 9, 3) := by decide +kernel
theorem dJx4a65c_init_da8c8_11 : decode cJx4a65c_init_da8c8 11 = .ok (.return_, 1) := by decide +kernel
theorem dJx4a65c_grow_92f84_0 : decode cJx4a65c_grow_92f84 0 = .ok (.aload_n 0, 1) := by decide +kernel
theorem dJx4a65c_grow_92f84_1 : decode cJx4a65c_grow_92f84 1 = .ok (.getfield 9, 3) := by decide +kernel
theorem dJx4a65c_grow_92f84_4 : decode cJx4a65c_grow_92f84 4 = .ok (.arraylength, 1) := by decide +kernel
theorem dJx4a65c_grow_92f84_5 : decode cJx4a65c_grow_92f84 5 = .ok (.istore_n 2, 1) := by decide +kernel
theorem dJx4a65c_grow_92f84_6 : decode cJx4a65c_grow_92f84 6 = .ok (.iload_n 2, 1) := by decide +kernel
theorem dJx4a65c_grow_92f84_7 : decode cJx4a65c_grow_92f84 7 = .ok (.ifCond .gt 13, 3) := by decide +kernel
theorem dJx4a65c_grow_92f84_10 : decode cJx4a65c_grow_92f84 10 = .ok (.aload_n 0, 1) := by decide +kernel
theorem dJx4a65c_grow_92f84_11 : decode cJx4a65c_grow_92f84 11 = .ok (.getfield 9, 3) := by decide +kernel
theorem dJx4a65c_grow_92f84_14 : decode cJx4a65c_grow_92f84 14 = .ok (.getstatic 39, 3) := by decide +kernel
theorem dJx4a65c_grow_92f84_17 : decode cJx4a65c_grow_92f84 17 = .ok (.if_acmp .eq 28, 3) := by decide +kernel
theorem dJx4a65c_grow_92f84_20 : decode cJx4a65c_grow_92f84 20 = .ok (.iload_n 2, 1) := by decide +kernel
theorem dJx4a65c_grow_92f84_21 : decode cJx4a65c_grow_92f84 21 = .ok (.iload_n 1, 1) := by decide +kernel
theorem dJx4a65c_grow_92f84_22 : decode cJx4a65c_grow_92f84 22 = .ok (.iload_n 2, 1) := by decide +kernel
theorem dJx4a65c_grow_92f84_23 : decode cJx4a65c_grow_92f84 23 = .ok (.isub, 1) := by decide +kernel
theorem dJx4a65c_grow_92f84_24 : decode cJx4a65c_grow_92f84 24 = .ok (.iload_n 2, 1) := by decide +kernel
theorem dJx4a65c_grow_92f84_25 : decode cJx4a65c_grow_92f84 25 = .ok (.iconst 1, 1) := by decide +kernel
theorem dJx4a65c_grow_92f84_26 : decode cJx4a65c_grow_92f84 26 = .ok (.ishr, 1) := by decide +kernel
theorem dJx4a65c_grow_92f84_27 : decode cJx4a65c_grow_92f84 27 = .ok (.invokestatic 73, 3) := by decide +kernel
theorem dJx4a65c_grow_92f84_30 : decode cJx4a65c_grow_92f84 30 = .ok (.istore_n 3, 1) := by decide +kernel
theorem dJx4a65c_grow_92f84_31 : decode cJx4a65c_grow_92f84 31 = .ok (.aload_n 0, 1) := by decide +kernel
theorem dJx4a65c_grow_92f84_32 : decode cJx4a65c_grow_92f84 32 = .ok (.aload_n 0, 1) := by decide +kernel
theorem dJx4a65c_grow_92f84_33 : decode cJx4a65c_grow_92f84 33 = .ok (.getfield 9, 3) := by decide +kernel
theorem dJx4a65c_grow_92f84_36 : decode cJx4a65c_grow_92f84 36 = .ok (.iload_n 3, 1) := by decide +kernel
theorem dJx4a65c_grow_92f84_37 : decode cJx4a65c_grow_92f84 37 = .ok (.invokestatic 66, 3) := by decide +kernel
theorem dJx4a65c_grow_92f84_40 : decode cJx4a65c_grow_92f84 40 = .ok (.dup_x1, 1) := by decide +kernel
theorem dJx4a65c_grow_92f84_41 : decode cJx4a65c_grow_92f84 41 = .ok (.putfield 9, 3) := by decide +kernel
theorem dJx4a65c_grow_92f84_44 : decode cJx4a65c_grow_92f84 44 = .ok (.areturn, 1) := by decide +kernel
theorem dJx4a65c_grow_92f84_45 : decode cJx4a65c_grow_92f84 45 = .ok (.aload_n 0, 1) := by decide +kernel
theorem dJx4a65c_grow_92f84_46 : decode cJx4a65c_grow_92f84 46 = .ok (.bipush 10, 2) := by decide +kernel
theorem dJx4a65c_grow_92f84_48 : decode cJx4a65c_grow_92f84 48 = .ok (.iload_n 1, 1) := by decide +kernel
theorem dJx4a65c_grow_92f84_49 : decode cJx4a65c_grow_92f84 49 = .ok (.invokestatic 79, 3) := by decide +kernel
theorem dJx4a65c_grow_92f84_52 : decode cJx4a65c_grow_92f84 52 = .ok (.anewarray 7, 3) := by decide +kernel
theorem dJx4a65c_grow_92f84_55 : decode cJx4a65c_grow_92f84 55 = .ok (.dup_x1, 1) := by decide +kernel
theorem dJx4a65c_grow_92f84_56 : decode cJx4a65c_grow_92f84 56 = .ok (.putfield 9, 3) := by decide +kernel
theorem dJx4a65c_grow_92f84_59 : decode cJx4a65c_grow_92f84 59 = .ok (.areturn, 1) := by decide +kernel
theorem dJx4a65c_grow_d5877_0 : decode cJx4a65c_grow_d5877 0 = .ok (.aload_n 0, 1) := by decide +kernel
theorem dJx4a65c_grow_d5877_1 : decode cJx4a65c_grow_d5877 1 = .ok (.aload_n 0, 1) := by decide +kernel
theorem dJx4a65c_grow_d5877_2 : decode cJx4a65c_grow_d5877 2 = .ok (.getfield 48, 3) := by decide +kernel
theorem dJx4a65c_grow_d5877_5 : decode cJx4a65c_grow_d5877 5 = .ok (.iconst 1, 1) := by decide +kernel
theorem dJx4a65c_grow_d5877_6 : decode cJx4a65c_grow_d5877 6 = .ok (.iadd, 1) := by decide +kernel
theorem dJx4a65c_grow_d5877_7 : decode cJx4a65c_grow_d5877 7 = .ok (.invokevirtual 69, 3) := by decide +kernel
theorem dJx4a65c_grow_d5877_10 : decode cJx4a65c_grow_d5877 10 = .ok (.areturn, 1) := by decide +kernel
theorem dJx4a65c_size_8abf5_0 : decode cJx4a65c_size_8abf5 0 = .ok (.aload_n 0, 1) := by decide +kernel
theorem dJx4a65c_size_8abf5_1 : decode cJx4a65c_size_8abf5 1 = .ok (.getfield 48, 3) := by decide +kernel
theorem dJx4a65c_size_8abf5_4 : decode cJx4a65c_size_8abf5 4 = .ok (.ireturn, 1) := by decide +kernel
theorem dJx4a65c_elementData_915e3_0 : decode cJx4a65c_elementData_915e3 0 = .ok (.aload_n 0, 1) := by decide +kernel
theorem dJx4a65c_elementData_915e3_1 : decode cJx4a65c_elementData_915e3 1 = .ok (.getfield 9, 3) := by decide +kernel
theorem dJx4a65c_elementData_915e3_4 : decode cJx4a65c_elementData_915e3 4 = .ok (.iload_n 1, 1) := by decide +kernel
theorem dJx4a65c_elementData_915e3_5 : decode cJx4a65c_elementData_915e3 5 = .ok (.aaload, 1) := by decide +kernel
theorem dJx4a65c_elementData_915e3_6 : decode cJx4a65c_elementData_915e3 6 = .ok (.areturn, 1) := by decide +kernel
theorem dJx4a65c_get_915e3_0 : decode cJx4a65c_get_915e3 0 = .ok (.iload_n 1, 1) := by decide +kernel
theorem dJx4a65c_get_915e3_1 : decode cJx4a65c_get_915e3 1 = .ok (.aload_n 0, 1) := by decide +kernel
theorem dJx4a65c_get_915e3_2 : decode cJx4a65c_get_915e3 2 = .ok (.getfield 48, 3) := by decide +kernel
theorem dJx4a65c_get_915e3_5 : decode cJx4a65c_get_915e3 5 = .ok (.invokestatic 118, 3) := by decide +kernel
theorem dJx4a65c_get_915e3_8 : decode cJx4a65c_get_915e3 8 = .ok (.pop, 1) := by decide +kernel
theorem dJx4a65c_get_915e3_9 : decode cJx4a65c_get_915e3 9 = .ok (.aload_n 0, 1) := by decide +kernel
theorem dJx4a65c_get_915e3_10 : decode cJx4a65c_get_915e3 10 = .ok (.iload_n 1, 1) := by decide +kernel
theorem dJx4a65c_get_915e3_11 : decode cJx4a65c_get_915e3 11 = .ok (.invokevirtual 123, 3) := by decide +kernel
theorem dJx4a65c_get_915e3_14 : decode cJx4a65c_get_915e3 14 = .ok (.areturn, 1) := by decide +kernel
theorem dJx4a65c_add_72be8_0 : decode cJx4a65c_add_72be8 0 = .ok (.iload_n 3, 1) := by decide +kernel
theorem dJx4a65c_add_72be8_1 : decode cJx4a65c_add_72be8 1 = .ok (.aload_n 2, 1) := by decide +kernel
theorem dJx4a65c_add_72be8_2 : decode cJx4a65c_add_72be8 2 = .ok (.arraylength, 1) := by decide +kernel
theorem dJx4a65c_add_72be8_3 : decode cJx4a65c_add_72be8 3 = .ok (.if_icmp .ne 8, 3) := by decide +kernel
theorem dJx4a65c_add_72be8_6 : decode cJx4a65c_add_72be8 6 = .ok (.aload_n 0, 1) := by decide +kernel
theorem dJx4a65c_add_72be8_7 : decode cJx4a65c_add_72be8 7 = .ok (.invokevirtual 129, 3) := by decide +kernel
theorem dJx4a65c_add_72be8_10 : decode cJx4a65c_add_72be8 10 = .ok (.astore_n 2, 1) := by decide +kernel
theorem dJx4a65c_add_72be8_11 : decode cJx4a65c_add_72be8 11 = .ok (.aload_n 2, 1) := by decide +kernel
theorem dJx4a65c_add_72be8_12 : decode cJx4a65c_add_72be8 12 = .ok (.iload_n 3, 1) := by decide +kernel
theorem dJx4a65c_add_72be8_13 : decode cJx4a65c_add_72be8 13 = .ok (.aload_n 1, 1) := by decide +kernel
theorem dJx4a65c_add_72be8_14 : decode cJx4a65c_add_72be8 14 = .ok (.aastore, 1) := by decide +kernel
theorem dJx4a65c_add_72be8_15 : decode cJx4a65c_add_72be8 15 = .ok (.aload_n 0, 1) := by decide +kernel
theorem dJx4a65c_add_72be8_16 : decode cJx4a65c_add_72be8 16 = .ok (.iload_n 3, 1) := by decide +kernel
theorem dJx4a65c_add_72be8_17 : decode cJx4a65c_add_72be8 17 = .ok (.iconst 1, 1) := by decide +kernel
theorem dJx4a65c_add_72be8_18 : decode cJx4a65c_add_72be8 18 = .ok (.iadd, 1) := by decide +kernel
theorem dJx4a65c_add_72be8_19 : decode cJx4a65c_add_72be8 19 = .ok (.putfield 48, 3) := by decide +kernel
theorem dJx4a65c_add_72be8_22 : decode cJx4a65c_add_72be8 22 = .ok (.return_, 1) := by decide +kernel
theorem dJx4a65c_add_9ea2d_0 : decode cJx4a65c_add_9ea2d 0 = .ok (.aload_n 0, 1) := by decide +kernel
theorem dJx4a65c_add_9ea2d_1 : decode cJx4a65c_add_9ea2d 1 = .ok (.dup, 1) := by decide +kernel
theorem dJx4a65c_add_9ea2d_2 : decode cJx4a65c_add_9ea2d 2 = .ok (.getfield 63, 3) := by decide +kernel
theorem dJx4a65c_add_9ea2d_5 : decode cJx4a65c_add_9ea2d 5 = .ok (.iconst 1, 1) := by decide +kernel
theorem dJx4a65c_add_9ea2d_6 : decode cJx4a65c_add_9ea2d 6 = .ok (.iadd, 1) := by decide +kernel
theorem dJx4a65c_add_9ea2d_7 : decode cJx4a65c_add_9ea2d 7 = .ok (.putfield 63, 3) := by decide +kernel
theorem dJx4a65c_add_9ea2d_10 : decode cJx4a65c_add_9ea2d 10 = .ok (.aload_n 0, 1) := by decide +kernel
theorem dJx4a65c_add_9ea2d_11 : decode cJx4a65c_add_9ea2d 11 = .ok (.aload_n 1, 1) := by decide +kernel
theorem dJx4a65c_add_9ea2d_12 : decode cJx4a65c_add_9ea2d 12 = .ok (.aload_n 0, 1) := by decide +kernel
theorem dJx4a65c_add_9ea2d_13 : decode cJx4a65c_add_9ea2d 13 = .ok (.getfield 9, 3) := by decide +kernel
theorem dJx4a65c_add_9ea2d_16 : decode cJx4a65c_add_9ea2d 16 = .ok (.aload_n 0, 1) := by decide +kernel
theorem dJx4a65c_add_9ea2d_17 : decode cJx4a65c_add_9ea2d 17 = .ok (.getfield 48, 3) := by decide +kernel
theorem dJx4a65c_add_9ea2d_20 : decode cJx4a65c_add_9ea2d 20 = .ok (.invokevirtual 131, 3) := by decide +kernel
theorem dJx4a65c_add_9ea2d_23 : decode cJx4a65c_add_9ea2d 23 = .ok (.iconst 1, 1) := by decide +kernel
theorem dJx4a65c_add_9ea2d_24 : decode cJx4a65c_add_9ea2d 24 = .ok (.ireturn, 1) := by decide +kernel
theorem dJx4a65c_clear_da8c8_0 : decode cJx4a65c_clear_da8c8 0 = .ok (.aload_n 0, 1) := by decide +kernel
theorem dJx4a65c_clear_da8c8_1 : decode cJx4a65c_clear_da8c8 1 = .ok (.dup, 1) := by decide +kernel
theorem dJx4a65c_clear_da8c8_2 : decode cJx4a65c_clear_da8c8 2 = .ok (.getfield 63, 3) := by decide +kernel
theorem dJx4a65c_clear_da8c8_5 : decode cJx4a65c_clear_da8c8 5 = .ok (.iconst 1, 1) := by decide +kernel
theorem dJx4a65c_clear_da8c8_6 : decode cJx4a65c_clear_da8c8 6 = .ok (.iadd, 1) := by decide +kernel
theorem dJx4a65c_clear_da8c8_7 : decode cJx4a65c_clear_da8c8 7 = .ok (.putfield 63, 3) := by decide +kernel
theorem dJx4a65c_clear_da8c8_10 : decode cJx4a65c_clear_da8c8 10 = .ok (.aload_n 0, 1) := by decide +kernel
theorem dJx4a65c_clear_da8c8_11 : decode cJx4a65c_clear_da8c8 11 = .ok (.getfield 9, 3) := by decide +kernel
theorem dJx4a65c_clear_da8c8_14 : decode cJx4a65c_clear_da8c8 14 = .ok (.astore_n 1, 1) := by decide +kernel
theorem dJx4a65c_clear_da8c8_15 : decode cJx4a65c_clear_da8c8 15 = .ok (.aload_n 0, 1) := by decide +kernel
theorem dJx4a65c_clear_da8c8_16 : decode cJx4a65c_clear_da8c8 16 = .ok (.getfield 48, 3) := by decide +kernel
theorem dJx4a65c_clear_da8c8_19 : decode cJx4a65c_clear_da8c8 19 = .ok (.istore_n 2, 1) := by decide +kernel
theorem dJx4a65c_clear_da8c8_20 : decode cJx4a65c_clear_da8c8 20 = .ok (.aload_n 0, 1) := by decide +kernel
theorem dJx4a65c_clear_da8c8_21 : decode cJx4a65c_clear_da8c8 21 = .ok (.iconst 0, 1) := by decide +kernel
theorem dJx4a65c_clear_da8c8_22 : decode cJx4a65c_clear_da8c8 22 = .ok (.dup_x1, 1) := by decide +kernel
theorem dJx4a65c_clear_da8c8_23 : decode cJx4a65c_clear_da8c8 23 = .ok (.putfield 48, 3) := by decide +kernel
theorem dJx4a65c_clear_da8c8_26 : decode cJx4a65c_clear_da8c8 26 = .ok (.istore_n 3, 1) := by decide +kernel
theorem dJx4a65c_clear_da8c8_27 : decode cJx4a65c_clear_da8c8 27 = .ok (.iload_n 3, 1) := by decide +kernel
theorem dJx4a65c_clear_da8c8_28 : decode cJx4a65c_clear_da8c8 28 = .ok (.iload_n 2, 1) := by decide +kernel
theorem dJx4a65c_clear_da8c8_29 : decode cJx4a65c_clear_da8c8 29 = .ok (.if_icmp .ge 13, 3) := by decide +kernel
theorem dJx4a65c_clear_da8c8_32 : decode cJx4a65c_clear_da8c8 32 = .ok (.aload_n 1, 1) := by decide +kernel
theorem dJx4a65c_clear_da8c8_33 : decode cJx4a65c_clear_da8c8 33 = .ok (.iload_n 3, 1) := by decide +kernel
theorem dJx4a65c_clear_da8c8_34 : decode cJx4a65c_clear_da8c8 34 = .ok (.aconst_null, 1) := by decide +kernel
theorem dJx4a65c_clear_da8c8_35 : decode cJx4a65c_clear_da8c8 35 = .ok (.aastore, 1) := by decide +kernel
theorem dJx4a65c_clear_da8c8_36 : decode cJx4a65c_clear_da8c8 36 = .ok (.iinc 3 1, 3) := by decide +kernel
theorem dJx4a65c_clear_da8c8_39 : decode cJx4a65c_clear_da8c8 39 = .ok (.goto (-12), 3) := by decide +kernel
theorem dJx4a65c_clear_da8c8_42 : decode cJx4a65c_clear_da8c8 42 = .ok (.return_, 1) := by decide +kernel
theorem dJ7_copyOf_1904c_0 : decode cJ7_copyOf_1904c 0 = .ok (.aload_n 0, 1) := by decide +kernel
theorem dJ7_copyOf_1904c_1 : decode cJ7_copyOf_1904c 1 = .ok (.iload_n 1, 1) := by decide +kernel
theorem dJ7_copyOf_1904c_2 : decode cJ7_copyOf_1904c 2 = .ok (.aload_n 0, 1) := by decide +kernel
theorem dJ7_copyOf_1904c_3 : decode cJ7_copyOf_1904c 3 = .ok (.invokevirtual 86, 3) := by decide +kernel
theorem dJ7_copyOf_1904c_6 : decode cJ7_copyOf_1904c 6 = .ok (.invokestatic 300, 3) := by decide +kernel
theorem dJ7_copyOf_1904c_9 : decode cJ7_copyOf_1904c 9 = .ok (.areturn, 1) := by decide +kernel
theorem dJ7_copyOf_6403c_0 : decode cJ7_copyOf_6403c 0 = .ok (.aload_n 2, 1) := by decide +kernel
theorem dJ7_copyOf_6403c_1 : decode cJ7_copyOf_6403c 1 = .ok (.ldc 110, 2) := by decide +kernel
theorem dJ7_copyOf_6403c_3 : decode cJ7_copyOf_6403c 3 = .ok (.if_acmp .ne 10, 3) := by decide +kernel
theorem dJ7_copyOf_6403c_6 : decode cJ7_copyOf_6403c 6 = .ok (.iload_n 1, 1) := by decide +kernel
theorem dJ7_copyOf_6403c_7 : decode cJ7_copyOf_6403c 7 = .ok (.anewarray 2, 3) := by decide +kernel
theorem dJ7_copyOf_6403c_10 : decode cJ7_copyOf_6403c 10 = .ok (.goto 14, 3) := by decide +kernel
theorem dJ7_copyOf_6403c_13 : decode cJ7_copyOf_6403c 13 = .ok (.aload_n 2, 1) := by decide +kernel
theorem dJ7_copyOf_6403c_14 : decode cJ7_copyOf_6403c 14 = .ok (.invokevirtual 90, 3) := by decide +kernel
theorem dJ7_copyOf_6403c_17 : decode cJ7_copyOf_6403c 17 = .ok (.iload_n 1, 1) := by decide +kernel
theorem dJ7_copyOf_6403c_18 : decode cJ7_copyOf_6403c 18 = .ok (.invokestatic 95, 3) := by decide +kernel
theorem dJ7_copyOf_6403c_21 : decode cJ7_copyOf_6403c 21 = .ok (.checkcast 110, 3) := by decide +kernel
theorem dJ7_copyOf_6403c_24 : decode cJ7_copyOf_6403c 24 = .ok (.astore_n 3, 1) := by decide +kernel
theorem dJ7_copyOf_6403c_25 : decode cJ7_copyOf_6403c 25 = .ok (.aload_n 0, 1) := by decide +kernel
theorem dJ7_copyOf_6403c_26 : decode cJ7_copyOf_6403c 26 = .ok (.iconst 0, 1) := by decide +kernel
theorem dJ7_copyOf_6403c_27 : decode cJ7_copyOf_6403c 27 = .ok (.aload_n 3, 1) := by decide +kernel
theorem dJ7_copyOf_6403c_28 : decode cJ7_copyOf_6403c 28 = .ok (.iconst 0, 1) := by decide +kernel
theorem dJ7_copyOf_6403c_29 : decode cJ7_copyOf_6403c 29 = .ok (.aload_n 0, 1) := by decide +kernel
theorem dJ7_copyOf_6403c_30 : decode cJ7_copyOf_6403c 30 = .ok (.arraylength, 1) := by decide +kernel
theorem dJ7_copyOf_6403c_31 : decode cJ7_copyOf_6403c 31 = .ok (.iload_n 1, 1) := by decide +kernel
theorem dJ7_copyOf_6403c_32 : decode cJ7_copyOf_6403c 32 = .ok (.invokestatic 304, 3) := by decide +kernel
theorem dJ7_copyOf_6403c_35 : decode cJ7_copyOf_6403c 35 = .ok (.invokestatic 150, 3) := by decide +kernel
theorem dJ7_copyOf_6403c_38 : decode cJ7_copyOf_6403c 38 = .ok (.aload_n 3, 1) := by decide +kernel
theorem dJ7_copyOf_6403c_39 : decode cJ7_copyOf_6403c 39 = .ok (.areturn, 1) := by decide +kernel
theorem dJ15_checkIndex_7cf53_0 : decode cJ15_checkIndex_7cf53 0 = .ok (.iload_n 0, 1) := by decide +kernel
theorem dJ15_checkIndex_7cf53_1 : decode cJ15_checkIndex_7cf53 1 = .ok (.iload_n 1, 1) := by decide +kernel
theorem dJ15_checkIndex_7cf53_2 : decode cJ15_checkIndex_7cf53 2 = .ok (.aconst_null, 1) := by decide +kernel
theorem dJ15_checkIndex_7cf53_3 : decode cJ15_checkIndex_7cf53 3 = .ok (.invokestatic 105, 3) := by decide +kernel
theorem dJ15_checkIndex_7cf53_6 : decode cJ15_checkIndex_7cf53 6 = .ok (.ireturn, 1) := by decide +kernel
theorem dJ8_newLength_cabcc_0 : decode cJ8_newLength_cabcc 0 = .ok (.iload_n 0, 1) := by decide +kernel
theorem dJ8_newLength_cabcc_1 : decode cJ8_newLength_cabcc 1 = .ok (.iload_n 1, 1) := by decide +kernel
theorem dJ8_newLength_cabcc_2 : decode cJ8_newLength_cabcc 2 = .ok (.iload_n 2, 1) := by decide +kernel
theorem dJ8_newLength_cabcc_3 : decode cJ8_newLength_cabcc 3 = .ok (.invokestatic 194, 3) := by decide +kernel
theorem dJ8_newLength_cabcc_6 : decode cJ8_newLength_cabcc 6 = .ok (.iadd, 1) := by decide +kernel
theorem dJ8_newLength_cabcc_7 : decode cJ8_newLength_cabcc 7 = .ok (.istore_n 3, 1) := by decide +kernel
theorem dJ8_newLength_cabcc_8 : decode cJ8_newLength_cabcc 8 = .ok (.iconst 0, 1) := by decide +kernel
theorem dJ8_newLength_cabcc_9 : decode cJ8_newLength_cabcc 9 = .ok (.iload_n 3, 1) := by decide +kernel
theorem dJ8_newLength_cabcc_10 : decode cJ8_newLength_cabcc 10 = .ok (.if_icmp .ge 11, 3) := by decide +kernel
theorem dJ8_newLength_cabcc_13 : decode cJ8_newLength_cabcc 13 = .ok (.iload_n 3, 1) := by decide +kernel
theorem dJ8_newLength_cabcc_14 : decode cJ8_newLength_cabcc 14 = .ok (.ldc 200, 2) := by decide +kernel
theorem dJ8_newLength_cabcc_16 : decode cJ8_newLength_cabcc 16 = .ok (.if_icmp .gt 5, 3) := by decide +kernel
theorem dJ8_newLength_cabcc_19 : decode cJ8_newLength_cabcc 19 = .ok (.iload_n 3, 1) := by decide +kernel
theorem dJ8_newLength_cabcc_20 : decode cJ8_newLength_cabcc 20 = .ok (.ireturn, 1) := by decide +kernel
theorem dJ8_newLength_cabcc_21 : decode cJ8_newLength_cabcc 21 = .ok (.iload_n 0, 1) := by decide +kernel
theorem dJ8_newLength_cabcc_22 : decode cJ8_newLength_cabcc 22 = .ok (.iload_n 1, 1) := by decide +kernel
theorem dJ8_newLength_cabcc_23 : decode cJ8_newLength_cabcc 23 = .ok (.invokestatic 201, 3) := by decide +kernel
theorem dJ8_newLength_cabcc_26 : decode cJ8_newLength_cabcc 26 = .ok (.ireturn, 1) := by decide +kernel
theorem dJ8_hugeLength_7cf53_0 : decode cJ8_hugeLength_7cf53 0 = .ok (.iload_n 0, 1) := by decide +kernel
theorem dJ8_hugeLength_7cf53_1 : decode cJ8_hugeLength_7cf53 1 = .ok (.iload_n 1, 1) := by decide +kernel
theorem dJ8_hugeLength_7cf53_2 : decode cJ8_hugeLength_7cf53 2 = .ok (.iadd, 1) := by decide +kernel
theorem dJ8_hugeLength_7cf53_3 : decode cJ8_hugeLength_7cf53 3 = .ok (.istore_n 2, 1) := by decide +kernel
theorem dJ8_hugeLength_7cf53_4 : decode cJ8_hugeLength_7cf53 4 = .ok (.iload_n 2, 1) := by decide +kernel
theorem dJ8_hugeLength_7cf53_5 : decode cJ8_hugeLength_7cf53 5 = .ok (.ifCond .ge 44, 3) := by decide +kernel
theorem dJ8_hugeLength_7cf53_8 : decode cJ8_hugeLength_7cf53 8 = .ok (.new 204, 3) := by decide +kernel
theorem dJ8_hugeLength_7cf53_11 : decode cJ8_hugeLength_7cf53 11 = .ok (.dup, 1) := by decide +kernel
theorem dJ8_hugeLength_7cf53_12 : decode cJ8_hugeLength_7cf53 12 = .ok (.new 89, 3) := by decide +kernel
theorem dJ8_hugeLength_7cf53_15 : decode cJ8_hugeLength_7cf53 15 = .ok (.dup, 1) := by decide +kernel
theorem dJ8_hugeLength_7cf53_16 : decode cJ8_hugeLength_7cf53 16 = .ok (.invokespecial 91, 3) := by decide +kernel
theorem dJ8_hugeLength_7cf53_19 : decode cJ8_hugeLength_7cf53 19 = .ok (.ldc 206, 2) := by decide +kernel
theorem dJ8_hugeLength_7cf53_21 : decode cJ8_hugeLength_7cf53 21 = .ok (.invokevirtual 94, 3) := by decide +kernel
theorem dJ8_hugeLength_7cf53_24 : decode cJ8_hugeLength_7cf53 24 = .ok (.iload_n 0, 1) := by decide +kernel
theorem dJ8_hugeLength_7cf53_25 : decode cJ8_hugeLength_7cf53 25 = .ok (.invokevirtual 98, 3) := by decide +kernel
theorem dJ8_hugeLength_7cf53_28 : decode cJ8_hugeLength_7cf53 28 = .ok (.ldc 208, 2) := by decide +kernel
theorem dJ8_hugeLength_7cf53_30 : decode cJ8_hugeLength_7cf53 30 = .ok (.invokevirtual 94, 3) := by decide +kernel
theorem dJ8_hugeLength_7cf53_33 : decode cJ8_hugeLength_7cf53 33 = .ok (.iload_n 1, 1) := by decide +kernel
theorem dJ8_hugeLength_7cf53_34 : decode cJ8_hugeLength_7cf53 34 = .ok (.invokevirtual 98, 3) := by decide +kernel
theorem dJ8_hugeLength_7cf53_37 : decode cJ8_hugeLength_7cf53 37 = .ok (.ldc 210, 2) := by decide +kernel
theorem dJ8_hugeLength_7cf53_39 : decode cJ8_hugeLength_7cf53 39 = .ok (.invokevirtual 94, 3) := by decide +kernel
theorem dJ8_hugeLength_7cf53_42 : decode cJ8_hugeLength_7cf53 42 = .ok (.invokevirtual 101, 3) := by decide +kernel
theorem dJ8_hugeLength_7cf53_45 : decode cJ8_hugeLength_7cf53 45 = .ok (.invokespecial 212, 3) := by decide +kernel
theorem dJ8_hugeLength_7cf53_48 : decode cJ8_hugeLength_7cf53 48 = .ok (.athrow, 1) := by decide +kernel
theorem dJ8_hugeLength_7cf53_49 : decode cJ8_hugeLength_7cf53 49 = .ok (.iload_n 2, 1) := by decide +kernel
theorem dJ8_hugeLength_7cf53_50 : decode cJ8_hugeLength_7cf53 50 = .ok (.ldc 200, 2) := by decide +kernel
theorem dJ8_hugeLength_7cf53_52 : decode cJ8_hugeLength_7cf53 52 = .ok (.if_icmp .gt 6, 3) := by decide +kernel
theorem dJ8_hugeLength_7cf53_55 : decode cJ8_hugeLength_7cf53 55 = .ok (.ldc 200, 2) := by decide +kernel
theorem dJ8_hugeLength_7cf53_57 : decode cJ8_hugeLength_7cf53 57 = .ok (.ireturn, 1) := by decide +kernel
theorem dJ8_hugeLength_7cf53_58 : decode cJ8_hugeLength_7cf53 58 = .ok (.iload_n 2, 1) := by decide +kernel
theorem dJ8_hugeLength_7cf53_59 : decode cJ8_hugeLength_7cf53 59 = .ok (.ireturn, 1) := by decide +kernel
theorem dJ3_checkIndex_8e157_0 : decode cJ3_checkIndex_8e157 0 = .ok (.iload_n 0, 1) := by decide +kernel
theorem dJ3_checkIndex_8e157_1 : decode cJ3_checkIndex_8e157 1 = .ok (.ifCond .lt 8, 3) := by decide +kernel
theorem dJ3_checkIndex_8e157_4 : decode cJ3_checkIndex_8e157 4 = .ok (.iload_n 0, 1) := by decide +kernel
theorem dJ3_checkIndex_8e157_5 : decode cJ3_checkIndex_8e157 5 = .ok (.iload_n 1, 1) := by decide +kernel
theorem dJ3_checkIndex_8e157_6 : decode cJ3_checkIndex_8e157 6 = .ok (.if_icmp .lt 10, 3) := by decide +kernel
theorem dJ3_checkIndex_8e157_9 : decode cJ3_checkIndex_8e157 9 = .ok (.aload_n 2, 1) := by decide +kernel
theorem dJ3_checkIndex_8e157_10 : decode cJ3_checkIndex_8e157 10 = .ok (.iload_n 0, 1) := by decide +kernel
theorem dJ3_checkIndex_8e157_11 : decode cJ3_checkIndex_8e157 11 = .ok (.iload_n 1, 1) := by decide +kernel
theorem dJ3_checkIndex_8e157_12 : decode cJ3_checkIndex_8e157 12 = .ok (.invokestatic 95, 3) := by decide +kernel
theorem dJ3_checkIndex_8e157_15 : decode cJ3_checkIndex_8e157 15 = .ok (.athrow, 1) := by decide +kernel
theorem dJ3_checkIndex_8e157_16 : decode cJ3_checkIndex_8e157 16 = .ok (.iload_n 0, 1) := by decide +kernel
theorem dJ3_checkIndex_8e157_17 : decode cJ3_checkIndex_8e157 17 = .ok (.ireturn, 1) := by decide +kernel
theorem dL_law_0 : decode cL_law 0 = .ok (.new 7, 3) := by decide +kernel
theorem dL_law_3 : decode cL_law 3 = .ok (.dup, 1) := by decide +kernel
theorem dL_law_4 : decode cL_law 4 = .ok (.invokespecial 9, 3) := by decide +kernel
theorem dL_law_7 : decode cL_law 7 = .ok (.astore_n 1, 1) := by decide +kernel
theorem dL_law_8 : decode cL_law 8 = .ok (.new 10, 3) := by decide +kernel
theorem dL_law_11 : decode cL_law 11 = .ok (.dup, 1) := by decide +kernel
theorem dL_law_12 : decode cL_law 12 = .ok (.invokespecial 12, 3) := by decide +kernel
theorem dL_law_15 : decode cL_law 15 = .ok (.astore_n 2, 1) := by decide +kernel
theorem dL_law_16 : decode cL_law 16 = .ok (.iconst 0, 1) := by decide +kernel
theorem dL_law_17 : decode cL_law 17 = .ok (.istore_n 3, 1) := by decide +kernel
theorem dL_law_18 : decode cL_law 18 = .ok (.iload_n 3, 1) := by decide +kernel
theorem dL_law_19 : decode cL_law 19 = .ok (.aload_n 0, 1) := by decide +kernel
theorem dL_law_20 : decode cL_law 20 = .ok (.arraylength, 1) := by decide +kernel
theorem dL_law_21 : decode cL_law 21 = .ok (.bipush 6, 2) := by decide +kernel
theorem dL_law_23 : decode cL_law 23 = .ok (.isub, 1) := by decide +kernel
theorem dL_law_24 : decode cL_law 24 = .ok (.if_icmp .gt 1136, 3) := by decide +kernel
theorem dL_law_27 : decode cL_law 27 = .ok (.aload_n 0, 1) := by decide +kernel
theorem dL_law_28 : decode cL_law 28 = .ok (.iload_n 3, 1) := by decide +kernel
theorem dL_law_29 : decode cL_law 29 = .ok (.iaload, 1) := by decide +kernel
theorem dL_law_30 : decode cL_law 30 = .ok (.bipush 63, 2) := by decide +kernel
theorem dL_law_32 : decode cL_law 32 = .ok (.iand, 1) := by decide +kernel
theorem dL_law_33 : decode cL_law 33 = .ok (.tableswitch 1121 0 33 #[151, 174, 187, 250, 283, 326, 359, 392, 415, 438, 491, 524, 547, 570, 593, 606, 629, 652, 675, 698, 757, 780, 813, 847, 871, 904, 927, 960, 973, 1016, 1039, 1072, 1085, 1098], 151) := by decide +kernel
theorem dL_law_184 : decode cL_law 184 = .ok (.aload_n 1, 1) := by decide +kernel
theorem dL_law_185 : decode cL_law 185 = .ok (.aload_n 0, 1) := by decide +kernel
theorem dL_law_186 : decode cL_law 186 = .ok (.iload_n 3, 1) := by decide +kernel
theorem dL_law_187 : decode cL_law 187 = .ok (.iconst 1, 1) := by decide +kernel
theorem dL_law_188 : decode cL_law 188 = .ok (.iadd, 1) := by decide +kernel
theorem dL_law_189 : decode cL_law 189 = .ok (.iaload, 1) := by decide +kernel
theorem dL_law_190 : decode cL_law 190 = .ok (.invokevirtual 13, 3) := by decide +kernel
theorem dL_law_193 : decode cL_law 193 = .ok (.aload_n 2, 1) := by decide +kernel
theorem dL_law_194 : decode cL_law 194 = .ok (.aload_n 0, 1) := by decide +kernel
theorem dL_law_195 : decode cL_law 195 = .ok (.iload_n 3, 1) := by decide +kernel
theorem dL_law_196 : decode cL_law 196 = .ok (.iconst 1, 1) := by decide +kernel
theorem dL_law_197 : decode cL_law 197 = .ok (.iadd, 1) := by decide +kernel
theorem dL_law_198 : decode cL_law 198 = .ok (.iaload, 1) := by decide +kernel
theorem dL_law_199 : decode cL_law 199 = .ok (.invokevirtual 17, 3) := by decide +kernel
theorem dL_law_202 : decode cL_law 202 = .ok (.if_icmp .eq 952, 3) := by decide +kernel
theorem dL_law_205 : decode cL_law 205 = .ok (.iconst 0, 1) := by decide +kernel
theorem dL_law_206 : decode cL_law 206 = .ok (.ireturn, 1) := by decide +kernel
theorem dL_law_207 : decode cL_law 207 = .ok (.aload_n 1, 1) := by decide +kernel
theorem dL_law_208 : decode cL_law 208 = .ok (.invokevirtual 18, 3) := by decide +kernel
theorem dL_law_211 : decode cL_law 211 = .ok (.aload_n 2, 1) := by decide +kernel
theorem dL_law_212 : decode cL_law 212 = .ok (.invokevirtual 22, 3) := by decide +kernel
theorem dL_law_215 : decode cL_law 215 = .ok (.if_icmp .eq 939, 3) := by decide +kernel
theorem dL_law_218 : decode cL_law 218 = .ok (.iconst 0, 1) := by decide +kernel
theorem dL_law_219 : decode cL_law 219 = .ok (.ireturn, 1) := by decide +kernel
theorem dL_law_220 : decode cL_law 220 = .ok (.aload_n 1, 1) := by decide +kernel
theorem dL_law_221 : decode cL_law 221 = .ok (.aload_n 0, 1) := by decide +kernel
theorem dL_law_222 : decode cL_law 222 = .ok (.iload_n 3, 1) := by decide +kernel
theorem dL_law_223 : decode cL_law 223 = .ok (.iconst 1, 1) := by decide +kernel
theorem dL_law_224 : decode cL_law 224 = .ok (.iadd, 1) := by decide +kernel
theorem dL_law_225 : decode cL_law 225 = .ok (.iaload, 1) := by decide +kernel
theorem dL_law_226 : decode cL_law 226 = .ok (.aload_n 0, 1) := by decide +kernel
theorem dL_law_227 : decode cL_law 227 = .ok (.iload_n 3, 1) := by decide +kernel
theorem dL_law_228 : decode cL_law 228 = .ok (.iconst 2, 1) := by decide +kernel
theorem dL_law_229 : decode cL_law 229 = .ok (.iadd, 1) := by decide +kernel
theorem dL_law_230 : decode cL_law 230 = .ok (.iaload, 1) := by decide +kernel
theorem dL_law_231 : decode cL_law 231 = .ok (.aload_n 0, 1) := by decide +kernel
theorem dL_law_232 : decode cL_law 232 = .ok (.iload_n 3, 1) := by decide +kernel
theorem dL_law_233 : decode cL_law 233 = .ok (.iconst 3, 1) := by decide +kernel
theorem dL_law_234 : decode cL_law 234 = .ok (.iadd, 1) := by decide +kernel
theorem dL_law_235 : decode cL_law 235 = .ok (.iaload, 1) := by decide +kernel
theorem dL_law_236 : decode cL_law 236 = .ok (.aload_n 0, 1) := by decide +kernel
theorem dL_law_237 : decode cL_law 237 = .ok (.iload_n 3, 1) := by decide +kernel
theorem dL_law_238 : decode cL_law 238 = .ok (.iconst 4, 1) := by decide +kernel
theorem dL_law_239 : decode cL_law 239 = .ok (.iadd, 1) := by decide +kernel
theorem dL_law_240 : decode cL_law 240 = .ok (.iaload, 1) := by decide +kernel
theorem dL_law_241 : decode cL_law 241 = .ok (.aload_n 0, 1) := by decide +kernel
theorem dL_law_242 : decode cL_law 242 = .ok (.iload_n 3, 1) := by decide +kernel
theorem dL_law_243 : decode cL_law 243 = .ok (.iconst 5, 1) := by decide +kernel
theorem dL_law_244 : decode cL_law 244 = .ok (.iadd, 1) := by decide +kernel
theorem dL_law_245 : decode cL_law 245 = .ok (.iaload, 1) := by decide +kernel
theorem dL_law_246 : decode cL_law 246 = .ok (.invokevirtual 23, 3) := by decide +kernel
theorem dL_law_249 : decode cL_law 249 = .ok (.aload_n 2, 1) := by decide +kernel
theorem dL_law_250 : decode cL_law 250 = .ok (.aload_n 0, 1) := by decide +kernel
theorem dL_law_251 : decode cL_law 251 = .ok (.iload_n 3, 1) := by decide +kernel
theorem dL_law_252 : decode cL_law 252 = .ok (.iconst 1, 1) := by decide +kernel
theorem dL_law_253 : decode cL_law 253 = .ok (.iadd, 1) := by decide +kernel
theorem dL_law_254 : decode cL_law 254 = .ok (.iaload, 1) := by decide +kernel
theorem dL_law_255 : decode cL_law 255 = .ok (.aload_n 0, 1) := by decide +kernel
theorem dL_law_256 : decode cL_law 256 = .ok (.iload_n 3, 1) := by decide +kernel
theorem dL_law_257 : decode cL_law 257 = .ok (.iconst 2, 1) := by decide +kernel
theorem dL_law_258 : decode cL_law 258 = .ok (.iadd, 1) := by decide +kernel
theorem dL_law_259 : decode cL_law 259 = .ok (.iaload, 1) := by decide +kernel
theorem dL_law_260 : decode cL_law 260 = .ok (.aload_n 0, 1) := by decide +kernel
theorem dL_law_261 : decode cL_law 261 = .ok (.iload_n 3, 1) := by decide +kernel
theorem dL_law_262 : decode cL_law 262 = .ok (.iconst 3, 1) := by decide +kernel
theorem dL_law_263 : decode cL_law 263 = .ok (.iadd, 1) := by decide +kernel
theorem dL_law_264 : decode cL_law 264 = .ok (.iaload, 1) := by decide +kernel
theorem dL_law_265 : decode cL_law 265 = .ok (.aload_n 0, 1) := by decide +kernel
theorem dL_law_266 : decode cL_law 266 = .ok (.iload_n 3, 1) := by decide +kernel
theorem dL_law_267 : decode cL_law 267 = .ok (.iconst 4, 1) := by decide +kernel
theorem dL_law_268 : decode cL_law 268 = .ok (.iadd, 1) := by decide +kernel
theorem dL_law_269 : decode cL_law 269 = .ok (.iaload, 1) := by decide +kernel
theorem dL_law_270 : decode cL_law 270 = .ok (.aload_n 0, 1) := by decide +kernel
theorem dL_law_271 : decode cL_law 271 = .ok (.iload_n 3, 1) := by decide +kernel
theorem dL_law_272 : decode cL_law 272 = .ok (.iconst 5, 1) := by decide +kernel
theorem dL_law_273 : decode cL_law 273 = .ok (.iadd, 1) := by decide +kernel
theorem dL_law_274 : decode cL_law 274 = .ok (.iaload, 1) := by decide +kernel
theorem dL_law_275 : decode cL_law 275 = .ok (.invokevirtual 27, 3) := by decide +kernel
theorem dL_law_278 : decode cL_law 278 = .ok (.if_icmp .eq 876, 3) := by decide +kernel
theorem dL_law_281 : decode cL_law 281 = .ok (.iconst 0, 1) := by decide +kernel
theorem dL_law_282 : decode cL_law 282 = .ok (.ireturn, 1) := by decide +kernel
theorem dL_law_283 : decode cL_law 283 = .ok (.aload_n 1, 1) := by decide +kernel
theorem dL_law_284 : decode cL_law 284 = .ok (.aload_n 0, 1) := by decide +kernel
theorem dL_law_285 : decode cL_law 285 = .ok (.iload_n 3, 1) := by decide +kernel
theorem dL_law_286 : decode cL_law 286 = .ok (.iconst 1, 1) := by decide +kernel
theorem dL_law_287 : decode cL_law 287 = .ok (.iadd, 1) := by decide +kernel
theorem dL_law_288 : decode cL_law 288 = .ok (.iaload, 1) := by decide +kernel
theorem dL_law_289 : decode cL_law 289 = .ok (.aload_n 0, 1) := by decide +kernel
theorem dL_law_290 : decode cL_law 290 = .ok (.iload_n 3, 1) := by decide +kernel
theorem dL_law_291 : decode cL_law 291 = .ok (.iconst 2, 1) := by decide +kernel
theorem dL_law_292 : decode cL_law 292 = .ok (.iadd, 1) := by decide +kernel
theorem dL_law_293 : decode cL_law 293 = .ok (.iaload, 1) := by decide +kernel
theorem dL_law_294 : decode cL_law 294 = .ok (.invokevirtual 28, 3) := by decide +kernel
theorem dL_law_297 : decode cL_law 297 = .ok (.aload_n 2, 1) := by decide +kernel
theorem dL_law_298 : decode cL_law 298 = .ok (.aload_n 0, 1) := by decide +kernel
theorem dL_law_299 : decode cL_law 299 = .ok (.iload_n 3, 1) := by decide +kernel
theorem dL_law_300 : decode cL_law 300 = .ok (.iconst 1, 1) := by decide +kernel
theorem dL_law_301 : decode cL_law 301 = .ok (.iadd, 1) := by decide +kernel
theorem dL_law_302 : decode cL_law 302 = .ok (.iaload, 1) := by decide +kernel
theorem dL_law_303 : decode cL_law 303 = .ok (.aload_n 0, 1) := by decide +kernel
theorem dL_law_304 : decode cL_law 304 = .ok (.iload_n 3, 1) := by decide +kernel
theorem dL_law_305 : decode cL_law 305 = .ok (.iconst 2, 1) := by decide +kernel
theorem dL_law_306 : decode cL_law 306 = .ok (.iadd, 1) := by decide +kernel
theorem dL_law_307 : decode cL_law 307 = .ok (.iaload, 1) := by decide +kernel
theorem dL_law_308 : decode cL_law 308 = .ok (.invokevirtual 32, 3) := by decide +kernel
theorem dL_law_311 : decode cL_law 311 = .ok (.if_icmp .eq 843, 3) := by decide +kernel
theorem dL_law_314 : decode cL_law 314 = .ok (.iconst 0, 1) := by decide +kernel
theorem dL_law_315 : decode cL_law 315 = .ok (.ireturn, 1) := by decide +kernel
theorem dL_law_316 : decode cL_law 316 = .ok (.aload_n 1, 1) := by decide +kernel
theorem dL_law_317 : decode cL_law 317 = .ok (.aload_n 0, 1) := by decide +kernel
theorem dL_law_318 : decode cL_law 318 = .ok (.iload_n 3, 1) := by decide +kernel
theorem dL_law_319 : decode cL_law 319 = .ok (.iconst 1, 1) := by decide +kernel
theorem dL_law_320 : decode cL_law 320 = .ok (.iadd, 1) := by decide +kernel
theorem dL_law_321 : decode cL_law 321 = .ok (.iaload, 1) := by decide +kernel
theorem dL_law_322 : decode cL_law 322 = .ok (.aload_n 0, 1) := by decide +kernel
theorem dL_law_323 : decode cL_law 323 = .ok (.iload_n 3, 1) := by decide +kernel
theorem dL_law_324 : decode cL_law 324 = .ok (.iconst 2, 1) := by decide +kernel
theorem dL_law_325 : decode cL_law 325 = .ok (.iadd, 1) := by decide +kernel
theorem dL_law_326 : decode cL_law 326 = .ok (.iaload, 1) := by decide +kernel
theorem dL_law_327 : decode cL_law 327 = .ok (.aload_n 0, 1) := by decide +kernel
theorem dL_law_328 : decode cL_law 328 = .ok (.iload_n 3, 1) := by decide +kernel
theorem dL_law_329 : decode cL_law 329 = .ok (.iconst 3, 1) := by decide +kernel
theorem dL_law_330 : decode cL_law 330 = .ok (.iadd, 1) := by decide +kernel
theorem dL_law_331 : decode cL_law 331 = .ok (.iaload, 1) := by decide +kernel
theorem dL_law_332 : decode cL_law 332 = .ok (.invokevirtual 33, 3) := by decide +kernel
theorem dL_law_335 : decode cL_law 335 = .ok (.aload_n 2, 1) := by decide +kernel
theorem dL_law_336 : decode cL_law 336 = .ok (.aload_n 0, 1) := by decide +kernel
theorem dL_law_337 : decode cL_law 337 = .ok (.iload_n 3, 1) := by decide +kernel
theorem dL_law_338 : decode cL_law 338 = .ok (.iconst 1, 1) := by decide +kernel
theorem dL_law_339 : decode cL_law 339 = .ok (.iadd, 1) := by decide +kernel
theorem dL_law_340 : decode cL_law 340 = .ok (.iaload, 1) := by decide +kernel
theorem dL_law_341 : decode cL_law 341 = .ok (.aload_n 0, 1) := by decide +kernel
theorem dL_law_342 : decode cL_law 342 = .ok (.iload_n 3, 1) := by decide +kernel
theorem dL_law_343 : decode cL_law 343 = .ok (.iconst 2, 1) := by decide +kernel
theorem dL_law_344 : decode cL_law 344 = .ok (.iadd, 1) := by decide +kernel
theorem dL_law_345 : decode cL_law 345 = .ok (.iaload, 1) := by decide +kernel
theorem dL_law_346 : decode cL_law 346 = .ok (.aload_n 0, 1) := by decide +kernel
theorem dL_law_347 : decode cL_law 347 = .ok (.iload_n 3, 1) := by decide +kernel
theorem dL_law_348 : decode cL_law 348 = .ok (.iconst 3, 1) := by decide +kernel
theorem dL_law_349 : decode cL_law 349 = .ok (.iadd, 1) := by decide +kernel
theorem dL_law_350 : decode cL_law 350 = .ok (.iaload, 1) := by decide +kernel
theorem dL_law_351 : decode cL_law 351 = .ok (.invokevirtual 37, 3) := by decide +kernel
theorem dL_law_354 : decode cL_law 354 = .ok (.if_icmp .eq 800, 3) := by decide +kernel
theorem dL_law_357 : decode cL_law 357 = .ok (.iconst 0, 1) := by decide +kernel
theorem dL_law_358 : decode cL_law 358 = .ok (.ireturn, 1) := by decide +kernel
theorem dL_law_359 : decode cL_law 359 = .ok (.aload_n 1, 1) := by decide +kernel
theorem dL_law_360 : decode cL_law 360 = .ok (.aload_n 0, 1) := by decide +kernel
theorem dL_law_361 : decode cL_law 361 = .ok (.iload_n 3, 1) := by decide +kernel
theorem dL_law_362 : decode cL_law 362 = .ok (.iconst 1, 1) := by decide +kernel
theorem dL_law_363 : decode cL_law 363 = .ok (.iadd, 1) := by decide +kernel
theorem dL_law_364 : decode cL_law 364 = .ok (.iaload, 1) := by decide +kernel
theorem dL_law_365 : decode cL_law 365 = .ok (.aload_n 0, 1) := by decide +kernel
theorem dL_law_366 : decode cL_law 366 = .ok (.iload_n 3, 1) := by decide +kernel
theorem dL_law_367 : decode cL_law 367 = .ok (.iconst 2, 1) := by decide +kernel
theorem dL_law_368 : decode cL_law 368 = .ok (.iadd, 1) := by decide +kernel
theorem dL_law_369 : decode cL_law 369 = .ok (.iaload, 1) := by decide +kernel
theorem dL_law_370 : decode cL_law 370 = .ok (.invokevirtual 38, 3) := by decide +kernel
theorem dL_law_373 : decode cL_law 373 = .ok (.aload_n 2, 1) := by decide +kernel
theorem dL_law_374 : decode cL_law 374 = .ok (.aload_n 0, 1) := by decide +kernel
theorem dL_law_375 : decode cL_law 375 = .ok (.iload_n 3, 1) := by decide +kernel
theorem dL_law_376 : decode cL_law 376 = .ok (.iconst 1, 1) := by decide +kernel
theorem dL_law_377 : decode cL_law 377 = .ok (.iadd, 1) := by decide +kernel
theorem dL_law_378 : decode cL_law 378 = .ok (.iaload, 1) := by decide +kernel
theorem dL_law_379 : decode cL_law 379 = .ok (.aload_n 0, 1) := by decide +kernel
theorem dL_law_380 : decode cL_law 380 = .ok (.iload_n 3, 1) := by decide +kernel
theorem dL_law_381 : decode cL_law 381 = .ok (.iconst 2, 1) := by decide +kernel
theorem dL_law_382 : decode cL_law 382 = .ok (.iadd, 1) := by decide +kernel
theorem dL_law_383 : decode cL_law 383 = .ok (.iaload, 1) := by decide +kernel
theorem dL_law_384 : decode cL_law 384 = .ok (.invokevirtual 41, 3) := by decide +kernel
theorem dL_law_387 : decode cL_law 387 = .ok (.if_icmp .eq 767, 3) := by decide +kernel
theorem dL_law_390 : decode cL_law 390 = .ok (.iconst 0, 1) := by decide +kernel
theorem dL_law_391 : decode cL_law 391 = .ok (.ireturn, 1) := by decide +kernel
theorem dL_law_392 : decode cL_law 392 = .ok (.aload_n 1, 1) := by decide +kernel
theorem dL_law_393 : decode cL_law 393 = .ok (.aload_n 0, 1) := by decide +kernel
theorem dL_law_394 : decode cL_law 394 = .ok (.iload_n 3, 1) := by decide +kernel
theorem dL_law_395 : decode cL_law 395 = .ok (.iconst 1, 1) := by decide +kernel
theorem dL_law_396 : decode cL_law 396 = .ok (.iadd, 1) := by decide +kernel
theorem dL_law_397 : decode cL_law 397 = .ok (.iaload, 1) := by decide +kernel
theorem dL_law_398 : decode cL_law 398 = .ok (.aload_n 0, 1) := by decide +kernel
theorem dL_law_399 : decode cL_law 399 = .ok (.iload_n 3, 1) := by decide +kernel
theorem dL_law_400 : decode cL_law 400 = .ok (.iconst 2, 1) := by decide +kernel
theorem dL_law_401 : decode cL_law 401 = .ok (.iadd, 1) := by decide +kernel
theorem dL_law_402 : decode cL_law 402 = .ok (.iaload, 1) := by decide +kernel
theorem dL_law_403 : decode cL_law 403 = .ok (.invokevirtual 42, 3) := by decide +kernel
theorem dL_law_406 : decode cL_law 406 = .ok (.aload_n 2, 1) := by decide +kernel
theorem dL_law_407 : decode cL_law 407 = .ok (.aload_n 0, 1) := by decide +kernel
theorem dL_law_408 : decode cL_law 408 = .ok (.iload_n 3, 1) := by decide +kernel
theorem dL_law_409 : decode cL_law 409 = .ok (.iconst 1, 1) := by decide +kernel
theorem dL_law_410 : decode cL_law 410 = .ok (.iadd, 1) := by decide +kernel
theorem dL_law_411 : decode cL_law 411 = .ok (.iaload, 1) := by decide +kernel
theorem dL_law_412 : decode cL_law 412 = .ok (.aload_n 0, 1) := by decide +kernel
theorem dL_law_413 : decode cL_law 413 = .ok (.iload_n 3, 1) := by decide +kernel
theorem dL_law_414 : decode cL_law 414 = .ok (.iconst 2, 1) := by decide +kernel
theorem dL_law_415 : decode cL_law 415 = .ok (.iadd, 1) := by decide +kernel
theorem dL_law_416 : decode cL_law 416 = .ok (.iaload, 1) := by decide +kernel
theorem dL_law_417 : decode cL_law 417 = .ok (.invokevirtual 45, 3) := by decide +kernel
theorem dL_law_420 : decode cL_law 420 = .ok (.if_icmp .eq 734, 3) := by decide +kernel
theorem dL_law_423 : decode cL_law 423 = .ok (.iconst 0, 1) := by decide +kernel
theorem dL_law_424 : decode cL_law 424 = .ok (.ireturn, 1) := by decide +kernel
theorem dL_law_425 : decode cL_law 425 = .ok (.aload_n 1, 1) := by decide +kernel
theorem dL_law_426 : decode cL_law 426 = .ok (.aload_n 0, 1) := by decide +kernel
theorem dL_law_427 : decode cL_law 427 = .ok (.iload_n 3, 1) := by decide +kernel
theorem dL_law_428 : decode cL_law 428 = .ok (.iconst 1, 1) := by decide +kernel
theorem dL_law_429 : decode cL_law 429 = .ok (.iadd, 1) := by decide +kernel
theorem dL_law_430 : decode cL_law 430 = .ok (.iaload, 1) := by decide +kernel
theorem dL_law_431 : decode cL_law 431 = .ok (.invokevirtual 46, 3) := by decide +kernel
theorem dL_law_434 : decode cL_law 434 = .ok (.aload_n 2, 1) := by decide +kernel
theorem dL_law_435 : decode cL_law 435 = .ok (.aload_n 0, 1) := by decide +kernel
theorem dL_law_436 : decode cL_law 436 = .ok (.iload_n 3, 1) := by decide +kernel
theorem dL_law_437 : decode cL_law 437 = .ok (.iconst 1, 1) := by decide +kernel
theorem dL_law_438 : decode cL_law 438 = .ok (.iadd, 1) := by decide +kernel
theorem dL_law_439 : decode cL_law 439 = .ok (.iaload, 1) := by decide +kernel
theorem dL_law_440 : decode cL_law 440 = .ok (.invokevirtual 49, 3) := by decide +kernel
theorem dL_law_443 : decode cL_law 443 = .ok (.if_icmp .eq 711, 3) := by decide +kernel
theorem dL_law_446 : decode cL_law 446 = .ok (.iconst 0, 1) := by decide +kernel
theorem dL_law_447 : decode cL_law 447 = .ok (.ireturn, 1) := by decide +kernel
theorem dL_law_448 : decode cL_law 448 = .ok (.aload_n 1, 1) := by decide +kernel
theorem dL_law_449 : decode cL_law 449 = .ok (.aload_n 0, 1) := by decide +kernel
theorem dL_law_450 : decode cL_law 450 = .ok (.iload_n 3, 1) := by decide +kernel
theorem dL_law_451 : decode cL_law 451 = .ok (.iconst 1, 1) := by decide +kernel
theorem dL_law_452 : decode cL_law 452 = .ok (.iadd, 1) := by decide +kernel
theorem dL_law_453 : decode cL_law 453 = .ok (.iaload, 1) := by decide +kernel
theorem dL_law_454 : decode cL_law 454 = .ok (.invokevirtual 50, 3) := by decide +kernel
theorem dL_law_457 : decode cL_law 457 = .ok (.aload_n 2, 1) := by decide +kernel
theorem dL_law_458 : decode cL_law 458 = .ok (.aload_n 0, 1) := by decide +kernel
theorem dL_law_459 : decode cL_law 459 = .ok (.iload_n 3, 1) := by decide +kernel
theorem dL_law_460 : decode cL_law 460 = .ok (.iconst 1, 1) := by decide +kernel
theorem dL_law_461 : decode cL_law 461 = .ok (.iadd, 1) := by decide +kernel
theorem dL_law_462 : decode cL_law 462 = .ok (.iaload, 1) := by decide +kernel
theorem dL_law_463 : decode cL_law 463 = .ok (.invokevirtual 53, 3) := by decide +kernel
theorem dL_law_466 : decode cL_law 466 = .ok (.if_icmp .eq 688, 3) := by decide +kernel
theorem dL_law_469 : decode cL_law 469 = .ok (.iconst 0, 1) := by decide +kernel
theorem dL_law_470 : decode cL_law 470 = .ok (.ireturn, 1) := by decide +kernel
theorem dL_law_471 : decode cL_law 471 = .ok (.aload_n 1, 1) := by decide +kernel
theorem dL_law_472 : decode cL_law 472 = .ok (.aload_n 0, 1) := by decide +kernel
theorem dL_law_473 : decode cL_law 473 = .ok (.iload_n 3, 1) := by decide +kernel
theorem dL_law_474 : decode cL_law 474 = .ok (.iconst 1, 1) := by decide +kernel
theorem dL_law_475 : decode cL_law 475 = .ok (.iadd, 1) := by decide +kernel
theorem dL_law_476 : decode cL_law 476 = .ok (.iaload, 1) := by decide +kernel
theorem dL_law_477 : decode cL_law 477 = .ok (.aload_n 0, 1) := by decide +kernel
theorem dL_law_478 : decode cL_law 478 = .ok (.iload_n 3, 1) := by decide +kernel
theorem dL_law_479 : decode cL_law 479 = .ok (.iconst 2, 1) := by decide +kernel
theorem dL_law_480 : decode cL_law 480 = .ok (.iadd, 1) := by decide +kernel
theorem dL_law_481 : decode cL_law 481 = .ok (.iaload, 1) := by decide +kernel
theorem dL_law_482 : decode cL_law 482 = .ok (.aload_n 0, 1) := by decide +kernel
theorem dL_law_483 : decode cL_law 483 = .ok (.iload_n 3, 1) := by decide +kernel
theorem dL_law_484 : decode cL_law 484 = .ok (.iconst 3, 1) := by decide +kernel
theorem dL_law_485 : decode cL_law 485 = .ok (.iadd, 1) := by decide +kernel
theorem dL_law_486 : decode cL_law 486 = .ok (.iaload, 1) := by decide +kernel
theorem dL_law_487 : decode cL_law 487 = .ok (.aload_n 0, 1) := by decide +kernel
theorem dL_law_488 : decode cL_law 488 = .ok (.iload_n 3, 1) := by decide +kernel
theorem dL_law_489 : decode cL_law 489 = .ok (.iconst 4, 1) := by decide +kernel
theorem dL_law_490 : decode cL_law 490 = .ok (.iadd, 1) := by decide +kernel
theorem dL_law_491 : decode cL_law 491 = .ok (.iaload, 1) := by decide +kernel
theorem dL_law_492 : decode cL_law 492 = .ok (.invokevirtual 54, 3) := by decide +kernel
theorem dL_law_495 : decode cL_law 495 = .ok (.aload_n 2, 1) := by decide +kernel
theorem dL_law_496 : decode cL_law 496 = .ok (.aload_n 0, 1) := by decide +kernel
theorem dL_law_497 : decode cL_law 497 = .ok (.iload_n 3, 1) := by decide +kernel
theorem dL_law_498 : decode cL_law 498 = .ok (.iconst 1, 1) := by decide +kernel
theorem dL_law_499 : decode cL_law 499 = .ok (.iadd, 1) := by decide +kernel
theorem dL_law_500 : decode cL_law 500 = .ok (.iaload, 1) := by decide +kernel
theorem dL_law_501 : decode cL_law 501 = .ok (.aload_n 0, 1) := by decide +kernel
theorem dL_law_502 : decode cL_law 502 = .ok (.iload_n 3, 1) := by decide +kernel
theorem dL_law_503 : decode cL_law 503 = .ok (.iconst 2, 1) := by decide +kernel
theorem dL_law_504 : decode cL_law 504 = .ok (.iadd, 1) := by decide +kernel
theorem dL_law_505 : decode cL_law 505 = .ok (.iaload, 1) := by decide +kernel
theorem dL_law_506 : decode cL_law 506 = .ok (.aload_n 0, 1) := by decide +kernel
theorem dL_law_507 : decode cL_law 507 = .ok (.iload_n 3, 1) := by decide +kernel
theorem dL_law_508 : decode cL_law 508 = .ok (.iconst 3, 1) := by decide +kernel
theorem dL_law_509 : decode cL_law 509 = .ok (.iadd, 1) := by decide +kernel
theorem dL_law_510 : decode cL_law 510 = .ok (.iaload, 1) := by decide +kernel
theorem dL_law_511 : decode cL_law 511 = .ok (.aload_n 0, 1) := by decide +kernel
theorem dL_law_512 : decode cL_law 512 = .ok (.iload_n 3, 1) := by decide +kernel
theorem dL_law_513 : decode cL_law 513 = .ok (.iconst 4, 1) := by decide +kernel
theorem dL_law_514 : decode cL_law 514 = .ok (.iadd, 1) := by decide +kernel
theorem dL_law_515 : decode cL_law 515 = .ok (.iaload, 1) := by decide +kernel
theorem dL_law_516 : decode cL_law 516 = .ok (.invokevirtual 58, 3) := by decide +kernel
theorem dL_law_519 : decode cL_law 519 = .ok (.if_icmp .eq 635, 3) := by decide +kernel
theorem dL_law_522 : decode cL_law 522 = .ok (.iconst 0, 1) := by decide +kernel
theorem dL_law_523 : decode cL_law 523 = .ok (.ireturn, 1) := by decide +kernel
theorem dL_law_524 : decode cL_law 524 = .ok (.aload_n 1, 1) := by decide +kernel
theorem dL_law_525 : decode cL_law 525 = .ok (.aload_n 0, 1) := by decide +kernel
theorem dL_law_526 : decode cL_law 526 = .ok (.iload_n 3, 1) := by decide +kernel
theorem dL_law_527 : decode cL_law 527 = .ok (.iconst 1, 1) := by decide +kernel
theorem dL_law_528 : decode cL_law 528 = .ok (.iadd, 1) := by decide +kernel
theorem dL_law_529 : decode cL_law 529 = .ok (.iaload, 1) := by decide +kernel
theorem dL_law_530 : decode cL_law 530 = .ok (.aload_n 0, 1) := by decide +kernel
theorem dL_law_531 : decode cL_law 531 = .ok (.iload_n 3, 1) := by decide +kernel
theorem dL_law_532 : decode cL_law 532 = .ok (.iconst 2, 1) := by decide +kernel
theorem dL_law_533 : decode cL_law 533 = .ok (.iadd, 1) := by decide +kernel
theorem dL_law_534 : decode cL_law 534 = .ok (.iaload, 1) := by decide +kernel
theorem dL_law_535 : decode cL_law 535 = .ok (.invokevirtual 59, 3) := by decide +kernel
theorem dL_law_538 : decode cL_law 538 = .ok (.aload_n 2, 1) := by decide +kernel
theorem dL_law_539 : decode cL_law 539 = .ok (.aload_n 0, 1) := by decide +kernel
theorem dL_law_540 : decode cL_law 540 = .ok (.iload_n 3, 1) := by decide +kernel
theorem dL_law_541 : decode cL_law 541 = .ok (.iconst 1, 1) := by decide +kernel
theorem dL_law_542 : decode cL_law 542 = .ok (.iadd, 1) := by decide +kernel
theorem dL_law_543 : decode cL_law 543 = .ok (.iaload, 1) := by decide +kernel
theorem dL_law_544 : decode cL_law 544 = .ok (.aload_n 0, 1) := by decide +kernel
theorem dL_law_545 : decode cL_law 545 = .ok (.iload_n 3, 1) := by decide +kernel
theorem dL_law_546 : decode cL_law 546 = .ok (.iconst 2, 1) := by decide +kernel
theorem dL_law_547 : decode cL_law 547 = .ok (.iadd, 1) := by decide +kernel
theorem dL_law_548 : decode cL_law 548 = .ok (.iaload, 1) := by decide +kernel
theorem dL_law_549 : decode cL_law 549 = .ok (.invokevirtual 62, 3) := by decide +kernel
theorem dL_law_552 : decode cL_law 552 = .ok (.if_icmp .eq 602, 3) := by decide +kernel
theorem dL_law_555 : decode cL_law 555 = .ok (.iconst 0, 1) := by decide +kernel
theorem dL_law_556 : decode cL_law 556 = .ok (.ireturn, 1) := by decide +kernel
theorem dL_law_557 : decode cL_law 557 = .ok (.aload_n 1, 1) := by decide +kernel
theorem dL_law_558 : decode cL_law 558 = .ok (.aload_n 0, 1) := by decide +kernel
theorem dL_law_559 : decode cL_law 559 = .ok (.iload_n 3, 1) := by decide +kernel
theorem dL_law_560 : decode cL_law 560 = .ok (.iconst 1, 1) := by decide +kernel
theorem dL_law_561 : decode cL_law 561 = .ok (.iadd, 1) := by decide +kernel
theorem dL_law_562 : decode cL_law 562 = .ok (.iaload, 1) := by decide +kernel
theorem dL_law_563 : decode cL_law 563 = .ok (.invokevirtual 63, 3) := by decide +kernel
theorem dL_law_566 : decode cL_law 566 = .ok (.aload_n 2, 1) := by decide +kernel
theorem dL_law_567 : decode cL_law 567 = .ok (.aload_n 0, 1) := by decide +kernel
theorem dL_law_568 : decode cL_law 568 = .ok (.iload_n 3, 1) := by decide +kernel
theorem dL_law_569 : decode cL_law 569 = .ok (.iconst 1, 1) := by decide +kernel
theorem dL_law_570 : decode cL_law 570 = .ok (.iadd, 1) := by decide +kernel
theorem dL_law_571 : decode cL_law 571 = .ok (.iaload, 1) := by decide +kernel
theorem dL_law_572 : decode cL_law 572 = .ok (.invokevirtual 66, 3) := by decide +kernel
theorem dL_law_575 : decode cL_law 575 = .ok (.if_icmp .eq 579, 3) := by decide +kernel
theorem dL_law_578 : decode cL_law 578 = .ok (.iconst 0, 1) := by decide +kernel
theorem dL_law_579 : decode cL_law 579 = .ok (.ireturn, 1) := by decide +kernel
theorem dL_law_580 : decode cL_law 580 = .ok (.aload_n 1, 1) := by decide +kernel
theorem dL_law_581 : decode cL_law 581 = .ok (.aload_n 0, 1) := by decide +kernel
theorem dL_law_582 : decode cL_law 582 = .ok (.iload_n 3, 1) := by decide +kernel
theorem dL_law_583 : decode cL_law 583 = .ok (.iconst 1, 1) := by decide +kernel
theorem dL_law_584 : decode cL_law 584 = .ok (.iadd, 1) := by decide +kernel
theorem dL_law_585 : decode cL_law 585 = .ok (.iaload, 1) := by decide +kernel
theorem dL_law_586 : decode cL_law 586 = .ok (.invokevirtual 67, 3) := by decide +kernel
theorem dL_law_589 : decode cL_law 589 = .ok (.aload_n 2, 1) := by decide +kernel
theorem dL_law_590 : decode cL_law 590 = .ok (.aload_n 0, 1) := by decide +kernel
theorem dL_law_591 : decode cL_law 591 = .ok (.iload_n 3, 1) := by decide +kernel
theorem dL_law_592 : decode cL_law 592 = .ok (.iconst 1, 1) := by decide +kernel
theorem dL_law_593 : decode cL_law 593 = .ok (.iadd, 1) := by decide +kernel
theorem dL_law_594 : decode cL_law 594 = .ok (.iaload, 1) := by decide +kernel
theorem dL_law_595 : decode cL_law 595 = .ok (.invokevirtual 70, 3) := by decide +kernel
theorem dL_law_598 : decode cL_law 598 = .ok (.if_icmp .eq 556, 3) := by decide +kernel
theorem dL_law_601 : decode cL_law 601 = .ok (.iconst 0, 1) := by decide +kernel
theorem dL_law_602 : decode cL_law 602 = .ok (.ireturn, 1) := by decide +kernel
theorem dL_law_603 : decode cL_law 603 = .ok (.aload_n 1, 1) := by decide +kernel
theorem dL_law_604 : decode cL_law 604 = .ok (.aload_n 0, 1) := by decide +kernel
theorem dL_law_605 : decode cL_law 605 = .ok (.iload_n 3, 1) := by decide +kernel
theorem dL_law_606 : decode cL_law 606 = .ok (.iconst 1, 1) := by decide +kernel
theorem dL_law_607 : decode cL_law 607 = .ok (.iadd, 1) := by decide +kernel
theorem dL_law_608 : decode cL_law 608 = .ok (.iaload, 1) := by decide +kernel
theorem dL_law_609 : decode cL_law 609 = .ok (.invokevirtual 71, 3) := by decide +kernel
theorem dL_law_612 : decode cL_law 612 = .ok (.aload_n 2, 1) := by decide +kernel
theorem dL_law_613 : decode cL_law 613 = .ok (.aload_n 0, 1) := by decide +kernel
theorem dL_law_614 : decode cL_law 614 = .ok (.iload_n 3, 1) := by decide +kernel
theorem dL_law_615 : decode cL_law 615 = .ok (.iconst 1, 1) := by decide +kernel
theorem dL_law_616 : decode cL_law 616 = .ok (.iadd, 1) := by decide +kernel
theorem dL_law_617 : decode cL_law 617 = .ok (.iaload, 1) := by decide +kernel
theorem dL_law_618 : decode cL_law 618 = .ok (.invokevirtual 74, 3) := by decide +kernel
theorem dL_law_621 : decode cL_law 621 = .ok (.if_icmp .eq 533, 3) := by decide +kernel
theorem dL_law_624 : decode cL_law 624 = .ok (.iconst 0, 1) := by decide +kernel
theorem dL_law_625 : decode cL_law 625 = .ok (.ireturn, 1) := by decide +kernel
theorem dL_law_626 : decode cL_law 626 = .ok (.aload_n 1, 1) := by decide +kernel
theorem dL_law_627 : decode cL_law 627 = .ok (.invokevirtual 75, 3) := by decide +kernel
theorem dL_law_630 : decode cL_law 630 = .ok (.aload_n 2, 1) := by decide +kernel
theorem dL_law_631 : decode cL_law 631 = .ok (.invokevirtual 78, 3) := by decide +kernel
theorem dL_law_634 : decode cL_law 634 = .ok (.if_icmp .eq 520, 3) := by decide +kernel
theorem dL_law_637 : decode cL_law 637 = .ok (.iconst 0, 1) := by decide +kernel
theorem dL_law_638 : decode cL_law 638 = .ok (.ireturn, 1) := by decide +kernel
theorem dL_law_639 : decode cL_law 639 = .ok (.aload_n 1, 1) := by decide +kernel
theorem dL_law_640 : decode cL_law 640 = .ok (.aload_n 0, 1) := by decide +kernel
theorem dL_law_641 : decode cL_law 641 = .ok (.iload_n 3, 1) := by decide +kernel
theorem dL_law_642 : decode cL_law 642 = .ok (.iconst 1, 1) := by decide +kernel
theorem dL_law_643 : decode cL_law 643 = .ok (.iadd, 1) := by decide +kernel
theorem dL_law_644 : decode cL_law 644 = .ok (.iaload, 1) := by decide +kernel
theorem dL_law_645 : decode cL_law 645 = .ok (.invokevirtual 79, 3) := by decide +kernel
theorem dL_law_648 : decode cL_law 648 = .ok (.aload_n 2, 1) := by decide +kernel
theorem dL_law_649 : decode cL_law 649 = .ok (.aload_n 0, 1) := by decide +kernel
theorem dL_law_650 : decode cL_law 650 = .ok (.iload_n 3, 1) := by decide +kernel
theorem dL_law_651 : decode cL_law 651 = .ok (.iconst 1, 1) := by decide +kernel
theorem dL_law_652 : decode cL_law 652 = .ok (.iadd, 1) := by decide +kernel
theorem dL_law_653 : decode cL_law 653 = .ok (.iaload, 1) := by decide +kernel
theorem dL_law_654 : decode cL_law 654 = .ok (.invokevirtual 82, 3) := by decide +kernel
theorem dL_law_657 : decode cL_law 657 = .ok (.if_icmp .eq 497, 3) := by decide +kernel
theorem dL_law_660 : decode cL_law 660 = .ok (.iconst 0, 1) := by decide +kernel
theorem dL_law_661 : decode cL_law 661 = .ok (.ireturn, 1) := by decide +kernel
theorem dL_law_662 : decode cL_law 662 = .ok (.aload_n 1, 1) := by decide +kernel
theorem dL_law_663 : decode cL_law 663 = .ok (.aload_n 0, 1) := by decide +kernel
theorem dL_law_664 : decode cL_law 664 = .ok (.iload_n 3, 1) := by decide +kernel
theorem dL_law_665 : decode cL_law 665 = .ok (.iconst 1, 1) := by decide +kernel
theorem dL_law_666 : decode cL_law 666 = .ok (.iadd, 1) := by decide +kernel
theorem dL_law_667 : decode cL_law 667 = .ok (.iaload, 1) := by decide +kernel
theorem dL_law_668 : decode cL_law 668 = .ok (.invokevirtual 83, 3) := by decide +kernel
theorem dL_law_671 : decode cL_law 671 = .ok (.aload_n 2, 1) := by decide +kernel
theorem dL_law_672 : decode cL_law 672 = .ok (.aload_n 0, 1) := by decide +kernel
theorem dL_law_673 : decode cL_law 673 = .ok (.iload_n 3, 1) := by decide +kernel
theorem dL_law_674 : decode cL_law 674 = .ok (.iconst 1, 1) := by decide +kernel
theorem dL_law_675 : decode cL_law 675 = .ok (.iadd, 1) := by decide +kernel
theorem dL_law_676 : decode cL_law 676 = .ok (.iaload, 1) := by decide +kernel
theorem dL_law_677 : decode cL_law 677 = .ok (.invokevirtual 86, 3) := by decide +kernel
theorem dL_law_680 : decode cL_law 680 = .ok (.if_icmp .eq 474, 3) := by decide +kernel
theorem dL_law_683 : decode cL_law 683 = .ok (.iconst 0, 1) := by decide +kernel
theorem dL_law_684 : decode cL_law 684 = .ok (.ireturn, 1) := by decide +kernel
theorem dL_law_685 : decode cL_law 685 = .ok (.aload_n 1, 1) := by decide +kernel
theorem dL_law_686 : decode cL_law 686 = .ok (.aload_n 0, 1) := by decide +kernel
theorem dL_law_687 : decode cL_law 687 = .ok (.iload_n 3, 1) := by decide +kernel
theorem dL_law_688 : decode cL_law 688 = .ok (.iconst 1, 1) := by decide +kernel
theorem dL_law_689 : decode cL_law 689 = .ok (.iadd, 1) := by decide +kernel
theorem dL_law_690 : decode cL_law 690 = .ok (.iaload, 1) := by decide +kernel
theorem dL_law_691 : decode cL_law 691 = .ok (.invokevirtual 87, 3) := by decide +kernel
theorem dL_law_694 : decode cL_law 694 = .ok (.aload_n 2, 1) := by decide +kernel
theorem dL_law_695 : decode cL_law 695 = .ok (.aload_n 0, 1) := by decide +kernel
theorem dL_law_696 : decode cL_law 696 = .ok (.iload_n 3, 1) := by decide +kernel
theorem dL_law_697 : decode cL_law 697 = .ok (.iconst 1, 1) := by decide +kernel
theorem dL_law_698 : decode cL_law 698 = .ok (.iadd, 1) := by decide +kernel
theorem dL_law_699 : decode cL_law 699 = .ok (.iaload, 1) := by decide +kernel
theorem dL_law_700 : decode cL_law 700 = .ok (.invokevirtual 90, 3) := by decide +kernel
theorem dL_law_703 : decode cL_law 703 = .ok (.if_icmp .eq 451, 3) := by decide +kernel
theorem dL_law_706 : decode cL_law 706 = .ok (.iconst 0, 1) := by decide +kernel
theorem dL_law_707 : decode cL_law 707 = .ok (.ireturn, 1) := by decide +kernel
theorem dL_law_708 : decode cL_law 708 = .ok (.aload_n 1, 1) := by decide +kernel
theorem dL_law_709 : decode cL_law 709 = .ok (.aload_n 0, 1) := by decide +kernel
theorem dL_law_710 : decode cL_law 710 = .ok (.iload_n 3, 1) := by decide +kernel
theorem dL_law_711 : decode cL_law 711 = .ok (.iconst 1, 1) := by decide +kernel
theorem dL_law_712 : decode cL_law 712 = .ok (.iadd, 1) := by decide +kernel
theorem dL_law_713 : decode cL_law 713 = .ok (.iaload, 1) := by decide +kernel
theorem dL_law_714 : decode cL_law 714 = .ok (.invokevirtual 91, 3) := by decide +kernel
theorem dL_law_717 : decode cL_law 717 = .ok (.aload_n 2, 1) := by decide +kernel
theorem dL_law_718 : decode cL_law 718 = .ok (.aload_n 0, 1) := by decide +kernel
theorem dL_law_719 : decode cL_law 719 = .ok (.iload_n 3, 1) := by decide +kernel
theorem dL_law_720 : decode cL_law 720 = .ok (.iconst 1, 1) := by decide +kernel
theorem dL_law_721 : decode cL_law 721 = .ok (.iadd, 1) := by decide +kernel
theorem dL_law_722 : decode cL_law 722 = .ok (.iaload, 1) := by decide +kernel
theorem dL_law_723 : decode cL_law 723 = .ok (.invokevirtual 94, 3) := by decide +kernel
theorem dL_law_726 : decode cL_law 726 = .ok (.if_icmp .eq 428, 3) := by decide +kernel
theorem dL_law_729 : decode cL_law 729 = .ok (.iconst 0, 1) := by decide +kernel
theorem dL_law_730 : decode cL_law 730 = .ok (.ireturn, 1) := by decide +kernel
theorem dL_law_731 : decode cL_law 731 = .ok (.aload_n 1, 1) := by decide +kernel
theorem dL_law_732 : decode cL_law 732 = .ok (.aload_n 0, 1) := by decide +kernel
theorem dL_law_733 : decode cL_law 733 = .ok (.iload_n 3, 1) := by decide +kernel
theorem dL_law_734 : decode cL_law 734 = .ok (.iconst 1, 1) := by decide +kernel
theorem dL_law_735 : decode cL_law 735 = .ok (.iadd, 1) := by decide +kernel
theorem dL_law_736 : decode cL_law 736 = .ok (.iaload, 1) := by decide +kernel
theorem dL_law_737 : decode cL_law 737 = .ok (.aload_n 0, 1) := by decide +kernel
theorem dL_law_738 : decode cL_law 738 = .ok (.iload_n 3, 1) := by decide +kernel
theorem dL_law_739 : decode cL_law 739 = .ok (.iconst 2, 1) := by decide +kernel
theorem dL_law_740 : decode cL_law 740 = .ok (.iadd, 1) := by decide +kernel
theorem dL_law_741 : decode cL_law 741 = .ok (.iaload, 1) := by decide +kernel
theorem dL_law_742 : decode cL_law 742 = .ok (.aload_n 0, 1) := by decide +kernel
theorem dL_law_743 : decode cL_law 743 = .ok (.iload_n 3, 1) := by decide +kernel
theorem dL_law_744 : decode cL_law 744 = .ok (.iconst 3, 1) := by decide +kernel
theorem dL_law_745 : decode cL_law 745 = .ok (.iadd, 1) := by decide +kernel
theorem dL_law_746 : decode cL_law 746 = .ok (.iaload, 1) := by decide +kernel
theorem dL_law_747 : decode cL_law 747 = .ok (.ifCond .eq 7, 3) := by decide +kernel
theorem dL_law_750 : decode cL_law 750 = .ok (.iconst 1, 1) := by decide +kernel
theorem dL_law_751 : decode cL_law 751 = .ok (.goto 4, 3) := by decide +kernel
theorem dL_law_754 : decode cL_law 754 = .ok (.iconst 0, 1) := by decide +kernel
theorem dL_law_755 : decode cL_law 755 = .ok (.invokevirtual 95, 3) := by decide +kernel
theorem dL_law_758 : decode cL_law 758 = .ok (.aload_n 2, 1) := by decide +kernel
theorem dL_law_759 : decode cL_law 759 = .ok (.aload_n 0, 1) := by decide +kernel
theorem dL_law_760 : decode cL_law 760 = .ok (.iload_n 3, 1) := by decide +kernel
theorem dL_law_761 : decode cL_law 761 = .ok (.iconst 1, 1) := by decide +kernel
theorem dL_law_762 : decode cL_law 762 = .ok (.iadd, 1) := by decide +kernel
theorem dL_law_763 : decode cL_law 763 = .ok (.iaload, 1) := by decide +kernel
theorem dL_law_764 : decode cL_law 764 = .ok (.aload_n 0, 1) := by decide +kernel
theorem dL_law_765 : decode cL_law 765 = .ok (.iload_n 3, 1) := by decide +kernel
theorem dL_law_766 : decode cL_law 766 = .ok (.iconst 2, 1) := by decide +kernel
theorem dL_law_767 : decode cL_law 767 = .ok (.iadd, 1) := by decide +kernel
theorem dL_law_768 : decode cL_law 768 = .ok (.iaload, 1) := by decide +kernel
theorem dL_law_769 : decode cL_law 769 = .ok (.aload_n 0, 1) := by decide +kernel
theorem dL_law_770 : decode cL_law 770 = .ok (.iload_n 3, 1) := by decide +kernel
theorem dL_law_771 : decode cL_law 771 = .ok (.iconst 3, 1) := by decide +kernel
theorem dL_law_772 : decode cL_law 772 = .ok (.iadd, 1) := by decide +kernel
theorem dL_law_773 : decode cL_law 773 = .ok (.iaload, 1) := by decide +kernel
theorem dL_law_774 : decode cL_law 774 = .ok (.ifCond .eq 7, 3) := by decide +kernel
theorem dL_law_777 : decode cL_law 777 = .ok (.iconst 1, 1) := by decide +kernel
theorem dL_law_778 : decode cL_law 778 = .ok (.goto 4, 3) := by decide +kernel
theorem dL_law_781 : decode cL_law 781 = .ok (.iconst 0, 1) := by decide +kernel
theorem dL_law_782 : decode cL_law 782 = .ok (.invokevirtual 99, 3) := by decide +kernel
theorem dL_law_785 : decode cL_law 785 = .ok (.if_icmp .eq 369, 3) := by decide +kernel
theorem dL_law_788 : decode cL_law 788 = .ok (.iconst 0, 1) := by decide +kernel
theorem dL_law_789 : decode cL_law 789 = .ok (.ireturn, 1) := by decide +kernel
theorem dL_law_790 : decode cL_law 790 = .ok (.aload_n 1, 1) := by decide +kernel
theorem dL_law_791 : decode cL_law 791 = .ok (.aload_n 0, 1) := by decide +kernel
theorem dL_law_792 : decode cL_law 792 = .ok (.iload_n 3, 1) := by decide +kernel
theorem dL_law_793 : decode cL_law 793 = .ok (.iconst 1, 1) := by decide +kernel
theorem dL_law_794 : decode cL_law 794 = .ok (.iadd, 1) := by decide +kernel
theorem dL_law_795 : decode cL_law 795 = .ok (.iaload, 1) := by decide +kernel
theorem dL_law_796 : decode cL_law 796 = .ok (.invokevirtual 100, 3) := by decide +kernel
theorem dL_law_799 : decode cL_law 799 = .ok (.aload_n 2, 1) := by decide +kernel
theorem dL_law_800 : decode cL_law 800 = .ok (.aload_n 0, 1) := by decide +kernel
theorem dL_law_801 : decode cL_law 801 = .ok (.iload_n 3, 1) := by decide +kernel
theorem dL_law_802 : decode cL_law 802 = .ok (.iconst 1, 1) := by decide +kernel
theorem dL_law_803 : decode cL_law 803 = .ok (.iadd, 1) := by decide +kernel
theorem dL_law_804 : decode cL_law 804 = .ok (.iaload, 1) := by decide +kernel
theorem dL_law_805 : decode cL_law 805 = .ok (.invokevirtual 103, 3) := by decide +kernel
theorem dL_law_808 : decode cL_law 808 = .ok (.if_icmp .eq 346, 3) := by decide +kernel
theorem dL_law_811 : decode cL_law 811 = .ok (.iconst 0, 1) := by decide +kernel
theorem dL_law_812 : decode cL_law 812 = .ok (.ireturn, 1) := by decide +kernel
theorem dL_law_813 : decode cL_law 813 = .ok (.aload_n 1, 1) := by decide +kernel
theorem dL_law_814 : decode cL_law 814 = .ok (.aload_n 0, 1) := by decide +kernel
theorem dL_law_815 : decode cL_law 815 = .ok (.iload_n 3, 1) := by decide +kernel
theorem dL_law_816 : decode cL_law 816 = .ok (.iconst 1, 1) := by decide +kernel
theorem dL_law_817 : decode cL_law 817 = .ok (.iadd, 1) := by decide +kernel
theorem dL_law_818 : decode cL_law 818 = .ok (.iaload, 1) := by decide +kernel
theorem dL_law_819 : decode cL_law 819 = .ok (.aload_n 0, 1) := by decide +kernel
theorem dL_law_820 : decode cL_law 820 = .ok (.iload_n 3, 1) := by decide +kernel
theorem dL_law_821 : decode cL_law 821 = .ok (.iconst 2, 1) := by decide +kernel
theorem dL_law_822 : decode cL_law 822 = .ok (.iadd, 1) := by decide +kernel
theorem dL_law_823 : decode cL_law 823 = .ok (.iaload, 1) := by decide +kernel
theorem dL_law_824 : decode cL_law 824 = .ok (.invokevirtual 104, 3) := by decide +kernel
theorem dL_law_827 : decode cL_law 827 = .ok (.aload_n 2, 1) := by decide +kernel
theorem dL_law_828 : decode cL_law 828 = .ok (.aload_n 0, 1) := by decide +kernel
theorem dL_law_829 : decode cL_law 829 = .ok (.iload_n 3, 1) := by decide +kernel
theorem dL_law_830 : decode cL_law 830 = .ok (.iconst 1, 1) := by decide +kernel
theorem dL_law_831 : decode cL_law 831 = .ok (.iadd, 1) := by decide +kernel
theorem dL_law_832 : decode cL_law 832 = .ok (.iaload, 1) := by decide +kernel
theorem dL_law_833 : decode cL_law 833 = .ok (.aload_n 0, 1) := by decide +kernel
theorem dL_law_834 : decode cL_law 834 = .ok (.iload_n 3, 1) := by decide +kernel
theorem dL_law_835 : decode cL_law 835 = .ok (.iconst 2, 1) := by decide +kernel
theorem dL_law_836 : decode cL_law 836 = .ok (.iadd, 1) := by decide +kernel
theorem dL_law_837 : decode cL_law 837 = .ok (.iaload, 1) := by decide +kernel
theorem dL_law_838 : decode cL_law 838 = .ok (.invokevirtual 107, 3) := by decide +kernel
theorem dL_law_841 : decode cL_law 841 = .ok (.if_icmp .eq 313, 3) := by decide +kernel
theorem dL_law_844 : decode cL_law 844 = .ok (.iconst 0, 1) := by decide +kernel
theorem dL_law_845 : decode cL_law 845 = .ok (.ireturn, 1) := by decide +kernel
theorem dL_law_846 : decode cL_law 846 = .ok (.aload_n 1, 1) := by decide +kernel
theorem dL_law_847 : decode cL_law 847 = .ok (.aload_n 0, 1) := by decide +kernel
theorem dL_law_848 : decode cL_law 848 = .ok (.iload_n 3, 1) := by decide +kernel
theorem dL_law_849 : decode cL_law 849 = .ok (.iconst 1, 1) := by decide +kernel
theorem dL_law_850 : decode cL_law 850 = .ok (.iadd, 1) := by decide +kernel
theorem dL_law_851 : decode cL_law 851 = .ok (.iaload, 1) := by decide +kernel
theorem dL_law_852 : decode cL_law 852 = .ok (.aload_n 0, 1) := by decide +kernel
theorem dL_law_853 : decode cL_law 853 = .ok (.iload_n 3, 1) := by decide +kernel
theorem dL_law_854 : decode cL_law 854 = .ok (.iconst 2, 1) := by decide +kernel
theorem dL_law_855 : decode cL_law 855 = .ok (.iadd, 1) := by decide +kernel
theorem dL_law_856 : decode cL_law 856 = .ok (.iaload, 1) := by decide +kernel
theorem dL_law_857 : decode cL_law 857 = .ok (.invokevirtual 108, 3) := by decide +kernel
theorem dL_law_860 : decode cL_law 860 = .ok (.aload_n 2, 1) := by decide +kernel
theorem dL_law_861 : decode cL_law 861 = .ok (.aload_n 0, 1) := by decide +kernel
theorem dL_law_862 : decode cL_law 862 = .ok (.iload_n 3, 1) := by decide +kernel
theorem dL_law_863 : decode cL_law 863 = .ok (.iconst 1, 1) := by decide +kernel
theorem dL_law_864 : decode cL_law 864 = .ok (.iadd, 1) := by decide +kernel
theorem dL_law_865 : decode cL_law 865 = .ok (.iaload, 1) := by decide +kernel
theorem dL_law_866 : decode cL_law 866 = .ok (.aload_n 0, 1) := by decide +kernel
theorem dL_law_867 : decode cL_law 867 = .ok (.iload_n 3, 1) := by decide +kernel
theorem dL_law_868 : decode cL_law 868 = .ok (.iconst 2, 1) := by decide +kernel
theorem dL_law_869 : decode cL_law 869 = .ok (.iadd, 1) := by decide +kernel
theorem dL_law_870 : decode cL_law 870 = .ok (.iaload, 1) := by decide +kernel
theorem dL_law_871 : decode cL_law 871 = .ok (.invokevirtual 112, 3) := by decide +kernel
theorem dL_law_874 : decode cL_law 874 = .ok (.lcmp, 1) := by decide +kernel
theorem dL_law_875 : decode cL_law 875 = .ok (.ifCond .eq 279, 3) := by decide +kernel
theorem dL_law_878 : decode cL_law 878 = .ok (.iconst 0, 1) := by decide +kernel
theorem dL_law_879 : decode cL_law 879 = .ok (.ireturn, 1) := by decide +kernel
theorem dL_law_880 : decode cL_law 880 = .ok (.aload_n 1, 1) := by decide +kernel
theorem dL_law_881 : decode cL_law 881 = .ok (.aload_n 0, 1) := by decide +kernel
theorem dL_law_882 : decode cL_law 882 = .ok (.iload_n 3, 1) := by decide +kernel
theorem dL_law_883 : decode cL_law 883 = .ok (.iconst 1, 1) := by decide +kernel
theorem dL_law_884 : decode cL_law 884 = .ok (.iadd, 1) := by decide +kernel
theorem dL_law_885 : decode cL_law 885 = .ok (.iaload, 1) := by decide +kernel
theorem dL_law_886 : decode cL_law 886 = .ok (.invokevirtual 113, 3) := by decide +kernel
theorem dL_law_889 : decode cL_law 889 = .ok (.aload_n 2, 1) := by decide +kernel
theorem dL_law_890 : decode cL_law 890 = .ok (.aload_n 0, 1) := by decide +kernel
theorem dL_law_891 : decode cL_law 891 = .ok (.iload_n 3, 1) := by decide +kernel
theorem dL_law_892 : decode cL_law 892 = .ok (.iconst 1, 1) := by decide +kernel
theorem dL_law_893 : decode cL_law 893 = .ok (.iadd, 1) := by decide +kernel
theorem dL_law_894 : decode cL_law 894 = .ok (.iaload, 1) := by decide +kernel
theorem dL_law_895 : decode cL_law 895 = .ok (.invokevirtual 117, 3) := by decide +kernel
theorem dL_law_898 : decode cL_law 898 = .ok (.lcmp, 1) := by decide +kernel
theorem dL_law_899 : decode cL_law 899 = .ok (.ifCond .eq 255, 3) := by decide +kernel
theorem dL_law_902 : decode cL_law 902 = .ok (.iconst 0, 1) := by decide +kernel
theorem dL_law_903 : decode cL_law 903 = .ok (.ireturn, 1) := by decide +kernel
theorem dL_law_904 : decode cL_law 904 = .ok (.aload_n 1, 1) := by decide +kernel
theorem dL_law_905 : decode cL_law 905 = .ok (.aload_n 0, 1) := by decide +kernel
theorem dL_law_906 : decode cL_law 906 = .ok (.iload_n 3, 1) := by decide +kernel
theorem dL_law_907 : decode cL_law 907 = .ok (.iconst 1, 1) := by decide +kernel
theorem dL_law_908 : decode cL_law 908 = .ok (.iadd, 1) := by decide +kernel
theorem dL_law_909 : decode cL_law 909 = .ok (.iaload, 1) := by decide +kernel
theorem dL_law_910 : decode cL_law 910 = .ok (.aload_n 0, 1) := by decide +kernel
theorem dL_law_911 : decode cL_law 911 = .ok (.iload_n 3, 1) := by decide +kernel
theorem dL_law_912 : decode cL_law 912 = .ok (.iconst 2, 1) := by decide +kernel
theorem dL_law_913 : decode cL_law 913 = .ok (.iadd, 1) := by decide +kernel
theorem dL_law_914 : decode cL_law 914 = .ok (.iaload, 1) := by decide +kernel
theorem dL_law_915 : decode cL_law 915 = .ok (.invokevirtual 118, 3) := by decide +kernel
theorem dL_law_918 : decode cL_law 918 = .ok (.aload_n 2, 1) := by decide +kernel
theorem dL_law_919 : decode cL_law 919 = .ok (.aload_n 0, 1) := by decide +kernel
theorem dL_law_920 : decode cL_law 920 = .ok (.iload_n 3, 1) := by decide +kernel
theorem dL_law_921 : decode cL_law 921 = .ok (.iconst 1, 1) := by decide +kernel
theorem dL_law_922 : decode cL_law 922 = .ok (.iadd, 1) := by decide +kernel
theorem dL_law_923 : decode cL_law 923 = .ok (.iaload, 1) := by decide +kernel
theorem dL_law_924 : decode cL_law 924 = .ok (.aload_n 0, 1) := by decide +kernel
theorem dL_law_925 : decode cL_law 925 = .ok (.iload_n 3, 1) := by decide +kernel
theorem dL_law_926 : decode cL_law 926 = .ok (.iconst 2, 1) := by decide +kernel
theorem dL_law_927 : decode cL_law 927 = .ok (.iadd, 1) := by decide +kernel
theorem dL_law_928 : decode cL_law 928 = .ok (.iaload, 1) := by decide +kernel
theorem dL_law_929 : decode cL_law 929 = .ok (.invokevirtual 121, 3) := by decide +kernel
theorem dL_law_932 : decode cL_law 932 = .ok (.if_icmp .eq 222, 3) := by decide +kernel
theorem dL_law_935 : decode cL_law 935 = .ok (.iconst 0, 1) := by decide +kernel
theorem dL_law_936 : decode cL_law 936 = .ok (.ireturn, 1) := by decide +kernel
theorem dL_law_937 : decode cL_law 937 = .ok (.aload_n 1, 1) := by decide +kernel
theorem dL_law_938 : decode cL_law 938 = .ok (.aload_n 0, 1) := by decide +kernel
theorem dL_law_939 : decode cL_law 939 = .ok (.iload_n 3, 1) := by decide +kernel
theorem dL_law_940 : decode cL_law 940 = .ok (.iconst 1, 1) := by decide +kernel
theorem dL_law_941 : decode cL_law 941 = .ok (.iadd, 1) := by decide +kernel
theorem dL_law_942 : decode cL_law 942 = .ok (.iaload, 1) := by decide +kernel
theorem dL_law_943 : decode cL_law 943 = .ok (.invokevirtual 122, 3) := by decide +kernel
theorem dL_law_946 : decode cL_law 946 = .ok (.aload_n 2, 1) := by decide +kernel
theorem dL_law_947 : decode cL_law 947 = .ok (.aload_n 0, 1) := by decide +kernel
theorem dL_law_948 : decode cL_law 948 = .ok (.iload_n 3, 1) := by decide +kernel
theorem dL_law_949 : decode cL_law 949 = .ok (.iconst 1, 1) := by decide +kernel
theorem dL_law_950 : decode cL_law 950 = .ok (.iadd, 1) := by decide +kernel
theorem dL_law_951 : decode cL_law 951 = .ok (.iaload, 1) := by decide +kernel
theorem dL_law_952 : decode cL_law 952 = .ok (.invokevirtual 125, 3) := by decide +kernel
theorem dL_law_955 : decode cL_law 955 = .ok (.if_icmp .eq 199, 3) := by decide +kernel
theorem dL_law_958 : decode cL_law 958 = .ok (.iconst 0, 1) := by decide +kernel
theorem dL_law_959 : decode cL_law 959 = .ok (.ireturn, 1) := by decide +kernel
theorem dL_law_960 : decode cL_law 960 = .ok (.aload_n 1, 1) := by decide +kernel
theorem dL_law_961 : decode cL_law 961 = .ok (.aload_n 0, 1) := by decide +kernel
theorem dL_law_962 : decode cL_law 962 = .ok (.iload_n 3, 1) := by decide +kernel
theorem dL_law_963 : decode cL_law 963 = .ok (.iconst 1, 1) := by decide +kernel
theorem dL_law_964 : decode cL_law 964 = .ok (.iadd, 1) := by decide +kernel
theorem dL_law_965 : decode cL_law 965 = .ok (.iaload, 1) := by decide +kernel
theorem dL_law_966 : decode cL_law 966 = .ok (.aload_n 0, 1) := by decide +kernel
theorem dL_law_967 : decode cL_law 967 = .ok (.iload_n 3, 1) := by decide +kernel
theorem dL_law_968 : decode cL_law 968 = .ok (.iconst 2, 1) := by decide +kernel
theorem dL_law_969 : decode cL_law 969 = .ok (.iadd, 1) := by decide +kernel
theorem dL_law_970 : decode cL_law 970 = .ok (.iaload, 1) := by decide +kernel
theorem dL_law_971 : decode cL_law 971 = .ok (.invokevirtual 126, 3) := by decide +kernel
theorem dL_law_974 : decode cL_law 974 = .ok (.aload_n 2, 1) := by decide +kernel
theorem dL_law_975 : decode cL_law 975 = .ok (.aload_n 0, 1) := by decide +kernel
theorem dL_law_976 : decode cL_law 976 = .ok (.iload_n 3, 1) := by decide +kernel
theorem dL_law_977 : decode cL_law 977 = .ok (.iconst 1, 1) := by decide +kernel
theorem dL_law_978 : decode cL_law 978 = .ok (.iadd, 1) := by decide +kernel
theorem dL_law_979 : decode cL_law 979 = .ok (.iaload, 1) := by decide +kernel
theorem dL_law_980 : decode cL_law 980 = .ok (.aload_n 0, 1) := by decide +kernel
theorem dL_law_981 : decode cL_law 981 = .ok (.iload_n 3, 1) := by decide +kernel
theorem dL_law_982 : decode cL_law 982 = .ok (.iconst 2, 1) := by decide +kernel
theorem dL_law_983 : decode cL_law 983 = .ok (.iadd, 1) := by decide +kernel
theorem dL_law_984 : decode cL_law 984 = .ok (.iaload, 1) := by decide +kernel
theorem dL_law_985 : decode cL_law 985 = .ok (.invokevirtual 129, 3) := by decide +kernel
theorem dL_law_988 : decode cL_law 988 = .ok (.if_icmp .eq 166, 3) := by decide +kernel
theorem dL_law_991 : decode cL_law 991 = .ok (.iconst 0, 1) := by decide +kernel
theorem dL_law_992 : decode cL_law 992 = .ok (.ireturn, 1) := by decide +kernel
theorem dL_law_993 : decode cL_law 993 = .ok (.aload_n 1, 1) := by decide +kernel
theorem dL_law_994 : decode cL_law 994 = .ok (.invokevirtual 130, 3) := by decide +kernel
theorem dL_law_997 : decode cL_law 997 = .ok (.aload_n 2, 1) := by decide +kernel
theorem dL_law_998 : decode cL_law 998 = .ok (.invokevirtual 133, 3) := by decide +kernel
theorem dL_law_1001 : decode cL_law 1001 = .ok (.if_icmp .eq 153, 3) := by decide +kernel
theorem dL_law_1004 : decode cL_law 1004 = .ok (.iconst 0, 1) := by decide +kernel
theorem dL_law_1005 : decode cL_law 1005 = .ok (.ireturn, 1) := by decide +kernel
theorem dL_law_1006 : decode cL_law 1006 = .ok (.aload_n 1, 1) := by decide +kernel
theorem dL_law_1007 : decode cL_law 1007 = .ok (.aload_n 0, 1) := by decide +kernel
theorem dL_law_1008 : decode cL_law 1008 = .ok (.iload_n 3, 1) := by decide +kernel
theorem dL_law_1009 : decode cL_law 1009 = .ok (.iconst 1, 1) := by decide +kernel
theorem dL_law_1010 : decode cL_law 1010 = .ok (.iadd, 1) := by decide +kernel
theorem dL_law_1011 : decode cL_law 1011 = .ok (.iaload, 1) := by decide +kernel
theorem dL_law_1012 : decode cL_law 1012 = .ok (.aload_n 0, 1) := by decide +kernel
theorem dL_law_1013 : decode cL_law 1013 = .ok (.iload_n 3, 1) := by decide +kernel
theorem dL_law_1014 : decode cL_law 1014 = .ok (.iconst 2, 1) := by decide +kernel
theorem dL_law_1015 : decode cL_law 1015 = .ok (.iadd, 1) := by decide +kernel
theorem dL_law_1016 : decode cL_law 1016 = .ok (.iaload, 1) := by decide +kernel
theorem dL_law_1017 : decode cL_law 1017 = .ok (.aload_n 0, 1) := by decide +kernel
theorem dL_law_1018 : decode cL_law 1018 = .ok (.iload_n 3, 1) := by decide +kernel
theorem dL_law_1019 : decode cL_law 1019 = .ok (.iconst 3, 1) := by decide +kernel
theorem dL_law_1020 : decode cL_law 1020 = .ok (.iadd, 1) := by decide +kernel
theorem dL_law_1021 : decode cL_law 1021 = .ok (.iaload, 1) := by decide +kernel
theorem dL_law_1022 : decode cL_law 1022 = .ok (.invokevirtual 134, 3) := by decide +kernel
theorem dL_law_1025 : decode cL_law 1025 = .ok (.aload_n 2, 1) := by decide +kernel
theorem dL_law_1026 : decode cL_law 1026 = .ok (.aload_n 0, 1) := by decide +kernel
theorem dL_law_1027 : decode cL_law 1027 = .ok (.iload_n 3, 1) := by decide +kernel
theorem dL_law_1028 : decode cL_law 1028 = .ok (.iconst 1, 1) := by decide +kernel
theorem dL_law_1029 : decode cL_law 1029 = .ok (.iadd, 1) := by decide +kernel
theorem dL_law_1030 : decode cL_law 1030 = .ok (.iaload, 1) := by decide +kernel
theorem dL_law_1031 : decode cL_law 1031 = .ok (.aload_n 0, 1) := by decide +kernel
theorem dL_law_1032 : decode cL_law 1032 = .ok (.iload_n 3, 1) := by decide +kernel
theorem dL_law_1033 : decode cL_law 1033 = .ok (.iconst 2, 1) := by decide +kernel
theorem dL_law_1034 : decode cL_law 1034 = .ok (.iadd, 1) := by decide +kernel
theorem dL_law_1035 : decode cL_law 1035 = .ok (.iaload, 1) := by decide +kernel
theorem dL_law_1036 : decode cL_law 1036 = .ok (.aload_n 0, 1) := by decide +kernel
theorem dL_law_1037 : decode cL_law 1037 = .ok (.iload_n 3, 1) := by decide +kernel
theorem dL_law_1038 : decode cL_law 1038 = .ok (.iconst 3, 1) := by decide +kernel
theorem dL_law_1039 : decode cL_law 1039 = .ok (.iadd, 1) := by decide +kernel
theorem dL_law_1040 : decode cL_law 1040 = .ok (.iaload, 1) := by decide +kernel
theorem dL_law_1041 : decode cL_law 1041 = .ok (.invokevirtual 137, 3) := by decide +kernel
theorem dL_law_1044 : decode cL_law 1044 = .ok (.if_icmp .eq 110, 3) := by decide +kernel
theorem dL_law_1047 : decode cL_law 1047 = .ok (.iconst 0, 1) := by decide +kernel
theorem dL_law_1048 : decode cL_law 1048 = .ok (.ireturn, 1) := by decide +kernel
theorem dL_law_1049 : decode cL_law 1049 = .ok (.aload_n 1, 1) := by decide +kernel
theorem dL_law_1050 : decode cL_law 1050 = .ok (.aload_n 0, 1) := by decide +kernel
theorem dL_law_1051 : decode cL_law 1051 = .ok (.iload_n 3, 1) := by decide +kernel
theorem dL_law_1052 : decode cL_law 1052 = .ok (.iconst 1, 1) := by decide +kernel
theorem dL_law_1053 : decode cL_law 1053 = .ok (.iadd, 1) := by decide +kernel
theorem dL_law_1054 : decode cL_law 1054 = .ok (.iaload, 1) := by decide +kernel
theorem dL_law_1055 : decode cL_law 1055 = .ok (.invokevirtual 138, 3) := by decide +kernel
theorem dL_law_1058 : decode cL_law 1058 = .ok (.aload_n 2, 1) := by decide +kernel
theorem dL_law_1059 : decode cL_law 1059 = .ok (.aload_n 0, 1) := by decide +kernel
theorem dL_law_1060 : decode cL_law 1060 = .ok (.iload_n 3, 1) := by decide +kernel
theorem dL_law_1061 : decode cL_law 1061 = .ok (.iconst 1, 1) := by decide +kernel
theorem dL_law_1062 : decode cL_law 1062 = .ok (.iadd, 1) := by decide +kernel
theorem dL_law_1063 : decode cL_law 1063 = .ok (.iaload, 1) := by decide +kernel
theorem dL_law_1064 : decode cL_law 1064 = .ok (.invokevirtual 141, 3) := by decide +kernel
theorem dL_law_1067 : decode cL_law 1067 = .ok (.if_icmp .eq 87, 3) := by decide +kernel
theorem dL_law_1070 : decode cL_law 1070 = .ok (.iconst 0, 1) := by decide +kernel
theorem dL_law_1071 : decode cL_law 1071 = .ok (.ireturn, 1) := by decide +kernel
theorem dL_law_1072 : decode cL_law 1072 = .ok (.aload_n 1, 1) := by decide +kernel
theorem dL_law_1073 : decode cL_law 1073 = .ok (.aload_n 0, 1) := by decide +kernel
theorem dL_law_1074 : decode cL_law 1074 = .ok (.iload_n 3, 1) := by decide +kernel
theorem dL_law_1075 : decode cL_law 1075 = .ok (.iconst 1, 1) := by decide +kernel
theorem dL_law_1076 : decode cL_law 1076 = .ok (.iadd, 1) := by decide +kernel
theorem dL_law_1077 : decode cL_law 1077 = .ok (.iaload, 1) := by decide +kernel
theorem dL_law_1078 : decode cL_law 1078 = .ok (.aload_n 0, 1) := by decide +kernel
theorem dL_law_1079 : decode cL_law 1079 = .ok (.iload_n 3, 1) := by decide +kernel
theorem dL_law_1080 : decode cL_law 1080 = .ok (.iconst 2, 1) := by decide +kernel
theorem dL_law_1081 : decode cL_law 1081 = .ok (.iadd, 1) := by decide +kernel
theorem dL_law_1082 : decode cL_law 1082 = .ok (.iaload, 1) := by decide +kernel
theorem dL_law_1083 : decode cL_law 1083 = .ok (.invokevirtual 142, 3) := by decide +kernel
theorem dL_law_1086 : decode cL_law 1086 = .ok (.aload_n 2, 1) := by decide +kernel
theorem dL_law_1087 : decode cL_law 1087 = .ok (.aload_n 0, 1) := by decide +kernel
theorem dL_law_1088 : decode cL_law 1088 = .ok (.iload_n 3, 1) := by decide +kernel
theorem dL_law_1089 : decode cL_law 1089 = .ok (.iconst 1, 1) := by decide +kernel
theorem dL_law_1090 : decode cL_law 1090 = .ok (.iadd, 1) := by decide +kernel
theorem dL_law_1091 : decode cL_law 1091 = .ok (.iaload, 1) := by decide +kernel
theorem dL_law_1092 : decode cL_law 1092 = .ok (.aload_n 0, 1) := by decide +kernel
theorem dL_law_1093 : decode cL_law 1093 = .ok (.iload_n 3, 1) := by decide +kernel
theorem dL_law_1094 : decode cL_law 1094 = .ok (.iconst 2, 1) := by decide +kernel
theorem dL_law_1095 : decode cL_law 1095 = .ok (.iadd, 1) := by decide +kernel
theorem dL_law_1096 : decode cL_law 1096 = .ok (.iaload, 1) := by decide +kernel
theorem dL_law_1097 : decode cL_law 1097 = .ok (.invokevirtual 145, 3) := by decide +kernel
theorem dL_law_1100 : decode cL_law 1100 = .ok (.if_icmp .eq 54, 3) := by decide +kernel
theorem dL_law_1103 : decode cL_law 1103 = .ok (.iconst 0, 1) := by decide +kernel
theorem dL_law_1104 : decode cL_law 1104 = .ok (.ireturn, 1) := by decide +kernel
theorem dL_law_1105 : decode cL_law 1105 = .ok (.aload_n 1, 1) := by decide +kernel
theorem dL_law_1106 : decode cL_law 1106 = .ok (.invokevirtual 146, 3) := by decide +kernel
theorem dL_law_1109 : decode cL_law 1109 = .ok (.aload_n 2, 1) := by decide +kernel
theorem dL_law_1110 : decode cL_law 1110 = .ok (.invokevirtual 149, 3) := by decide +kernel
theorem dL_law_1113 : decode cL_law 1113 = .ok (.if_icmp .eq 41, 3) := by decide +kernel
theorem dL_law_1116 : decode cL_law 1116 = .ok (.iconst 0, 1) := by decide +kernel
theorem dL_law_1117 : decode cL_law 1117 = .ok (.ireturn, 1) := by decide +kernel
theorem dL_law_1118 : decode cL_law 1118 = .ok (.aload_n 1, 1) := by decide +kernel
theorem dL_law_1119 : decode cL_law 1119 = .ok (.invokevirtual 150, 3) := by decide +kernel
theorem dL_law_1122 : decode cL_law 1122 = .ok (.aload_n 2, 1) := by decide +kernel
theorem dL_law_1123 : decode cL_law 1123 = .ok (.invokevirtual 153, 3) := by decide +kernel
theorem dL_law_1126 : decode cL_law 1126 = .ok (.if_icmp .eq 28, 3) := by decide +kernel
theorem dL_law_1129 : decode cL_law 1129 = .ok (.iconst 0, 1) := by decide +kernel
theorem dL_law_1130 : decode cL_law 1130 = .ok (.ireturn, 1) := by decide +kernel
theorem dL_law_1131 : decode cL_law 1131 = .ok (.aload_n 1, 1) := by decide +kernel
theorem dL_law_1132 : decode cL_law 1132 = .ok (.aload_n 0, 1) := by decide +kernel
theorem dL_law_1133 : decode cL_law 1133 = .ok (.iload_n 3, 1) := by decide +kernel
theorem dL_law_1134 : decode cL_law 1134 = .ok (.iconst 1, 1) := by decide +kernel
theorem dL_law_1135 : decode cL_law 1135 = .ok (.iadd, 1) := by decide +kernel
theorem dL_law_1136 : decode cL_law 1136 = .ok (.iaload, 1) := by decide +kernel
theorem dL_law_1137 : decode cL_law 1137 = .ok (.invokevirtual 154, 3) := by decide +kernel
theorem dL_law_1140 : decode cL_law 1140 = .ok (.aload_n 2, 1) := by decide +kernel
theorem dL_law_1141 : decode cL_law 1141 = .ok (.aload_n 0, 1) := by decide +kernel
theorem dL_law_1142 : decode cL_law 1142 = .ok (.iload_n 3, 1) := by decide +kernel
theorem dL_law_1143 : decode cL_law 1143 = .ok (.iconst 1, 1) := by decide +kernel
theorem dL_law_1144 : decode cL_law 1144 = .ok (.iadd, 1) := by decide +kernel
theorem dL_law_1145 : decode cL_law 1145 = .ok (.iaload, 1) := by decide +kernel
theorem dL_law_1146 : decode cL_law 1146 = .ok (.invokevirtual 157, 3) := by decide +kernel
theorem dL_law_1149 : decode cL_law 1149 = .ok (.if_icmp .eq 5, 3) := by decide +kernel
theorem dL_law_1152 : decode cL_law 1152 = .ok (.iconst 0, 1) := by decide +kernel
theorem dL_law_1153 : decode cL_law 1153 = .ok (.ireturn, 1) := by decide +kernel
theorem dL_law_1154 : decode cL_law 1154 = .ok (.iinc 3 6, 3) := by decide +kernel
theorem dL_law_1157 : decode cL_law 1157 = .ok (.goto (-1139), 3) := by decide +kernel
theorem dL_law_1160 : decode cL_law 1160 = .ok (.iconst 1, 1) := by decide +kernel
theorem dL_law_1161 : decode cL_law 1161 = .ok (.ireturn, 1) := by decide +kernel
end
section
/-! WHOLE NUMBERS: every int on a stack is iI z, every long jI z -/
def iI (z : Int) : Int32 := Int32.ofInt z
def jI (z : Int) : Int64 := Int64.ofInt z
def rng (z : Int) : Prop := -2147483648 ≤ z ∧ z ≤ 2147483647
def rngL (z : Int) : Prop := -9223372036854775808 ≤ z ∧ z ≤ 9223372036854775807
theorem iI_t {z : Int} (h : rng z) : (iI z).toInt = z := Int32.toInt_ofInt_of_le (by have := h.1; omega) (by have := h.2; omega)
theorem jI_t {z : Int} (h : rngL z) : (jI z).toInt = z := Int64.toInt_ofInt_of_le (by have := h.1; omega) (by have := h.2; omega)
theorem iI_of (x : Int32) : iI x.toInt = x := Int32.ofInt_toInt x
theorem jI_of (x : Int64) : jI x.toInt = x := Int64.ofInt_toInt x
theorem rng_of (x : Int32) : rng x.toInt := by
  have h1 := x.le_toInt
  have h2 := x.toInt_lt
  constructor <;> omega
theorem iI_add (a b : Int) : iI a + iI b = iI (a + b) := (Int32.ofInt_add a b).symm
theorem iI_sub (a b : Int) : iI a - iI b = iI (a - b) := (Int32.ofInt_sub a b).symm
theorem iI_mul (a b : Int) : iI a * iI b = iI (a * b) := (Int32.ofInt_mul a b).symm
theorem iI_neg (a : Int) : - iI a = iI (-a) := (Int32.ofInt_neg a).symm
theorem jI_add (a b : Int) : jI a + jI b = jI (a + b) := (Int64.ofInt_add a b).symm
theorem jI_sub (a b : Int) : jI a - jI b = jI (a - b) := (Int64.ofInt_sub a b).symm
theorem jI_mul (a b : Int) : jI a * jI b = jI (a * b) := (Int64.ofInt_mul a b).symm
theorem jI_neg (a : Int) : - jI a = jI (-a) := (Int64.ofInt_neg a).symm
theorem iI_lt {a b : Int} (ha : rng a) (hb : rng b) : iI a < iI b ↔ a < b := by rw [Int32.lt_iff_toInt_lt, iI_t ha, iI_t hb]
theorem iI_le {a b : Int} (ha : rng a) (hb : rng b) : iI a ≤ iI b ↔ a ≤ b := by rw [Int32.le_iff_toInt_le, iI_t ha, iI_t hb]
theorem iI_eq {a b : Int} (ha : rng a) (hb : rng b) : iI a = iI b ↔ a = b :=
  ⟨fun h => by have h2 := congrArg Int32.toInt h; rwa [iI_t ha, iI_t hb] at h2, fun h => by rw [h]⟩
theorem iI_0 : iI 0 = 0 := rfl
theorem iI_nat (n : Nat) : iI (n : Int) = nI n := Int32.ofInt_eq_ofNat
theorem rng_0 : rng 0 := ⟨by decide, by decide⟩
theorem iI_clamp {z : Int} (h : 0 ≤ z) (h2 : z < 2147483648) : (iI z).toNatClampNeg = z.toNat := by
  show (iI z).toInt.toNat = z.toNat
  rw [iI_t ⟨by omega, by omega⟩]
theorem iI_in {z : Int} {n : Nat} (h : 0 ≤ z ∧ z < n) (hn : n < 2147483648) : vp_in (iI z) n := by
  rw [vp_in_iff, iI_t ⟨by omega, by omega⟩]
  exact h
theorem iI_inj {a b : Int} (h : a = b) : iI a = iI b := by rw [h]
/-- the machine's other operations, as whole numbers -/
def ior (a b : Int) : Int := (iI a ||| iI b).toInt
def iand (a b : Int) : Int := (iI a &&& iI b).toInt
def ixor (a b : Int) : Int := (iI a ^^^ iI b).toInt
def ishl (a b : Int) : Int := (iI a <<< (iI b &&& 31)).toInt
def ishr (a b : Int) : Int := (iI a >>> (iI b &&& 31)).toInt
def iush (a b : Int) : Int := ((iI a).toUInt32 >>> ((iI b).toUInt32 &&& Int32.toUInt32 31)).toInt32.toInt
def idiv (a b : Int) : Int := (iI a / iI b).toInt
def irem (a b : Int) : Int := (iI a - iI a / iI b * iI b).toInt
def jor (a b : Int) : Int := (jI a ||| jI b).toInt
def jand (a b : Int) : Int := (jI a &&& jI b).toInt
def jxor (a b : Int) : Int := (jI a ^^^ jI b).toInt
def jshl (a b : Int) : Int := (jI a <<< ((iI b).toInt64 &&& 63)).toInt
def jshr (a b : Int) : Int := (jI a >>> ((iI b).toInt64 &&& 63)).toInt
def jush (a b : Int) : Int := ((jI a).toUInt64 >>> ((iI b).toInt64.toUInt64 &&& Int64.toUInt64 63)).toInt64.toInt
def jdiv (a b : Int) : Int := (jI a / jI b).toInt
def jrem (a b : Int) : Int := (jI a - jI a / jI b * jI b).toInt
theorem idiv_nn {a b : Int} (ha : 0 ≤ a) (h2 : a ≤ 2147483647) (hb : 0 < b) (h3 : b ≤ 2147483647) : idiv a b = a / b := by
  unfold idiv
  rw [Int32.toInt_div_of_ne_right _ _ (by intro h; have := congrArg Int32.toInt h; rw [iI_t ⟨by omega, by omega⟩] at this; simp at this; omega), iI_t ⟨by omega, by omega⟩, iI_t ⟨by omega, by omega⟩]
  exact Int.tdiv_eq_ediv_of_nonneg ha
theorem irem_nn {a b : Int} (ha : 0 ≤ a) (h2 : a ≤ 2147483647) (hb : 0 < b) (h3 : b ≤ 2147483647) : irem a b = a % b := by
  have h := idiv_nn ha h2 hb h3
  have e : iI a / iI b = iI (a / b) := by rw [← iI_of (iI a / iI b)]; exact congrArg iI h
  unfold irem
  have hm : 0 ≤ a % b ∧ a % b < b := ⟨Int.emod_nonneg a (by omega), Int.emod_lt_of_pos a hb⟩
  have hd := Int.mul_ediv_add_emod a b
  rw [e, iI_mul, iI_sub, show a - a / b * b = a % b by rw [Int.mul_comm]; omega, iI_t ⟨by omega, by omega⟩]
def aI (g : Nat → Int) : Nat → Int32 := fun k => iI (g k)
theorem aI_upd (g : Nat → Int) (k : Nat) (v : Int) : upd (aI g) k (iI v) = aI (va_up g k v) := by
  funext j
  simp only [upd, aI, va_up]
  split <;> rfl
theorem up_same {α : Type} (f : Nat → α) (k : Nat) (v : α) : va_up f k v k = v := if_pos rfl
theorem up_ne {α : Type} (f : Nat → α) {k j : Nat} (v : α) (h : j ≠ k) : va_up f k v j = f j := if_neg h
/-- a truth as a number -/
noncomputable def b2 (P : Prop) : Int := @ite Int P (Classical.propDecidable P) 1 0
theorem b2_t {P : Prop} (h : P) : b2 P = 1 := if_pos h
theorem b2_f {P : Prop} (h : ¬ P) : b2 P = 0 := if_neg h
theorem b2_ext {P Q : Prop} (h : P ↔ Q) : b2 P = b2 Q := by rw [propext h]
theorem b2_01 (P : Prop) : b2 P = 0 ∨ b2 P = 1 := by
  rcases Classical.em P with h | h
  · exact Or.inr (b2_t h)
  · exact Or.inl (b2_f h)
theorem b2_rng (P : Prop) : rng (b2 P) := by rcases b2_01 P with h | h <;> rw [h] <;> exact ⟨by decide, by decide⟩
theorem b2_true : b2 True = 1 := b2_t trivial
theorem b2_false : b2 False = 0 := b2_f (fun h => h)
theorem b2_eq0 {P : Prop} : b2 P = 0 ↔ ¬ P := ⟨fun h hp => by rw [b2_t hp] at h; exact absurd h (by decide), b2_f⟩
theorem b2_eq1 {P : Prop} : b2 P = 1 ↔ P := ⟨fun h => Classical.byContradiction fun hp => by rw [b2_f hp] at h; exact absurd h (by decide), b2_t⟩
theorem b2_ite (P : Prop) (h : Decidable P) : (if P then (1 : Int) else 0) = b2 P := by
  by_cases hp : P
  · rw [if_pos hp, b2_t hp]
  · rw [if_neg hp, b2_f hp]
theorem nar_01 {z : Int} (h : z = 0 ∨ z = 1) : narrow .boolean (.int (iI z)) = .int (iI z) := by
  rcases h with h | h <;> subst h <;> decide
theorem narZ_01 {z : Int} (h : z = 0 ∨ z = 1) : vp_nar .boolean (iI z) = iI z := by
  rcases h with h | h <;> subst h <;> decide
end
section
/-! WORDS AND CONTEXTS -/
def allW : List Cond := lw_tbl.filter goodWord
theorem memA {w : Cond} (i : Nat) (h : tables_1[i]? = some w) (hg : goodWord w = true) : w ∈ allW :=
  List.mem_filter.mpr ⟨List.mem_append_right _ (List.mem_of_getElem? h), hg⟩
theorem memS {y : MethodName} {n : Nat} (i : Nat) (h : lw_privs[i]? = some (y, n)) (hg : goodWord (Cond.selects y.cls y y) = true) : Cond.selects y.cls y y ∈ allW :=
  List.mem_filter.mpr ⟨List.mem_append_left _ (List.mem_map.mpr ⟨(y, n), List.mem_of_getElem? h, rfl⟩), hg⟩
theorem allW_good : ∀ w ∈ allW, ((w.onTables && w.keeps) = true ∨ ∃ ty, w = .arrayClass ty) := fun _ h => good_of_word (List.mem_filter.mp h).2
theorem allW_tbl : ∀ w ∈ allW, w ∈ lw_tbl := fun _ h => (List.mem_filter.mp h).1
def wsA (y : MethodName) (cc : ByteArray) (nL : Nat) (ret : Option FieldType) : List Cond := .code y cc nL ret :: allW
abbrev GG : Type := va_G × (Nat → Nat) × (Nat → Nat) × (Nat → Nat)
abbrev cyI (g : GG) : ClassId := g.2.1 0
abbrev cyZ (g : GG) : ClassId := g.2.1 1
abbrev cyO (g : GG) : ClassId := g.2.1 2
abbrev tys3 (g : GG) : List (ClassId × FieldType) := [(g.2.1 0, .int), (g.2.1 1, .boolean), (g.2.1 2, .object "java/lang/Object")]
def nestW : List Cond := [.methodLinkNest "NamesNoTouch" 22 ⟨"NamesNoTouch$Sheet", "<init>", "()V"⟩ "NamesNoTouch", .methodLinkNest "NamesNoTouch$Sheet" 136 ⟨"NamesNoTouch", "hasBit", "(II)Z"⟩ "NamesNoTouch", .methodLinkNest "NamesNoTouch$Search" 130 ⟨"NamesNoTouch", "hasBit", "(II)Z"⟩ "NamesNoTouch"]
def nestP (U : State) : Prop := va_Nw (.methodLinkNest "NamesNoTouch" 22 ⟨"NamesNoTouch$Sheet", "<init>", "()V"⟩ "NamesNoTouch") U ∧ va_Nw (.methodLinkNest "NamesNoTouch$Sheet" 136 ⟨"NamesNoTouch", "hasBit", "(II)Z"⟩ "NamesNoTouch") U ∧ va_Nw (.methodLinkNest "NamesNoTouch$Search" 130 ⟨"NamesNoTouch", "hasBit", "(II)Z"⟩ "NamesNoTouch") U
/-- the texts: 0 love, 1 bore, 2 wide, 3 river, 4 nkvpxl, 5 <=> -/
def sLen : List Nat := [5, 5, 5, 6, 6, 3]
def sByt : List (List Int32) := [[108, 111, 118, 101, 32], [98, 111, 114, 101, 32], [119, 105, 100, 101, 32], [114, 105, 118, 101, 114, 32], [110, 107, 118, 112, 120, 108], [60, 61, 62]]
def strP (g : GG) (U : State) : Prop :=
  (vk_R "NamesNoTouch$Reader" 55 "love " (g.2.2.1 0) U ∧ vk_R "NamesNoTouch$Reader" 57 "bore " (g.2.2.1 1) U ∧ vk_R "NamesNoTouch$Reader" 75 "wide " (g.2.2.1 2) U ∧ vk_R "NamesNoTouch$Reader" 77 "river " (g.2.2.1 3) U ∧ vk_R "NamesNoTouch$Reader" 97 "nkvpxl" (g.2.2.1 4) U ∧ vk_R "NamesNoTouch$Reader" 103 "<=>" (g.2.2.1 5) U) ∧
  (vk_R "NamesNoTouchModel" 128 "love " (g.2.2.1 0) U ∧ vk_R "NamesNoTouchModel" 133 "bore " (g.2.2.1 1) U ∧ vk_R "NamesNoTouchModel" 120 "wide " (g.2.2.1 2) U ∧ vk_R "NamesNoTouchModel" 126 "river " (g.2.2.1 3) U ∧ vk_R "NamesNoTouchModel" 102 "nkvpxl" (g.2.2.1 4) U ∧ vk_R "NamesNoTouchModel" 108 "<=>" (g.2.2.1 5) U)
/-- what the machine knows of the classes -/
def KU (g : GG) (U : State) : Prop := va_K g.1 vwCl (tys3 g) U ∧ nestP U ∧ strP g U
/-- what lies outside: statics, texts -/
def EnvG (g : GG) (A : Nat → Prop) (U : State) (H : Heap) : Prop :=
  va_Z "java/util/ArrayList" "DEFAULTCAPACITY_EMPTY_ELEMENTDATA" "[Ljava/lang/Object;" (.ref (g.2.1 3)) A U H ∧
  va_T (.object "java/lang/Object") (g.2.1 3) 0 (fun _ => .null) A U H ∧
  va_Z "java/lang/String" "COMPACT_STRINGS" "Z" (.int 1) A U H ∧
  va_Zq "jdk/internal/util/Preconditions" "SIOOBE_FORMATTER" "Ljava/util/function/BiFunction;" A U H ∧
  vk_S 6 sLen sByt g.2.2.1 g.2.2.2 A U H
theorem EnvG.moved {g : GG} {A : Nat → Prop} {u U : State} {H : Heap} (hvm : u.vm.Alike U.vm) (h : EnvG g A u H) : EnvG g A U H :=
  ⟨h.1.moved hvm, h.2.1.moved hvm, h.2.2.1.moved hvm, h.2.2.2.1.moved hvm, h.2.2.2.2.moved hvm⟩
theorem EnvG.kept {g : GG} {A : Nat → Prop} {U : State} {H H1 : Heap} (h : EnvG g A U H) (hq : ∀ a : Nat, a < H.size → ¬ A a → H1[a]? = H[a]?) : EnvG g A U H1 :=
  ⟨h.1.kept hq, h.2.1.kept hq, h.2.2.1.kept hq, h.2.2.2.1.kept hq, h.2.2.2.2.kept hq⟩
theorem EnvG.narrow {g : GG} {A B : Nat → Prop} {U : State} {H : Heap} (h : EnvG g A U H) (hAB : ∀ q, B q → A q) : EnvG g B U H :=
  ⟨h.1.narrow hAB, h.2.1.narrow hAB, h.2.2.1.narrow hAB, h.2.2.2.1.narrow hAB, h.2.2.2.2.narrow hAB⟩
theorem strP.warm {g : GG} {s U : State} (hW : s.WarmedH U.vm) (h : strP g s) : strP g U := by
  obtain ⟨⟨a0, a1, a2, a3, a4, a5⟩, b0, b1, b2, b3, b4, b5⟩ := h
  exact ⟨⟨a0.warm hW, a1.warm hW, a2.warm hW, a3.warm hW, a4.warm hW, a5.warm hW⟩, b0.warm hW, b1.warm hW, b2.warm hW, b3.warm hW, b4.warm hW, b5.warm hW⟩
theorem strP.same {g : GG} {u U : State} (hv : U.vm = u.vm) (h : strP g u) : strP g U := by
  obtain ⟨⟨a0, a1, a2, a3, a4, a5⟩, b0, b1, b2, b3, b4, b5⟩ := h
  exact ⟨⟨a0.same hv, a1.same hv, a2.same hv, a3.same hv, a4.same hv, a5.same hv⟩, b0.same hv, b1.same hv, b2.same hv, b3.same hv, b4.same hv, b5.same hv⟩
theorem nestP.warm {s U : State} (hW : s.WarmedH U.vm) (h : nestP s) : nestP U := ⟨va_Nw.warmM hW h.1, va_Nw.warmM hW h.2.1, va_Nw.warmM hW h.2.2⟩
theorem nestP.same {u U : State} (hv : u.vm = U.vm) (h : nestP u) : nestP U := ⟨va_Nw.same rfl hv h.1, va_Nw.same rfl hv h.2.1, va_Nw.same rfl hv h.2.2⟩
theorem KU.warm {g : GG} {s U : State} (hW : s.WarmedH U.vm) (h : KU g s) : KU g U := ⟨va_K.moved hW.alike h.1, nestP.warm hW h.2.1, strP.warm hW h.2.2⟩
theorem KU.same {g : GG} {u U : State} (hv : u.vm = U.vm) (h : KU g u) : KU g U := by
  refine ⟨va_K.moved (u := u) (U := U) (by rw [hv]; exact Vm.Alike.refl U.vm) h.1, nestP.same hv h.2.1, strP.same hv.symm h.2.2⟩
abbrev NoA : Nat → Prop := fun _ => False
/-- what a method that only reads asks: classes, statics, a picture of the heap -/
def ro_P (g : GG) (av : List Value) (Pic : Heap → Prop) : Array Value → State → Prop := va_Pc av (fun U => KU g U ∧ EnvG g NoA U U.heap ∧ Pic U.heap)
theorem ro_blind {g : GG} {av : List Value} {Pic : Heap → Prop} : FrameBlind (ro_P g av Pic) := by
  intro a U gf mk h
  obtain ⟨h1, h2, h3, h4⟩ := h
  exact ⟨h1, KU.same (u := U) (U := U.calling gf mk a) rfl h2, EnvG.moved (u := U) (U := U.calling gf mk a) (Vm.Alike.refl U.vm) h3, h4⟩
/-- what a method that writes asks -/
def wr_P (g : GG) (av : List Value) (sz : Nat) (ws : va_W) : Array Value → State → Prop := va_Pc av (fun U => KU g U ∧ U.heap.size = sz ∧ EnvG g (va_A ws sz) U U.heap ∧ va_P g.1 vwCl ws U.heap ∧ va_D (fun _ => True) ws)
theorem wr_blind {g : GG} {av : List Value} {sz : Nat} {ws : va_W} : FrameBlind (wr_P g av sz ws) := by
  intro a U gf mk h
  obtain ⟨h1, h2, h3, h4, h5, h6⟩ := h
  exact ⟨h1, KU.same (u := U) (U := U.calling gf mk a) rfl h2, h3, EnvG.moved (u := U) (U := U.calling gf mk a) (Vm.Alike.refl U.vm) h4, h5, h6⟩
def wr_B (g : GG) (sz : Nat) (ws : va_W) : va_W → State → Prop := fun w t => va_P g.1 vwCl w t.heap ∧ va_D (va_A ws sz) w
def rmC (k c n : Nat) : Room := { frames := k, cells := c, slots := n, locals := 40 * k }
abbrev rmL (k : Nat) : Room := rmC k 0 0
def RR (k : Nat) (R : Room) : Prop := k + 1 ≤ R.frames ∧ 40 * k + 40 ≤ R.locals
theorem rr {k k' a b : Nat} (h : k + 1 ≤ k') : RR k (rmC k' a b) := ⟨h, by show 40 * k + 40 ≤ 40 * k'; omega⟩
/-- a method of a class of ours: its words -/
def MOK (C : String) (y : MethodName) (bytes : ByteArray) (maxL : Nat) (rt : Option FieldType) (n : Nat) : Prop :=
  (Cond.instanceMethod y ∈ allW ∧ Cond.selects C y y ∈ allW ∧ Cond.initialized C ∈ allW ∧ Cond.code y bytes maxL rt ∈ allW) ∧ (y.cls = C ∧ y.cls ≠ "java/lang/invoke/MethodHandle" ∧ y.cls ≠ "java/lang/invoke/VarHandle" ∧ (parseMethodDescriptor y.desc).map (fun d => d.parameters.length) = some n) ∧ maxL ≤ 21
def MOS (y : MethodName) (bytes : ByteArray) (maxL : Nat) (rt : Option FieldType) (n : Nat) : Prop :=
  (Cond.static y ∈ allW ∧ Cond.initialized y.cls ∈ allW ∧ Cond.code y bytes maxL rt ∈ allW) ∧ (y.cls ≠ "java/lang/invoke/MethodHandle" ∧ y.cls ≠ "java/lang/invoke/VarHandle" ∧ (parseMethodDescriptor y.desc).map (fun d => d.parameters.length) = some n) ∧ maxL ≤ 21
/-- a class of ours: its place, its fields' words, types, names -/
def COK (ci : Nat) (C : String) (T : u_T) (N : Nat) (ty : Nat → FieldType) : Prop := vwCl[ci]? = some (C, T, N) ∧ (∀ w ∈ u_ws C T N, w ∈ allW) ∧ (∀ k, k < N → parseFieldDescriptor (T k).2.2.1 = some (ty k)) ∧ (∀ a, a < N → ∀ b, b < N → a ≠ b → (T a).2.1 ≠ (T b).2.1)
/-- where a method stands: machine, code, class, words -/
def Cx (p : Program) (s : State) (m : MethodId) (args : Array Value) (meth : Method) (c : Code) (cc : ByteArray) (nL : Nat) (ret : Option FieldType) (own : String) : Prop := p.tables.exec = Jvm.exec ∧ c.code = cc ∧ meth.sig.returnType = ret ∧ c.maxLocals = nL ∧ s.vm.findClass own = some m.cls ∧ (∀ w ∈ allW, w.before args s = true) ∧ meth.locks = false
theorem P1 {g : GG} {q : Nat × va_E} {H : Heap} (h : va_at g.1 vwCl q H) : va_P g.1 vwCl [q] H := by
  intro k r hk
  match k, hk with
  | 0, hk => cases hk; exact h
  | k + 1, hk => simp at hk
theorem li_recv {g : GG} {s : State} {H : Heap} {a ci : Nat} {fs : List Value} {C : String} {T : u_T} {N : Nat} {ty : Nat → FieldType} (hK : KU g s) (hk : COK ci C T N ty) (ho : va_at g.1 vwCl (a, .inr (ci, fs)) H) : ∃ cell : Cell, H[a]? = some cell ∧ cell.vm.isStatics = false ∧ s.vm.findClass C = some cell.cls :=
  va_recv (q := (C, T, N)) (q0 := 0) hK.1 (P1 ho) hk.1 rfl
theorem ro_entry {l : Launch} {g : GG} {y : MethodName} {cc : ByteArray} {maxL : Nat} {ret : Option FieldType} {own : String} {rm : Room} {av : List Value} {Pic : Heap → Prop} {Qc : Array Value → State → Outcome → State → Prop}
    (hy : plainName y.cls = true) (ho : y.cls = own) (hav : (lg_sl av).length ≤ maxL)
    (body : ∀ (p : Program) (e : Jvm.Env) (s : State) (m : MethodId) (args : Array Value) (below : List Frame) (meth : Method) (c : Code) (ls : Array Slot), Cx p s m args meth c cc maxL ret own → KU g s → EnvG g NoA s s.heap → Pic s.heap → lv_has ls maxL (lv_args 0 av) →
      W p l e rm s m args below meth c s.heap [] 0 0 (MQ below Qc args s 0 0 (fun _ => False)) (F0 m 0 ls [])) :
    Met l y (wsA y cc maxL ret) rm (ro_P g av Pic) Qc 0 0 (fun _ => False) := by
  refine Met.ofW (cc := cc) (maxL := maxL) (ret := ret) hy rfl ?_
  intro p e s m args below meth c s₁ B hml hv
  obtain ⟨rfl, hK, hE, hP⟩ := hv
  have hts := atoms_spec (ws := wsA y cc maxL ret) B.pre
  have hown : s.vm.findClass own = some m.cls := by rw [← ho]; exact findClass_of_methodNamed B.named
  rw [lg_entry_eq]
  exact body p e s m _ below meth c _ ⟨B.exec, B.bytes, B.returns, hml, hown, fun w hw => hts w (List.mem_cons_of_mem _ hw), B.notSynchronized⟩ hK hE hP (lv_entry av hav)
end
section
section RI
variable {p : Program} {l : Launch} {e : Env} {R : Room} {s : State} {m : MethodId} {args : Array Value} {below : List Frame} {meth : Method} {c : Code} {H : Heap} {locs : List Loc} {cells slots : Nat} {Q : State → Prop}
variable {cc : ByteArray} {nL : Nat} {ret : Option FieldType} {own : String} {pc : Nat} {ls : Array Slot} {rest : List Value} {g : GG}
theorem li_iconst (hC : Cx p s m args meth c cc nL ret own) {n : Int} (hdg : decode cc pc = .ok (.iconst n, 1)) (k : W p l e R s m args below meth c H locs cells slots Q (F0 m (pc + 1) ls (.int (iI n) :: rest))) : W p l e R s m args below meth c H locs cells slots Q (F0 m (pc) ls (rest)) := lv_iconst hC.1 hC.2.1 hdg rfl k
theorem li_bipush (hC : Cx p s m args meth c cc nL ret own) {n z : Int} (hv : (Int8.ofInt n).toInt32 = iI z) (hdg : decode cc pc = .ok (.bipush n, 2)) (k : W p l e R s m args below meth c H locs cells slots Q (F0 m (pc + 2) ls (.int (iI z) :: rest))) : W p l e R s m args below meth c H locs cells slots Q (F0 m (pc) ls (rest)) := lv_bipush hC.1 hC.2.1 hdg hv k
theorem li_sipush (hC : Cx p s m args meth c cc nL ret own) {n z : Int} (hv : (Int16.ofInt n).toInt32 = iI z) (hdg : decode cc pc = .ok (.sipush n, 3)) (k : W p l e R s m args below meth c H locs cells slots Q (F0 m (pc + 3) ls (.int (iI z) :: rest))) : W p l e R s m args below meth c H locs cells slots Q (F0 m (pc) ls (rest)) := lv_sipush hC.1 hC.2.1 hdg hv k
theorem li_ldc (hC : Cx p s m args meth c cc nL ret own) {ix : Nat} {v : Int32} {z : Int} (hw : Cond.constant own ix v ∈ allW) (hv : v = iI z) (hdg : decode cc pc = .ok (.ldc ix, 2)) (k : W p l e R s m args below meth c H locs cells slots Q (F0 m (pc + 2) ls (.int (iI z) :: rest))) : W p l e R s m args below meth c H locs cells slots Q (F0 m (pc) ls (rest)) := by
  subst hv
  exact lv_ldc hC.1 hC.2.1 hC.2.2.2.2.1 (hC.2.2.2.2.2.1 _ hw) hdg k
theorem li_ldcw (hC : Cx p s m args meth c cc nL ret own) {ix : Nat} {v : Int32} {z : Int} (hw : Cond.constant own ix v ∈ allW) (hv : v = iI z) (hdg : decode cc pc = .ok (.ldc_w ix, 3)) (k : W p l e R s m args below meth c H locs cells slots Q (F0 m (pc + 3) ls (.int (iI z) :: rest))) : W p l e R s m args below meth c H locs cells slots Q (F0 m (pc) ls (rest)) := by
  subst hv
  exact lv_ldcw hC.1 hC.2.1 hC.2.2.2.2.1 (hC.2.2.2.2.2.1 _ hw) hdg k
theorem li_ldc2 (hC : Cx p s m args meth c cc nL ret own) {ix : Nat} {v : Int64} {z : Int} (hw : Cond.constantLong own ix v ∈ allW) (hv : v = jI z) (hdg : decode cc pc = .ok (.ldc2_w ix, 3)) (k : W p l e R s m args below meth c H locs cells slots Q (F0 m (pc + 3) ls (.long (jI z) :: rest))) : W p l e R s m args below meth c H locs cells slots Q (F0 m (pc) ls (rest)) := by
  subst hv
  exact lv_ldc2 hC.1 hC.2.1 hC.2.2.2.2.1 (hC.2.2.2.2.2.1 _ hw) hdg k
theorem li_lconst (hC : Cx p s m args meth c cc nL ret own) {n : Fin 2} {z : Int} (hv : Int64.ofNat n = jI z) (hdg : decode cc pc = .ok (.lconst n, 1)) (k : W p l e R s m args below meth c H locs cells slots Q (F0 m (pc + 1) ls (.long (jI z) :: rest))) : W p l e R s m args below meth c H locs cells slots Q (F0 m (pc) ls (rest)) := lv_lconst hC.1 hC.2.1 hdg hv k
theorem li_iadd (hC : Cx p s m args meth c cc nL ret own) {a b : Int} (hdg : decode cc pc = .ok (.iadd, 1)) (k : W p l e R s m args below meth c H locs cells slots Q (F0 m (pc + 1) ls (.int (iI (a + b)) :: rest))) : W p l e R s m args below meth c H locs cells slots Q (F0 m (pc) ls (.int (iI b) :: .int (iI a) :: rest)) := lv_iadd hC.1 hC.2.1 hdg (by rw [iI_add]; exact k)
theorem li_isub (hC : Cx p s m args meth c cc nL ret own) {a b : Int} (hdg : decode cc pc = .ok (.isub, 1)) (k : W p l e R s m args below meth c H locs cells slots Q (F0 m (pc + 1) ls (.int (iI (a - b)) :: rest))) : W p l e R s m args below meth c H locs cells slots Q (F0 m (pc) ls (.int (iI b) :: .int (iI a) :: rest)) := lv_isub hC.1 hC.2.1 hdg (by rw [iI_sub]; exact k)
theorem li_imul (hC : Cx p s m args meth c cc nL ret own) {a b : Int} (hdg : decode cc pc = .ok (.imul, 1)) (k : W p l e R s m args below meth c H locs cells slots Q (F0 m (pc + 1) ls (.int (iI (a * b)) :: rest))) : W p l e R s m args below meth c H locs cells slots Q (F0 m (pc) ls (.int (iI b) :: .int (iI a) :: rest)) := lv_imul hC.1 hC.2.1 hdg (by rw [iI_mul]; exact k)
theorem li_ladd (hC : Cx p s m args meth c cc nL ret own) {a b : Int} (hdg : decode cc pc = .ok (.ladd, 1)) (k : W p l e R s m args below meth c H locs cells slots Q (F0 m (pc + 1) ls (.long (jI (a + b)) :: rest))) : W p l e R s m args below meth c H locs cells slots Q (F0 m (pc) ls (.long (jI b) :: .long (jI a) :: rest)) := lv_ladd hC.1 hC.2.1 hdg (by rw [jI_add]; exact k)
theorem li_lsub (hC : Cx p s m args meth c cc nL ret own) {a b : Int} (hdg : decode cc pc = .ok (.lsub, 1)) (k : W p l e R s m args below meth c H locs cells slots Q (F0 m (pc + 1) ls (.long (jI (a - b)) :: rest))) : W p l e R s m args below meth c H locs cells slots Q (F0 m (pc) ls (.long (jI b) :: .long (jI a) :: rest)) := lv_lsub hC.1 hC.2.1 hdg (by rw [jI_sub]; exact k)
theorem li_lmul (hC : Cx p s m args meth c cc nL ret own) {a b : Int} (hdg : decode cc pc = .ok (.lmul, 1)) (k : W p l e R s m args below meth c H locs cells slots Q (F0 m (pc + 1) ls (.long (jI (a * b)) :: rest))) : W p l e R s m args below meth c H locs cells slots Q (F0 m (pc) ls (.long (jI b) :: .long (jI a) :: rest)) := lv_lmul hC.1 hC.2.1 hdg (by rw [jI_mul]; exact k)
theorem li_ineg (hC : Cx p s m args meth c cc nL ret own) {a : Int} (hdg : decode cc pc = .ok (.ineg, 1)) (k : W p l e R s m args below meth c H locs cells slots Q (F0 m (pc + 1) ls (.int (iI (-a)) :: rest))) : W p l e R s m args below meth c H locs cells slots Q (F0 m (pc) ls (.int (iI a) :: rest)) := lv_ineg hC.1 hC.2.1 hdg (by rw [iI_neg]; exact k)
theorem li_lneg (hC : Cx p s m args meth c cc nL ret own) {a : Int} (hdg : decode cc pc = .ok (.lneg, 1)) (k : W p l e R s m args below meth c H locs cells slots Q (F0 m (pc + 1) ls (.long (jI (-a)) :: rest))) : W p l e R s m args below meth c H locs cells slots Q (F0 m (pc) ls (.long (jI a) :: rest)) := lv_lneg hC.1 hC.2.1 hdg (by rw [jI_neg]; exact k)
theorem li_ior (hC : Cx p s m args meth c cc nL ret own) {a b : Int} (hdg : decode cc pc = .ok (.ior, 1)) (k : W p l e R s m args below meth c H locs cells slots Q (F0 m (pc + 1) ls (.int (iI (ior a b)) :: rest))) : W p l e R s m args below meth c H locs cells slots Q (F0 m (pc) ls (.int (iI b) :: .int (iI a) :: rest)) := lv_ior hC.1 hC.2.1 hdg (by rw [ior, iI_of] at k; exact k)
theorem li_iand (hC : Cx p s m args meth c cc nL ret own) {a b : Int} (hdg : decode cc pc = .ok (.iand, 1)) (k : W p l e R s m args below meth c H locs cells slots Q (F0 m (pc + 1) ls (.int (iI (iand a b)) :: rest))) : W p l e R s m args below meth c H locs cells slots Q (F0 m (pc) ls (.int (iI b) :: .int (iI a) :: rest)) := lv_iand hC.1 hC.2.1 hdg (by rw [iand, iI_of] at k; exact k)
theorem li_ixor (hC : Cx p s m args meth c cc nL ret own) {a b : Int} (hdg : decode cc pc = .ok (.ixor, 1)) (k : W p l e R s m args below meth c H locs cells slots Q (F0 m (pc + 1) ls (.int (iI (ixor a b)) :: rest))) : W p l e R s m args below meth c H locs cells slots Q (F0 m (pc) ls (.int (iI b) :: .int (iI a) :: rest)) := lv_ixor hC.1 hC.2.1 hdg (by rw [ixor, iI_of] at k; exact k)
theorem li_ishl (hC : Cx p s m args meth c cc nL ret own) {a b : Int} (hdg : decode cc pc = .ok (.ishl, 1)) (k : W p l e R s m args below meth c H locs cells slots Q (F0 m (pc + 1) ls (.int (iI (ishl a b)) :: rest))) : W p l e R s m args below meth c H locs cells slots Q (F0 m (pc) ls (.int (iI b) :: .int (iI a) :: rest)) := lv_ishl hC.1 hC.2.1 hdg (by rw [ishl, iI_of] at k; exact k)
theorem li_ishr (hC : Cx p s m args meth c cc nL ret own) {a b : Int} (hdg : decode cc pc = .ok (.ishr, 1)) (k : W p l e R s m args below meth c H locs cells slots Q (F0 m (pc + 1) ls (.int (iI (ishr a b)) :: rest))) : W p l e R s m args below meth c H locs cells slots Q (F0 m (pc) ls (.int (iI b) :: .int (iI a) :: rest)) := lv_ishr hC.1 hC.2.1 hdg (by rw [ishr, iI_of] at k; exact k)
theorem li_iushr (hC : Cx p s m args meth c cc nL ret own) {a b : Int} (hdg : decode cc pc = .ok (.iushr, 1)) (k : W p l e R s m args below meth c H locs cells slots Q (F0 m (pc + 1) ls (.int (iI (iush a b)) :: rest))) : W p l e R s m args below meth c H locs cells slots Q (F0 m (pc) ls (.int (iI b) :: .int (iI a) :: rest)) := lv_iushr hC.1 hC.2.1 hdg (iI_of _).symm k
theorem li_lor (hC : Cx p s m args meth c cc nL ret own) {a b : Int} (hdg : decode cc pc = .ok (.lor, 1)) (k : W p l e R s m args below meth c H locs cells slots Q (F0 m (pc + 1) ls (.long (jI (jor a b)) :: rest))) : W p l e R s m args below meth c H locs cells slots Q (F0 m (pc) ls (.long (jI b) :: .long (jI a) :: rest)) := lv_lor hC.1 hC.2.1 hdg (by rw [jor, jI_of] at k; exact k)
theorem li_land (hC : Cx p s m args meth c cc nL ret own) {a b : Int} (hdg : decode cc pc = .ok (.land, 1)) (k : W p l e R s m args below meth c H locs cells slots Q (F0 m (pc + 1) ls (.long (jI (jand a b)) :: rest))) : W p l e R s m args below meth c H locs cells slots Q (F0 m (pc) ls (.long (jI b) :: .long (jI a) :: rest)) := lv_land hC.1 hC.2.1 hdg (by rw [jand, jI_of] at k; exact k)
theorem li_lxor (hC : Cx p s m args meth c cc nL ret own) {a b : Int} (hdg : decode cc pc = .ok (.lxor, 1)) (k : W p l e R s m args below meth c H locs cells slots Q (F0 m (pc + 1) ls (.long (jI (jxor a b)) :: rest))) : W p l e R s m args below meth c H locs cells slots Q (F0 m (pc) ls (.long (jI b) :: .long (jI a) :: rest)) := lv_lxor hC.1 hC.2.1 hdg (by rw [jxor, jI_of] at k; exact k)
theorem li_lshl (hC : Cx p s m args meth c cc nL ret own) {a b : Int} (hdg : decode cc pc = .ok (.lshl, 1)) (k : W p l e R s m args below meth c H locs cells slots Q (F0 m (pc + 1) ls (.long (jI (jshl a b)) :: rest))) : W p l e R s m args below meth c H locs cells slots Q (F0 m (pc) ls (.int (iI b) :: .long (jI a) :: rest)) := lv_lshl hC.1 hC.2.1 hdg (jI_of _).symm k
theorem li_lshr (hC : Cx p s m args meth c cc nL ret own) {a b : Int} (hdg : decode cc pc = .ok (.lshr, 1)) (k : W p l e R s m args below meth c H locs cells slots Q (F0 m (pc + 1) ls (.long (jI (jshr a b)) :: rest))) : W p l e R s m args below meth c H locs cells slots Q (F0 m (pc) ls (.int (iI b) :: .long (jI a) :: rest)) := lv_lshr hC.1 hC.2.1 hdg (jI_of _).symm k
theorem li_lushr (hC : Cx p s m args meth c cc nL ret own) {a b : Int} (hdg : decode cc pc = .ok (.lushr, 1)) (k : W p l e R s m args below meth c H locs cells slots Q (F0 m (pc + 1) ls (.long (jI (jush a b)) :: rest))) : W p l e R s m args below meth c H locs cells slots Q (F0 m (pc) ls (.int (iI b) :: .long (jI a) :: rest)) := lv_lushr hC.1 hC.2.1 hdg (jI_of _).symm k
theorem li_idiv (hC : Cx p s m args meth c cc nL ret own) {a b : Int} (h0 : b ≠ 0) (hb : rng b) (hdg : decode cc pc = .ok (.idiv, 1)) (k : W p l e R s m args below meth c H locs cells slots Q (F0 m (pc + 1) ls (.int (iI (idiv a b)) :: rest))) : W p l e R s m args below meth c H locs cells slots Q (F0 m (pc) ls (.int (iI b) :: .int (iI a) :: rest)) := lv_idiv hC.1 hC.2.1 hdg (fun h => h0 ((iI_eq hb rng_0).mp h)) (by rw [idiv, iI_of] at k; exact k)
theorem li_irem (hC : Cx p s m args meth c cc nL ret own) {a b : Int} (h0 : b ≠ 0) (hb : rng b) (hdg : decode cc pc = .ok (.irem, 1)) (k : W p l e R s m args below meth c H locs cells slots Q (F0 m (pc + 1) ls (.int (iI (irem a b)) :: rest))) : W p l e R s m args below meth c H locs cells slots Q (F0 m (pc) ls (.int (iI b) :: .int (iI a) :: rest)) := lv_irem hC.1 hC.2.1 hdg (fun h => h0 ((iI_eq hb rng_0).mp h)) (by rw [irem, iI_of] at k; exact k)
theorem li_ldiv (hC : Cx p s m args meth c cc nL ret own) {a b : Int} (h0 : ¬ jI b = 0) (hdg : decode cc pc = .ok (.ldiv, 1)) (k : W p l e R s m args below meth c H locs cells slots Q (F0 m (pc + 1) ls (.long (jI (jdiv a b)) :: rest))) : W p l e R s m args below meth c H locs cells slots Q (F0 m (pc) ls (.long (jI b) :: .long (jI a) :: rest)) := lv_ldiv hC.1 hC.2.1 hdg h0 (by rw [jdiv, jI_of] at k; exact k)
theorem li_lrem (hC : Cx p s m args meth c cc nL ret own) {a b : Int} (h0 : ¬ jI b = 0) (hdg : decode cc pc = .ok (.lrem, 1)) (k : W p l e R s m args below meth c H locs cells slots Q (F0 m (pc + 1) ls (.long (jI (jrem a b)) :: rest))) : W p l e R s m args below meth c H locs cells slots Q (F0 m (pc) ls (.long (jI b) :: .long (jI a) :: rest)) := lv_lrem hC.1 hC.2.1 hdg h0 (by rw [jrem, jI_of] at k; exact k)
theorem li_i2l (hC : Cx p s m args meth c cc nL ret own) {a : Int} (ha : rng a) (hdg : decode cc pc = .ok (.i2l, 1)) (k : W p l e R s m args below meth c H locs cells slots Q (F0 m (pc + 1) ls (.long (jI a) :: rest))) : W p l e R s m args below meth c H locs cells slots Q (F0 m (pc) ls (.int (iI a) :: rest)) := lv_i2l hC.1 hC.2.1 hdg (by rw [← Int64.ofInt_int32ToInt, iI_t ha]; rfl) k
theorem li_l2i (hC : Cx p s m args meth c cc nL ret own) {a : Int} (hdg : decode cc pc = .ok (.l2i, 1)) (k : W p l e R s m args below meth c H locs cells slots Q (F0 m (pc + 1) ls (.int (iI a) :: rest))) : W p l e R s m args below meth c H locs cells slots Q (F0 m (pc) ls (.long (jI a) :: rest)) := lv_l2i hC.1 hC.2.1 hdg (by unfold jI iI; simp) k
theorem li_dup (hC : Cx p s m args meth c cc nL ret own) {v : Value} (hv : v.category = 1) (hdg : decode cc pc = .ok (.dup, 1)) (k : W p l e R s m args below meth c H locs cells slots Q (F0 m (pc + 1) ls (v :: v :: rest))) : W p l e R s m args below meth c H locs cells slots Q (F0 m (pc) ls (v :: rest)) := lv_dup hC.1 hC.2.1 hdg hv k
theorem li_pop (hC : Cx p s m args meth c cc nL ret own) {v : Value} (hv : v.category = 1) (hdg : decode cc pc = .ok (.pop, 1)) (k : W p l e R s m args below meth c H locs cells slots Q (F0 m (pc + 1) ls (rest))) : W p l e R s m args below meth c H locs cells slots Q (F0 m (pc) ls (v :: rest)) := lv_pop hC.1 hC.2.1 hdg hv k
theorem li_dup_x1 (hC : Cx p s m args meth c cc nL ret own) {v w : Value} (hv : v.category = 1) (hw : w.category = 1) (hdg : decode cc pc = .ok (.dup_x1, 1)) (k : W p l e R s m args below meth c H locs cells slots Q (F0 m (pc + 1) ls (v :: w :: v :: rest))) : W p l e R s m args below meth c H locs cells slots Q (F0 m (pc) ls (v :: w :: rest)) := lv_dup_x1 hC.1 hC.2.1 hdg hv hw k
theorem li_dup_x2 (hC : Cx p s m args meth c cc nL ret own) {v w x : Value} (hv : v.category = 1) (hw : w.category = 1) (hx : x.category = 1) (hdg : decode cc pc = .ok (.dup_x2, 1)) (k : W p l e R s m args below meth c H locs cells slots Q (F0 m (pc + 1) ls (v :: w :: x :: v :: rest))) : W p l e R s m args below meth c H locs cells slots Q (F0 m (pc) ls (v :: w :: x :: rest)) := lv_dup_x2 hC.1 hC.2.1 hdg hv hw hx k
theorem li_dup2 (hC : Cx p s m args meth c cc nL ret own) {v w : Value} (hv : v.category = 1) (hw : w.category = 1) (hdg : decode cc pc = .ok (.dup2, 1)) (k : W p l e R s m args below meth c H locs cells slots Q (F0 m (pc + 1) ls (v :: w :: v :: w :: rest))) : W p l e R s m args below meth c H locs cells slots Q (F0 m (pc) ls (v :: w :: rest)) := lv_dup2_11 hC.1 hC.2.1 hdg hv hw k
theorem li_iload_n (hC : Cx p s m args meth c cc nL ret own) {k : Fin 4} {lv : List (Nat × Value)} (hl : lv_has ls nL lv) (j : Nat) {z : Int} (hj : lv[j]? = some ((k : Nat), .int (iI z))) (hdg : decode cc pc = .ok (.iload_n k, 1)) (kk : W p l e R s m args below meth c H locs cells slots Q (F0 m (pc + 1) ls (.int (iI z) :: rest))) : W p l e R s m args below meth c H locs cells slots Q (F0 m (pc) ls (rest)) := lv_iload_n hC.1 hC.2.1 hdg rfl (lv_at hl j hj) kk
theorem li_iload (hC : Cx p s m args meth c cc nL ret own) {i : Nat} {lv : List (Nat × Value)} (hl : lv_has ls nL lv) (j : Nat) {z : Int} (hj : lv[j]? = some (i, .int (iI z))) (hdg : decode cc pc = .ok (.iload i, 2)) (kk : W p l e R s m args below meth c H locs cells slots Q (F0 m (pc + 2) ls (.int (iI z) :: rest))) : W p l e R s m args below meth c H locs cells slots Q (F0 m (pc) ls (rest)) := lv_iload hC.1 hC.2.1 hdg (lv_at hl j hj) kk
theorem li_lload_n (hC : Cx p s m args meth c cc nL ret own) {k : Fin 4} {lv : List (Nat × Value)} (hl : lv_has ls nL lv) (j : Nat) {z : Int} (hj : lv[j]? = some ((k : Nat), .long (jI z))) (hdg : decode cc pc = .ok (.lload_n k, 1)) (kk : W p l e R s m args below meth c H locs cells slots Q (F0 m (pc + 1) ls (.long (jI z) :: rest))) : W p l e R s m args below meth c H locs cells slots Q (F0 m (pc) ls (rest)) := lv_lload_n hC.1 hC.2.1 hdg rfl (lv_at hl j hj) kk
theorem li_lload (hC : Cx p s m args meth c cc nL ret own) {i : Nat} {lv : List (Nat × Value)} (hl : lv_has ls nL lv) (j : Nat) {z : Int} (hj : lv[j]? = some (i, .long (jI z))) (hdg : decode cc pc = .ok (.lload i, 2)) (kk : W p l e R s m args below meth c H locs cells slots Q (F0 m (pc + 2) ls (.long (jI z) :: rest))) : W p l e R s m args below meth c H locs cells slots Q (F0 m (pc) ls (rest)) := lv_lload hC.1 hC.2.1 hdg (lv_at hl j hj) kk
theorem li_aload_n (hC : Cx p s m args meth c cc nL ret own) {k : Fin 4} {lv : List (Nat × Value)} (hl : lv_has ls nL lv) (j : Nat) {x : Nat} (hj : lv[j]? = some ((k : Nat), .ref x)) (hdg : decode cc pc = .ok (.aload_n k, 1)) (kk : W p l e R s m args below meth c H locs cells slots Q (F0 m (pc + 1) ls (.ref x :: rest))) : W p l e R s m args below meth c H locs cells slots Q (F0 m (pc) ls (rest)) := lv_aload_n hC.1 hC.2.1 hdg rfl (lv_at hl j hj) kk
theorem li_aload (hC : Cx p s m args meth c cc nL ret own) {i : Nat} {lv : List (Nat × Value)} (hl : lv_has ls nL lv) (j : Nat) {x : Nat} (hj : lv[j]? = some (i, .ref x)) (hdg : decode cc pc = .ok (.aload i, 2)) (kk : W p l e R s m args below meth c H locs cells slots Q (F0 m (pc + 2) ls (.ref x :: rest))) : W p l e R s m args below meth c H locs cells slots Q (F0 m (pc) ls (rest)) := lv_aload hC.1 hC.2.1 hdg (lv_at hl j hj) kk
theorem li_aload_nN (hC : Cx p s m args meth c cc nL ret own) {k : Fin 4} {lv : List (Nat × Value)} (hl : lv_has ls nL lv) (j : Nat) (hj : lv[j]? = some ((k : Nat), .null)) (hdg : decode cc pc = .ok (.aload_n k, 1)) (kk : W p l e R s m args below meth c H locs cells slots Q (F0 m (pc + 1) ls (.null :: rest))) : W p l e R s m args below meth c H locs cells slots Q (F0 m (pc) ls (rest)) := lv_aload_nN hC.1 hC.2.1 hdg rfl (lv_at hl j hj) kk
theorem li_istore_n (hC : Cx p s m args meth c cc nL ret own) {lv lv' : List (Nat × Value)} (hl : lv_has ls nL lv) {k : Fin 4} {z : Int} (hn : (k : Nat) < nL) (hl2 : ((k : Nat), Value.int (iI z)) :: lv.filter (fun q => !(q.1 == (k : Nat)) && !(q.1 + 1 == (k : Nat) && q.2.category == 2)) = lv') (hdg : decode cc pc = .ok (.istore_n k, 1)) (kk : ∀ ls' : Array Slot, lv_has ls' nL lv' → W p l e R s m args below meth c H locs cells slots Q (F0 m (pc + 1) ls' (rest))) : W p l e R s m args below meth c H locs cells slots Q (F0 m (pc) ls (Value.int (iI z) :: rest)) := lv_istore_n hC.1 hC.2.1 hdg rfl hl hn hl2 kk
theorem li_istore (hC : Cx p s m args meth c cc nL ret own) {lv lv' : List (Nat × Value)} (hl : lv_has ls nL lv) {i : Nat} {z : Int} (hn : i < nL) (hl2 : (i, Value.int (iI z)) :: lv.filter (fun q => !(q.1 == i) && !(q.1 + 1 == i && q.2.category == 2)) = lv') (hdg : decode cc pc = .ok (.istore i, 2)) (kk : ∀ ls' : Array Slot, lv_has ls' nL lv' → W p l e R s m args below meth c H locs cells slots Q (F0 m (pc + 2) ls' (rest))) : W p l e R s m args below meth c H locs cells slots Q (F0 m (pc) ls (Value.int (iI z) :: rest)) := lv_istore hC.1 hC.2.1 hdg hl hn hl2 kk
theorem li_astore_n (hC : Cx p s m args meth c cc nL ret own) {lv lv' : List (Nat × Value)} (hl : lv_has ls nL lv) {k : Fin 4} {x : Nat} (hn : (k : Nat) < nL) (hl2 : ((k : Nat), Value.ref x) :: lv.filter (fun q => !(q.1 == (k : Nat)) && !(q.1 + 1 == (k : Nat) && q.2.category == 2)) = lv') (hdg : decode cc pc = .ok (.astore_n k, 1)) (kk : ∀ ls' : Array Slot, lv_has ls' nL lv' → W p l e R s m args below meth c H locs cells slots Q (F0 m (pc + 1) ls' (rest))) : W p l e R s m args below meth c H locs cells slots Q (F0 m (pc) ls (Value.ref x :: rest)) := lv_astore_n hC.1 hC.2.1 hdg rfl hl hn hl2 kk
theorem li_astore (hC : Cx p s m args meth c cc nL ret own) {lv lv' : List (Nat × Value)} (hl : lv_has ls nL lv) {i : Nat} {x : Nat} (hn : i < nL) (hl2 : (i, Value.ref x) :: lv.filter (fun q => !(q.1 == i) && !(q.1 + 1 == i && q.2.category == 2)) = lv') (hdg : decode cc pc = .ok (.astore i, 2)) (kk : ∀ ls' : Array Slot, lv_has ls' nL lv' → W p l e R s m args below meth c H locs cells slots Q (F0 m (pc + 2) ls' (rest))) : W p l e R s m args below meth c H locs cells slots Q (F0 m (pc) ls (Value.ref x :: rest)) := lv_astore hC.1 hC.2.1 hdg hl hn hl2 kk
theorem li_iinc (hC : Cx p s m args meth c cc nL ret own) {lv lv' : List (Nat × Value)} {i : Nat} {n z : Int} (hl : lv_has ls nL lv) (j : Nat) (hj : lv[j]? = some (i, .int (iI z))) (hn : i < nL) (hl2 : (i, Value.int (iI (z + n))) :: lv.filter (fun q => !(q.1 == i) && !(q.1 + 1 == i && q.2.category == 2)) = lv') (hdg : decode cc pc = .ok (.iinc i n, 3)) (kk : ∀ ls' : Array Slot, lv_has ls' nL lv' → W p l e R s m args below meth c H locs cells slots Q (F0 m (pc + 3) ls' (rest))) : W p l e R s m args below meth c H locs cells slots Q (F0 m (pc) ls (rest)) := lv_iinc hC.1 hC.2.1 hdg hl hj (iI_add z n) hn hl2 kk
theorem li_icmp_lt (hC : Cx p s m args meth c cc nL ret own) {a b : Int} {off : Int} {tgt : Nat} (ht : (pc : Int) + off = (tgt : Int)) (ha : rng a) (hb : rng b) (hdg : decode cc pc = .ok (.if_icmp .lt off, 3)) (kt : a < b → W p l e R s m args below meth c H locs cells slots Q (F0 m (tgt) ls (rest))) (kf : b ≤ a → W p l e R s m args below meth c H locs cells slots Q (F0 m (pc + 3) ls (rest))) : W p l e R s m args below meth c H locs cells slots Q (F0 m (pc) ls (.int (iI b) :: .int (iI a) :: rest)) := by
  have e1 := iI_lt ha hb
  have e2 := iI_lt hb ha
  have e3 := iI_le ha hb
  have e4 := iI_le hb ha
  have e5 := iI_eq ha hb
  exact lv_icmp_lt hC.1 hC.2.1 hdg ht (fun h => kt (by simp only [e1, e2, e3, e4, e5, gt_iff_lt, ge_iff_le, ne_eq] at h ⊢; omega)) (fun h => kf (by simp only [e1, e2, e3, e4, e5, gt_iff_lt, ge_iff_le, ne_eq] at h ⊢; omega))
theorem li_icmp_le (hC : Cx p s m args meth c cc nL ret own) {a b : Int} {off : Int} {tgt : Nat} (ht : (pc : Int) + off = (tgt : Int)) (ha : rng a) (hb : rng b) (hdg : decode cc pc = .ok (.if_icmp .le off, 3)) (kt : a ≤ b → W p l e R s m args below meth c H locs cells slots Q (F0 m (tgt) ls (rest))) (kf : b < a → W p l e R s m args below meth c H locs cells slots Q (F0 m (pc + 3) ls (rest))) : W p l e R s m args below meth c H locs cells slots Q (F0 m (pc) ls (.int (iI b) :: .int (iI a) :: rest)) := by
  have e1 := iI_lt ha hb
  have e2 := iI_lt hb ha
  have e3 := iI_le ha hb
  have e4 := iI_le hb ha
  have e5 := iI_eq ha hb
  exact lv_icmp_le hC.1 hC.2.1 hdg ht (fun h => kt (by simp only [e1, e2, e3, e4, e5, gt_iff_lt, ge_iff_le, ne_eq] at h ⊢; omega)) (fun h => kf (by simp only [e1, e2, e3, e4, e5, gt_iff_lt, ge_iff_le, ne_eq] at h ⊢; omega))
theorem li_icmp_gt (hC : Cx p s m args meth c cc nL ret own) {a b : Int} {off : Int} {tgt : Nat} (ht : (pc : Int) + off = (tgt : Int)) (ha : rng a) (hb : rng b) (hdg : decode cc pc = .ok (.if_icmp .gt off, 3)) (kt : b < a → W p l e R s m args below meth c H locs cells slots Q (F0 m (tgt) ls (rest))) (kf : a ≤ b → W p l e R s m args below meth c H locs cells slots Q (F0 m (pc + 3) ls (rest))) : W p l e R s m args below meth c H locs cells slots Q (F0 m (pc) ls (.int (iI b) :: .int (iI a) :: rest)) := by
  have e1 := iI_lt ha hb
  have e2 := iI_lt hb ha
  have e3 := iI_le ha hb
  have e4 := iI_le hb ha
  have e5 := iI_eq ha hb
  exact lv_icmp_gt hC.1 hC.2.1 hdg ht (fun h => kt (by simp only [e1, e2, e3, e4, e5, gt_iff_lt, ge_iff_le, ne_eq] at h ⊢; omega)) (fun h => kf (by simp only [e1, e2, e3, e4, e5, gt_iff_lt, ge_iff_le, ne_eq] at h ⊢; omega))
theorem li_icmp_ge (hC : Cx p s m args meth c cc nL ret own) {a b : Int} {off : Int} {tgt : Nat} (ht : (pc : Int) + off = (tgt : Int)) (ha : rng a) (hb : rng b) (hdg : decode cc pc = .ok (.if_icmp .ge off, 3)) (kt : b ≤ a → W p l e R s m args below meth c H locs cells slots Q (F0 m (tgt) ls (rest))) (kf : a < b → W p l e R s m args below meth c H locs cells slots Q (F0 m (pc + 3) ls (rest))) : W p l e R s m args below meth c H locs cells slots Q (F0 m (pc) ls (.int (iI b) :: .int (iI a) :: rest)) := by
  have e1 := iI_lt ha hb
  have e2 := iI_lt hb ha
  have e3 := iI_le ha hb
  have e4 := iI_le hb ha
  have e5 := iI_eq ha hb
  exact lv_icmp_ge hC.1 hC.2.1 hdg ht (fun h => kt (by simp only [e1, e2, e3, e4, e5, gt_iff_lt, ge_iff_le, ne_eq] at h ⊢; omega)) (fun h => kf (by simp only [e1, e2, e3, e4, e5, gt_iff_lt, ge_iff_le, ne_eq] at h ⊢; omega))
theorem li_icmp_eq (hC : Cx p s m args meth c cc nL ret own) {a b : Int} {off : Int} {tgt : Nat} (ht : (pc : Int) + off = (tgt : Int)) (ha : rng a) (hb : rng b) (hdg : decode cc pc = .ok (.if_icmp .eq off, 3)) (kt : a = b → W p l e R s m args below meth c H locs cells slots Q (F0 m (tgt) ls (rest))) (kf : a ≠ b → W p l e R s m args below meth c H locs cells slots Q (F0 m (pc + 3) ls (rest))) : W p l e R s m args below meth c H locs cells slots Q (F0 m (pc) ls (.int (iI b) :: .int (iI a) :: rest)) := by
  have e1 := iI_lt ha hb
  have e2 := iI_lt hb ha
  have e3 := iI_le ha hb
  have e4 := iI_le hb ha
  have e5 := iI_eq ha hb
  exact lv_icmp_eq hC.1 hC.2.1 hdg ht (fun h => kt (by simp only [e1, e2, e3, e4, e5, gt_iff_lt, ge_iff_le, ne_eq] at h ⊢; omega)) (fun h => kf (by simp only [e1, e2, e3, e4, e5, gt_iff_lt, ge_iff_le, ne_eq] at h ⊢; omega))
theorem li_icmp_ne (hC : Cx p s m args meth c cc nL ret own) {a b : Int} {off : Int} {tgt : Nat} (ht : (pc : Int) + off = (tgt : Int)) (ha : rng a) (hb : rng b) (hdg : decode cc pc = .ok (.if_icmp .ne off, 3)) (kt : a ≠ b → W p l e R s m args below meth c H locs cells slots Q (F0 m (tgt) ls (rest))) (kf : a = b → W p l e R s m args below meth c H locs cells slots Q (F0 m (pc + 3) ls (rest))) : W p l e R s m args below meth c H locs cells slots Q (F0 m (pc) ls (.int (iI b) :: .int (iI a) :: rest)) := by
  have e1 := iI_lt ha hb
  have e2 := iI_lt hb ha
  have e3 := iI_le ha hb
  have e4 := iI_le hb ha
  have e5 := iI_eq ha hb
  exact lv_icmp_ne hC.1 hC.2.1 hdg ht (fun h => kt (by simp only [e1, e2, e3, e4, e5, gt_iff_lt, ge_iff_le, ne_eq] at h ⊢; omega)) (fun h => kf (by simp only [e1, e2, e3, e4, e5, gt_iff_lt, ge_iff_le, ne_eq] at h ⊢; omega))
theorem li_if_lt (hC : Cx p s m args meth c cc nL ret own) {a : Int} {off : Int} {tgt : Nat} (ht : (pc : Int) + off = (tgt : Int)) (ha : rng a) (hdg : decode cc pc = .ok (.ifCond .lt off, 3)) (kt : a < 0 → W p l e R s m args below meth c H locs cells slots Q (F0 m (tgt) ls (rest))) (kf : 0 ≤ a → W p l e R s m args below meth c H locs cells slots Q (F0 m (pc + 3) ls (rest))) : W p l e R s m args below meth c H locs cells slots Q (F0 m (pc) ls (.int (iI a) :: rest)) := by
  have e1 := iI_lt ha rng_0
  have e2 := iI_lt rng_0 ha
  have e3 := iI_le ha rng_0
  have e4 := iI_le rng_0 ha
  have e5 := iI_eq ha rng_0
  rw [iI_0] at e1 e2 e3 e4 e5
  exact lv_if_lt hC.1 hC.2.1 hdg ht (fun h => kt (by simp only [e1, e2, e3, e4, e5, gt_iff_lt, ge_iff_le, ne_eq] at h ⊢; omega)) (fun h => kf (by simp only [e1, e2, e3, e4, e5, gt_iff_lt, ge_iff_le, ne_eq] at h ⊢; omega))
theorem li_if_le (hC : Cx p s m args meth c cc nL ret own) {a : Int} {off : Int} {tgt : Nat} (ht : (pc : Int) + off = (tgt : Int)) (ha : rng a) (hdg : decode cc pc = .ok (.ifCond .le off, 3)) (kt : a ≤ 0 → W p l e R s m args below meth c H locs cells slots Q (F0 m (tgt) ls (rest))) (kf : 0 < a → W p l e R s m args below meth c H locs cells slots Q (F0 m (pc + 3) ls (rest))) : W p l e R s m args below meth c H locs cells slots Q (F0 m (pc) ls (.int (iI a) :: rest)) := by
  have e1 := iI_lt ha rng_0
  have e2 := iI_lt rng_0 ha
  have e3 := iI_le ha rng_0
  have e4 := iI_le rng_0 ha
  have e5 := iI_eq ha rng_0
  rw [iI_0] at e1 e2 e3 e4 e5
  exact lv_if_le hC.1 hC.2.1 hdg ht (fun h => kt (by simp only [e1, e2, e3, e4, e5, gt_iff_lt, ge_iff_le, ne_eq] at h ⊢; omega)) (fun h => kf (by simp only [e1, e2, e3, e4, e5, gt_iff_lt, ge_iff_le, ne_eq] at h ⊢; omega))
theorem li_if_gt (hC : Cx p s m args meth c cc nL ret own) {a : Int} {off : Int} {tgt : Nat} (ht : (pc : Int) + off = (tgt : Int)) (ha : rng a) (hdg : decode cc pc = .ok (.ifCond .gt off, 3)) (kt : 0 < a → W p l e R s m args below meth c H locs cells slots Q (F0 m (tgt) ls (rest))) (kf : a ≤ 0 → W p l e R s m args below meth c H locs cells slots Q (F0 m (pc + 3) ls (rest))) : W p l e R s m args below meth c H locs cells slots Q (F0 m (pc) ls (.int (iI a) :: rest)) := by
  have e1 := iI_lt ha rng_0
  have e2 := iI_lt rng_0 ha
  have e3 := iI_le ha rng_0
  have e4 := iI_le rng_0 ha
  have e5 := iI_eq ha rng_0
  rw [iI_0] at e1 e2 e3 e4 e5
  exact lv_if_gt hC.1 hC.2.1 hdg ht (fun h => kt (by simp only [e1, e2, e3, e4, e5, gt_iff_lt, ge_iff_le, ne_eq] at h ⊢; omega)) (fun h => kf (by simp only [e1, e2, e3, e4, e5, gt_iff_lt, ge_iff_le, ne_eq] at h ⊢; omega))
theorem li_if_ge (hC : Cx p s m args meth c cc nL ret own) {a : Int} {off : Int} {tgt : Nat} (ht : (pc : Int) + off = (tgt : Int)) (ha : rng a) (hdg : decode cc pc = .ok (.ifCond .ge off, 3)) (kt : 0 ≤ a → W p l e R s m args below meth c H locs cells slots Q (F0 m (tgt) ls (rest))) (kf : a < 0 → W p l e R s m args below meth c H locs cells slots Q (F0 m (pc + 3) ls (rest))) : W p l e R s m args below meth c H locs cells slots Q (F0 m (pc) ls (.int (iI a) :: rest)) := by
  have e1 := iI_lt ha rng_0
  have e2 := iI_lt rng_0 ha
  have e3 := iI_le ha rng_0
  have e4 := iI_le rng_0 ha
  have e5 := iI_eq ha rng_0
  rw [iI_0] at e1 e2 e3 e4 e5
  exact lv_if_ge hC.1 hC.2.1 hdg ht (fun h => kt (by simp only [e1, e2, e3, e4, e5, gt_iff_lt, ge_iff_le, ne_eq] at h ⊢; omega)) (fun h => kf (by simp only [e1, e2, e3, e4, e5, gt_iff_lt, ge_iff_le, ne_eq] at h ⊢; omega))
theorem li_if_eq (hC : Cx p s m args meth c cc nL ret own) {a : Int} {off : Int} {tgt : Nat} (ht : (pc : Int) + off = (tgt : Int)) (ha : rng a) (hdg : decode cc pc = .ok (.ifCond .eq off, 3)) (kt : a = 0 → W p l e R s m args below meth c H locs cells slots Q (F0 m (tgt) ls (rest))) (kf : a ≠ 0 → W p l e R s m args below meth c H locs cells slots Q (F0 m (pc + 3) ls (rest))) : W p l e R s m args below meth c H locs cells slots Q (F0 m (pc) ls (.int (iI a) :: rest)) := by
  have e1 := iI_lt ha rng_0
  have e2 := iI_lt rng_0 ha
  have e3 := iI_le ha rng_0
  have e4 := iI_le rng_0 ha
  have e5 := iI_eq ha rng_0
  rw [iI_0] at e1 e2 e3 e4 e5
  exact lv_if_eq hC.1 hC.2.1 hdg ht (fun h => kt (by simp only [e1, e2, e3, e4, e5, gt_iff_lt, ge_iff_le, ne_eq] at h ⊢; omega)) (fun h => kf (by simp only [e1, e2, e3, e4, e5, gt_iff_lt, ge_iff_le, ne_eq] at h ⊢; omega))
theorem li_if_ne (hC : Cx p s m args meth c cc nL ret own) {a : Int} {off : Int} {tgt : Nat} (ht : (pc : Int) + off = (tgt : Int)) (ha : rng a) (hdg : decode cc pc = .ok (.ifCond .ne off, 3)) (kt : a ≠ 0 → W p l e R s m args below meth c H locs cells slots Q (F0 m (tgt) ls (rest))) (kf : a = 0 → W p l e R s m args below meth c H locs cells slots Q (F0 m (pc + 3) ls (rest))) : W p l e R s m args below meth c H locs cells slots Q (F0 m (pc) ls (.int (iI a) :: rest)) := by
  have e1 := iI_lt ha rng_0
  have e2 := iI_lt rng_0 ha
  have e3 := iI_le ha rng_0
  have e4 := iI_le rng_0 ha
  have e5 := iI_eq ha rng_0
  rw [iI_0] at e1 e2 e3 e4 e5
  exact lv_if_ne hC.1 hC.2.1 hdg ht (fun h => kt (by simp only [e1, e2, e3, e4, e5, gt_iff_lt, ge_iff_le, ne_eq] at h ⊢; omega)) (fun h => kf (by simp only [e1, e2, e3, e4, e5, gt_iff_lt, ge_iff_le, ne_eq] at h ⊢; omega))
theorem li_ifeq_b (hC : Cx p s m args meth c cc nL ret own) {P : Prop} {off : Int} {tgt : Nat} (ht : (pc : Int) + off = (tgt : Int)) (hdg : decode cc pc = .ok (.ifCond .eq off, 3)) (kt : ¬ P → W p l e R s m args below meth c H locs cells slots Q (F0 m (tgt) ls (rest))) (kf : P → W p l e R s m args below meth c H locs cells slots Q (F0 m (pc + 3) ls (rest))) : W p l e R s m args below meth c H locs cells slots Q (F0 m (pc) ls (.int (iI (b2 P)) :: rest)) := li_if_eq hC ht (b2_rng P) hdg (fun h => kt (b2_eq0.mp h)) (fun h => kf (Classical.byContradiction fun hp => h (b2_f hp)))
theorem li_ifne_b (hC : Cx p s m args meth c cc nL ret own) {P : Prop} {off : Int} {tgt : Nat} (ht : (pc : Int) + off = (tgt : Int)) (hdg : decode cc pc = .ok (.ifCond .ne off, 3)) (kt : P → W p l e R s m args below meth c H locs cells slots Q (F0 m (tgt) ls (rest))) (kf : ¬ P → W p l e R s m args below meth c H locs cells slots Q (F0 m (pc + 3) ls (rest))) : W p l e R s m args below meth c H locs cells slots Q (F0 m (pc) ls (.int (iI (b2 P)) :: rest)) := li_if_ne hC ht (b2_rng P) hdg (fun h => kt (Classical.byContradiction fun hp => h (b2_f hp))) (fun h => kf (b2_eq0.mp h))
theorem li_goto (hC : Cx p s m args meth c cc nL ret own) {off : Int} {tgt : Nat} (ht : (pc : Int) + off = (tgt : Int)) (hdg : decode cc pc = .ok (.goto off, 3)) (k : W p l e R s m args below meth c H locs cells slots Q (F0 m (tgt) ls (rest))) : W p l e R s m args below meth c H locs cells slots Q (F0 m (pc) ls (rest)) := lv_goto hC.1 hC.2.1 hdg ht k
theorem li_tableIn (hC : Cx p s m args meth c cc nL ret own) {dflt lo hi : Int} {offs : Array Int} {len : Nat} {a : Int} {off : Int} {tgt : Nat} (ha : rng a) (h1 : lo ≤ a) (h2 : a ≤ hi) (ho : offs[(a - lo).toNat]? = some off) (ht : (pc : Int) + off = (tgt : Int)) (hdg : decode cc pc = .ok (.tableswitch dflt lo hi offs, len)) (k : W p l e R s m args below meth c H locs cells slots Q (F0 m (tgt) ls (rest))) : W p l e R s m args below meth c H locs cells slots Q (F0 m (pc) ls (.int (iI a) :: rest)) := lv_tableIn hC.1 hC.2.1 hdg (by rw [iI_t ha]; omega) (by rw [iI_t ha]; omega) (by rw [iI_t ha]; exact ho) ht k
theorem li_tableOut (hC : Cx p s m args meth c cc nL ret own) {dflt lo hi : Int} {offs : Array Int} {len : Nat} {a : Int} {tgt : Nat} (ha : rng a) (h : a < lo ∨ hi < a) (ht : (pc : Int) + dflt = (tgt : Int)) (hdg : decode cc pc = .ok (.tableswitch dflt lo hi offs, len)) (k : W p l e R s m args below meth c H locs cells slots Q (F0 m (tgt) ls (rest))) : W p l e R s m args below meth c H locs cells slots Q (F0 m (pc) ls (.int (iI a) :: rest)) := lv_tableOut hC.1 hC.2.1 hdg (by rw [iI_t ha]; exact h) ht k
theorem li_lookup (hC : Cx p s m args meth c cc nL ret own) {dflt : Int} {ps : Array (Int × Int)} {len : Nat} {a : Int} {off : Int} {tgt : Nat} (ha : rng a) (hp : (ps.toList.zip (ps.toList.drop 1)).all (fun (a, next) => a.1 < next.1) = true) (ho : Op.lookupswitch.offset ps.toList dflt a = off) (ht : (pc : Int) + off = (tgt : Int)) (hdg : decode cc pc = .ok (.lookupswitch dflt ps, len)) (k : W p l e R s m args below meth c H locs cells slots Q (F0 m (tgt) ls (rest))) : W p l e R s m args below meth c H locs cells slots Q (F0 m (pc) ls (.int (iI a) :: rest)) := lv_lookup hC.1 hC.2.1 hdg hp (by rw [iI_t ha]; exact ho) ht k
theorem li_ifnull (hC : Cx p s m args meth c cc nL ret own) {x : Nat} {off : Int} (hdg : decode cc pc = .ok (.ifnull off, 3)) (k : W p l e R s m args below meth c H locs cells slots Q (F0 m (pc + 3) ls (rest))) : W p l e R s m args below meth c H locs cells slots Q (F0 m (pc) ls (.ref x :: rest)) := lv_ifnull hC.1 hC.2.1 hdg k
theorem li_ifnonnull (hC : Cx p s m args meth c cc nL ret own) {x : Nat} {off : Int} {tgt : Nat} (ht : (pc : Int) + off = (tgt : Int)) (hdg : decode cc pc = .ok (.ifnonnull off, 3)) (k : W p l e R s m args below meth c H locs cells slots Q (F0 m (tgt) ls (rest))) : W p l e R s m args below meth c H locs cells slots Q (F0 m (pc) ls (.ref x :: rest)) := lv_ifnonnull hC.1 hC.2.1 hdg ht k
theorem li_ifnullN (hC : Cx p s m args meth c cc nL ret own) {off : Int} {tgt : Nat} (ht : (pc : Int) + off = (tgt : Int)) (hdg : decode cc pc = .ok (.ifnull off, 3)) (k : W p l e R s m args below meth c H locs cells slots Q (F0 m (tgt) ls (rest))) : W p l e R s m args below meth c H locs cells slots Q (F0 m (pc) ls (.null :: rest)) := lv_ifnullN hC.1 hC.2.1 hdg ht k
theorem li_ifnonnullN (hC : Cx p s m args meth c cc nL ret own) {off : Int} (hdg : decode cc pc = .ok (.ifnonnull off, 3)) (k : W p l e R s m args below meth c H locs cells slots Q (F0 m (pc + 3) ls (rest))) : W p l e R s m args below meth c H locs cells slots Q (F0 m (pc) ls (.null :: rest)) := lv_ifnonnullN hC.1 hC.2.1 hdg k
theorem li_null (hC : Cx p s m args meth c cc nL ret own)  (hdg : decode cc pc = .ok (.aconst_null, 1)) (k : W p l e R s m args below meth c H locs cells slots Q (F0 m (pc + 1) ls (.null :: rest))) : W p l e R s m args below meth c H locs cells slots Q (F0 m (pc) ls (rest)) := lv_null hC.1 hC.2.1 hdg k
theorem li_get (hC : Cx p s m args meth c cc nL ret own) (hK : KU g s) {C : String} {T : u_T} {N ci : Nat} {ty : Nat → FieldType} (hk : COK ci C T N ty) {a : Nat} {fs : List Value} (ho : va_at g.1 vwCl (a, .inr (ci, fs)) H) (k : Nat) (hkN : k < N) {ix : Nat} {ref : String} (hlink : Cond.fieldLink own ix ref (T k).2.1 (T k).2.2.1 ∈ allW) (href : (T k).1 = ref) {v : Value} (hv : fs[k]? = some v) (hdg : decode cc pc = .ok (.getfield ix, 3)) (kk : W p l e R s m args below meth c H locs cells slots Q (F0 m (pc + 3) ls (v :: rest))) : W p l e R s m args below meth c H locs cells slots Q (F0 m (pc) ls (.ref a :: rest)) := va_get (ci := ci) hC.1 hC.2.1 hC.2.2.2.2.2.1 hk.2.1 hC.2.2.2.2.1 hK.1 (P1 ho) 0 rfl hk.1 k hkN (hC.2.2.2.2.2.1 _ hlink) (by subst href; exact fun _ h9 => h9) hv hdg kk
theorem li_iald (hC : Cx p s m args meth c cc nL ret own) (hK : KU g s) {a n : Nat} {f : Nat → Int} (ha : va_at g.1 vwCl (a, .inl (g.2.1 0, n, .inl (aI f))) H) {z : Int} (hz : 0 ≤ z ∧ z < n) (hn : n < 2147483648) (hdg : decode cc pc = .ok (.iaload, 1)) (kk : W p l e R s m args below meth c H locs cells slots Q (F0 m (pc + 1) ls (.int (iI (f z.toNat)) :: rest))) : W p l e R s m args below meth c H locs cells slots Q (F0 m (pc) ls (.int (iI z) :: .ref a :: rest)) := va_iald hC.1 hC.2.1 hK.1 (P1 ha) 0 0 rfl rfl (iI_in hz hn) hdg (by rw [iI_clamp hz.1 (by omega)]; exact kk)
theorem li_zald (hC : Cx p s m args meth c cc nL ret own) (hK : KU g s) {a n : Nat} {f : Nat → Int} (ha : va_at g.1 vwCl (a, .inl (g.2.1 1, n, .inl (aI f))) H) {z : Int} (hz : 0 ≤ z ∧ z < n) (hn : n < 2147483648) (hdg : decode cc pc = .ok (.baload, 1)) (kk : W p l e R s m args below meth c H locs cells slots Q (F0 m (pc + 1) ls (.int (iI (f z.toNat)) :: rest))) : W p l e R s m args below meth c H locs cells slots Q (F0 m (pc) ls (.int (iI z) :: .ref a :: rest)) := va_zald hC.1 hC.2.1 hK.1 (P1 ha) 0 1 rfl rfl (iI_in hz hn) hdg (by rw [iI_clamp hz.1 (by omega)]; exact kk)
theorem li_alen (hC : Cx p s m args meth c cc nL ret own) (hK : KU g s) {a n : Nat} {f : Nat → Int} {k : Nat} {cA : ClassId} {ty : FieldType} (ha : va_at g.1 vwCl (a, .inl (cA, n, .inl (aI f))) H) (hk : (tys3 g)[k]? = some (cA, ty)) (hdg : decode cc pc = .ok (.arraylength, 1)) (kk : W p l e R s m args below meth c H locs cells slots Q (F0 m (pc + 1) ls (.int (iI (n : Int)) :: rest))) : W p l e R s m args below meth c H locs cells slots Q (F0 m (pc) ls (.ref a :: rest)) := va_alen hC.1 hC.2.1 hK.1 (P1 ha) 0 k rfl hk (v := iI (n : Int)) (iI_nat n).symm hdg kk
theorem ro_iret (hC : Cx p s m args meth c cc nL (some .int) own) {post : Int32 → Prop} {v : Int32} (hp : post v) (hdg : decode cc pc = .ok (.ireturn, 1)) : W p l e R s m args below meth c s.heap [] 0 0 (MQ below (vp_Si post) args s 0 0 (fun _ => False)) (F0 m pc ls [.int v]) := W.iret hC.1 hC.2.1 hC.2.2.1 (fun t ht _ => ⟨v, rfl, hp, ht⟩) (fun _ h => by cases h) hdg hC.2.2.2.2.2.2
theorem ro_zret (hC : Cx p s m args meth c cc nL (some .boolean) own) {post : Int32 → Prop} {z : Int} (hz : z = 0 ∨ z = 1) (hp : post (iI z)) (hdg : decode cc pc = .ok (.ireturn, 1)) : W p l e R s m args below meth c s.heap [] 0 0 (MQ below (vp_Si post) args s 0 0 (fun _ => False)) (F0 m pc ls [.int (iI z)]) := W.zret hC.1 hC.2.1 hC.2.2.1 (nar_01 hz) (fun t ht _ => ⟨iI z, rfl, hp, ht⟩) (fun _ h => by cases h) hdg hC.2.2.2.2.2.2
theorem ro_lret (hC : Cx p s m args meth c cc nL (some .long) own) {post : Int64 → Prop} {v : Int64} (hp : post v) (hdg : decode cc pc = .ok (.lreturn, 1)) : W p l e R s m args below meth c s.heap [] 0 0 (MQ below (vp_Sl post) args s 0 0 (fun _ => False)) (F0 m pc ls [.long v]) := W.lret hC.1 hC.2.1 hC.2.2.1 (fun t ht _ => ⟨v, rfl, hp, ht⟩) (fun _ h => by cases h) hdg hC.2.2.2.2.2.2
theorem ro_callVi (hC : Cx p s m args meth c cc nL ret own) {C : String} {b : Nat} {y : MethodName} {bytes : ByteArray} {maxL : Nat} {rt : Option FieldType} {k : Nat} {Pic : Heap → Prop} {ix n : Nat} {As st0 : List Value} {v : Int32} (hM : Met l y (wsA y bytes maxL rt) (rmL k) (ro_P g (.ref b :: As) Pic) (vp_Si (fun r => r = v)) 0 0 (fun _ => False)) (hy : MOK C y bytes maxL rt n) (hlink : Cond.methodLink own ix y ∈ allW) (hR : RR k R) (hcs : cells ≤ R.cells ∧ slots ≤ R.slots) (hK : KU g s) (hE : EnvG g NoA s H) (hPic : Pic H) (hrecv : ∃ cell : Cell, H[b]? = some cell ∧ cell.vm.isStatics = false ∧ s.vm.findClass C = some cell.cls) (hn : As.length = n) (hsz : ls.size = nL) (hst : st0 = As.reverse ++ .ref b :: rest) (hW : (rest.map fun v => v.category).sum ≤ 8) (hdg : decode cc pc = .ok (.invokevirtual ix, 3)) (kk : W p l e R s m args below meth c H locs cells slots Q (F0 m (pc + 3) ls (.int v :: rest))) : W p l e R s m args below meth c H locs cells slots Q (F0 m (pc) ls (st0)) := by
  subst hst
  have hG : GoodIn allW (wsV own ix C y (wsA y bytes maxL rt)) := by
    intro w hw
    simp only [wsV, wsA, List.cons_append, List.nil_append, List.mem_cons] at hw
    rcases hw with rfl | rfl | rfl | rfl | rfl | hw
    · exact ⟨hlink, allW_good _ hlink⟩
    · exact ⟨hy.1.1, allW_good _ hy.1.1⟩
    · exact ⟨hy.1.2.1, allW_good _ hy.1.2.1⟩
    · exact ⟨hy.1.2.2.1, allW_good _ hy.1.2.2.1⟩
    · exact ⟨hy.1.2.2.2, allW_good _ hy.1.2.2.2⟩
    · exact ⟨hw, allW_good _ hw⟩
  have hmx := hy.2.2
  refine vp_callSi (post := fun r => r = v) (W.runV (C := C) (cc := cc) (nL := nL) (Ts := allW) (own := own) (b := b) (As := As) (rest := rest) (index := ix) (n := n) (g := F0 m pc ls (As.reverse ++ .ref b :: rest)) ⟨hC.1, hC.2.1, hC.2.2.2.1, hC.2.2.2.2.1, hC.2.2.2.2.2.1⟩ hM (cwV n hC.2.2.2.2.2.1 hG rfl rfl rfl hy.2.1 ⟨hR.1, by have h2 := hR.2; show 8 + (maxL + 11) + 40 * k ≤ _; omega⟩) ⟨ro_blind, hrecv, fun U hU hW => ⟨rfl, hK.warm hW, by rw [hU]; exact hE.moved hW.alike, by rw [hU]; exact hPic⟩⟩ rfl hn hsz rfl (lv_room hW) hdg hcs) (fun r hr => ?_)
  subst hr
  exact kk
theorem ro_callSi (hC : Cx p s m args meth c cc nL ret own) {y : MethodName} {bytes : ByteArray} {maxL : Nat} {rt : Option FieldType} {k : Nat} {Pic : Heap → Prop} {ix n : Nat} {As st0 : List Value} {v : Int32} (hM : Met l y (wsA y bytes maxL rt) (rmL k) (ro_P g As Pic) (vp_Si (fun r => r = v)) 0 0 (fun _ => False)) (hy : MOS y bytes maxL rt n) (hlink : Cond.methodLink own ix y ∈ allW) (hR : RR k R) (hcs : cells ≤ R.cells ∧ slots ≤ R.slots) (hK : KU g s) (hE : EnvG g NoA s H) (hPic : Pic H) (hn : As.length = n) (hsz : ls.size = nL) (hst : st0 = As.reverse ++ rest) (hW : (rest.map fun v => v.category).sum ≤ 8) (hdg : decode cc pc = .ok (.invokestatic ix, 3)) (kk : W p l e R s m args below meth c H locs cells slots Q (F0 m (pc + 3) ls (.int v :: rest))) : W p l e R s m args below meth c H locs cells slots Q (F0 m (pc) ls (st0)) := by
  subst hst
  have hG : GoodIn allW (va_wsS own ix y (wsA y bytes maxL rt)) := by
    intro w hw
    simp only [va_wsS, wsA, List.cons_append, List.nil_append, List.mem_cons] at hw
    rcases hw with rfl | rfl | rfl | rfl | hw
    · exact ⟨hlink, allW_good _ hlink⟩
    · exact ⟨hy.1.1, allW_good _ hy.1.1⟩
    · exact ⟨hy.1.2.1, allW_good _ hy.1.2.1⟩
    · exact ⟨hy.1.2.2, allW_good _ hy.1.2.2⟩
    · exact ⟨hw, allW_good _ hw⟩
  have hmx := hy.2.2
  refine vp_callSi (post := fun r => r = v) (W.runS (cc := cc) (nL := nL) (Ts := allW) (own := own) (As := As) (rest := rest) (index := ix) (n := n) (g := F0 m pc ls (As.reverse ++ rest)) ⟨hC.1, hC.2.1, hC.2.2.2.1, hC.2.2.2.2.1, hC.2.2.2.2.2.1⟩ hM (va_cwS n hC.2.2.2.2.2.1 hG rfl rfl rfl hy.2.1 ⟨hR.1, by have h2 := hR.2; show 8 + (maxL + 11) + 40 * k ≤ _; omega⟩) ⟨ro_blind, fun U hU hW => ⟨rfl, hK.warm hW, by rw [hU]; exact hE.moved hW.alike, by rw [hU]; exact hPic⟩⟩ rfl hn hsz rfl (lv_room hW) hdg hcs) (fun r hr => ?_)
  subst hr
  exact kk
theorem ro_callVl (hC : Cx p s m args meth c cc nL ret own) {C : String} {b : Nat} {y : MethodName} {bytes : ByteArray} {maxL : Nat} {rt : Option FieldType} {k : Nat} {Pic : Heap → Prop} {ix n : Nat} {As st0 : List Value} {v : Int64} (hM : Met l y (wsA y bytes maxL rt) (rmL k) (ro_P g (.ref b :: As) Pic) (vp_Sl (fun r => r = v)) 0 0 (fun _ => False)) (hy : MOK C y bytes maxL rt n) (hlink : Cond.methodLink own ix y ∈ allW) (hR : RR k R) (hcs : cells ≤ R.cells ∧ slots ≤ R.slots) (hK : KU g s) (hE : EnvG g NoA s H) (hPic : Pic H) (hrecv : ∃ cell : Cell, H[b]? = some cell ∧ cell.vm.isStatics = false ∧ s.vm.findClass C = some cell.cls) (hn : As.length = n) (hsz : ls.size = nL) (hst : st0 = As.reverse ++ .ref b :: rest) (hW : (rest.map fun v => v.category).sum ≤ 8) (hdg : decode cc pc = .ok (.invokevirtual ix, 3)) (kk : W p l e R s m args below meth c H locs cells slots Q (F0 m (pc + 3) ls (.long v :: rest))) : W p l e R s m args below meth c H locs cells slots Q (F0 m (pc) ls (st0)) := by
  subst hst
  have hG : GoodIn allW (wsV own ix C y (wsA y bytes maxL rt)) := by
    intro w hw
    simp only [wsV, wsA, List.cons_append, List.nil_append, List.mem_cons] at hw
    rcases hw with rfl | rfl | rfl | rfl | rfl | hw
    · exact ⟨hlink, allW_good _ hlink⟩
    · exact ⟨hy.1.1, allW_good _ hy.1.1⟩
    · exact ⟨hy.1.2.1, allW_good _ hy.1.2.1⟩
    · exact ⟨hy.1.2.2.1, allW_good _ hy.1.2.2.1⟩
    · exact ⟨hy.1.2.2.2, allW_good _ hy.1.2.2.2⟩
    · exact ⟨hw, allW_good _ hw⟩
  have hmx := hy.2.2
  refine vp_callSl (post := fun r => r = v) (W.runV (C := C) (cc := cc) (nL := nL) (Ts := allW) (own := own) (b := b) (As := As) (rest := rest) (index := ix) (n := n) (g := F0 m pc ls (As.reverse ++ .ref b :: rest)) ⟨hC.1, hC.2.1, hC.2.2.2.1, hC.2.2.2.2.1, hC.2.2.2.2.2.1⟩ hM (cwV n hC.2.2.2.2.2.1 hG rfl rfl rfl hy.2.1 ⟨hR.1, by have h2 := hR.2; show 8 + (maxL + 11) + 40 * k ≤ _; omega⟩) ⟨ro_blind, hrecv, fun U hU hW => ⟨rfl, hK.warm hW, by rw [hU]; exact hE.moved hW.alike, by rw [hU]; exact hPic⟩⟩ rfl hn hsz rfl (lv_room hW) hdg hcs) (fun r hr => ?_)
  subst hr
  exact kk
theorem ro_callSl (hC : Cx p s m args meth c cc nL ret own) {y : MethodName} {bytes : ByteArray} {maxL : Nat} {rt : Option FieldType} {k : Nat} {Pic : Heap → Prop} {ix n : Nat} {As st0 : List Value} {v : Int64} (hM : Met l y (wsA y bytes maxL rt) (rmL k) (ro_P g As Pic) (vp_Sl (fun r => r = v)) 0 0 (fun _ => False)) (hy : MOS y bytes maxL rt n) (hlink : Cond.methodLink own ix y ∈ allW) (hR : RR k R) (hcs : cells ≤ R.cells ∧ slots ≤ R.slots) (hK : KU g s) (hE : EnvG g NoA s H) (hPic : Pic H) (hn : As.length = n) (hsz : ls.size = nL) (hst : st0 = As.reverse ++ rest) (hW : (rest.map fun v => v.category).sum ≤ 8) (hdg : decode cc pc = .ok (.invokestatic ix, 3)) (kk : W p l e R s m args below meth c H locs cells slots Q (F0 m (pc + 3) ls (.long v :: rest))) : W p l e R s m args below meth c H locs cells slots Q (F0 m (pc) ls (st0)) := by
  subst hst
  have hG : GoodIn allW (va_wsS own ix y (wsA y bytes maxL rt)) := by
    intro w hw
    simp only [va_wsS, wsA, List.cons_append, List.nil_append, List.mem_cons] at hw
    rcases hw with rfl | rfl | rfl | rfl | hw
    · exact ⟨hlink, allW_good _ hlink⟩
    · exact ⟨hy.1.1, allW_good _ hy.1.1⟩
    · exact ⟨hy.1.2.1, allW_good _ hy.1.2.1⟩
    · exact ⟨hy.1.2.2, allW_good _ hy.1.2.2⟩
    · exact ⟨hw, allW_good _ hw⟩
  have hmx := hy.2.2
  refine vp_callSl (post := fun r => r = v) (W.runS (cc := cc) (nL := nL) (Ts := allW) (own := own) (As := As) (rest := rest) (index := ix) (n := n) (g := F0 m pc ls (As.reverse ++ rest)) ⟨hC.1, hC.2.1, hC.2.2.2.1, hC.2.2.2.2.1, hC.2.2.2.2.2.1⟩ hM (va_cwS n hC.2.2.2.2.2.1 hG rfl rfl rfl hy.2.1 ⟨hR.1, by have h2 := hR.2; show 8 + (maxL + 11) + 40 * k ≤ _; omega⟩) ⟨ro_blind, fun U hU hW => ⟨rfl, hK.warm hW, by rw [hU]; exact hE.moved hW.alike, by rw [hU]; exact hPic⟩⟩ rfl hn hsz rfl (lv_room hW) hdg hcs) (fun r hr => ?_)
  subst hr
  exact kk
end RI
end
