/-- an overriding or inherited method y, asked for as x by a receiver of class C -/
def MOU (C : String) (x y : MethodName) (bytes : ByteArray) (maxL : Nat) (rt : Option FieldType) (n : Nat) : Prop :=
  (Cond.instanceMethod x ∈ allW ∧ Cond.sameMethod x.cls x.cls x.name x.desc ∈ allW ∧ Cond.selects C x y ∈ allW ∧ Cond.instanceMethod y ∈ allW ∧ Cond.initialized y.cls ∈ allW ∧ Cond.code y bytes maxL rt ∈ allW ∧ ∃ (b0 : ByteArray) (m0 : Nat) (r0 : Option FieldType), Cond.code x b0 m0 r0 ∈ allW) ∧ (x.cls ≠ "java/lang/invoke/MethodHandle" ∧ x.cls ≠ "java/lang/invoke/VarHandle" ∧ (parseMethodDescriptor x.desc).map (fun d => d.parameters.length) = some n) ∧ maxL ≤ 21
theorem sf_Jx4a65c_modCount : Cond.sameField "java/util/ArrayList" "java/util/AbstractList" "modCount" "I" ∈ allW := (memA 79 (by decide +kernel) rfl)
theorem su_Jx4a65c : Cond.superclass RJx4a65c RJxc12de ∈ allW := (memA 86 (by decide +kernel) rfl)
theorem sf_X2_trail : Cond.sameField "NamesNoTouch$Harbour" "NamesNoTouch$Name" "trail" "LNamesNoTouch$Row;" ∈ allW := (memA 431 (by decide +kernel) rfl)
theorem sf_X1_trail : Cond.sameField "NamesNoTouch$Coastal" "NamesNoTouch$Name" "trail" "LNamesNoTouch$Row;" ∈ allW := (memA 433 (by decide +kernel) rfl)
theorem sf_X10_trail : Cond.sameField "NamesNoTouch$Told" "NamesNoTouch$Name" "trail" "LNamesNoTouch$Row;" ∈ allW := (memA 435 (by decide +kernel) rfl)
theorem sf_X3_trail : Cond.sameField "NamesNoTouch$Large" "NamesNoTouch$Name" "trail" "LNamesNoTouch$Row;" ∈ allW := (memA 437 (by decide +kernel) rfl)
theorem sf_X0_trail : Cond.sameField "NamesNoTouch$City" "NamesNoTouch$Name" "trail" "LNamesNoTouch$Row;" ∈ allW := (memA 439 (by decide +kernel) rfl)
theorem sf_X9_trail : Cond.sameField "NamesNoTouch$Shy" "NamesNoTouch$Name" "trail" "LNamesNoTouch$Row;" ∈ allW := (memA 441 (by decide +kernel) rfl)
theorem sf_X2_number : Cond.sameField "NamesNoTouch$Harbour" "NamesNoTouch$Name" "number" "I" ∈ allW := (memA 444 (by decide +kernel) rfl)
theorem sf_X10_v : Cond.sameField "NamesNoTouch$Told" "NamesNoTouch$Name" "v" "I" ∈ allW := (memA 448 (by decide +kernel) rfl)
theorem sf_X0_letters : Cond.sameField "NamesNoTouch$City" "NamesNoTouch$Name" "letters" "I" ∈ allW := (memA 453 (by decide +kernel) rfl)
theorem sf_X3_letters : Cond.sameField "NamesNoTouch$Large" "NamesNoTouch$Name" "letters" "I" ∈ allW := (memA 455 (by decide +kernel) rfl)
theorem sf_X9_letters : Cond.sameField "NamesNoTouch$Shy" "NamesNoTouch$Name" "letters" "I" ∈ allW := (memA 457 (by decide +kernel) rfl)
theorem su_X3 : Cond.superclass RX3 RX4 ∈ allW := (memA 478 (by decide +kernel) rfl)
theorem su_X1 : Cond.superclass RX1 RX4 ∈ allW := (memA 491 (by decide +kernel) rfl)
theorem su_X9 : Cond.superclass RX9 RX4 ∈ allW := (memA 504 (by decide +kernel) rfl)
theorem su_X0 : Cond.superclass RX0 RX3 ∈ allW := (memA 517 (by decide +kernel) rfl)
theorem su_X2 : Cond.superclass RX2 RX1 ∈ allW := (memA 530 (by decide +kernel) rfl)
theorem su_X10 : Cond.superclass RX10 RX9 ∈ allW := (memA 543 (by decide +kernel) rfl)
theorem sm_X4_kind : Cond.sameMethod "NamesNoTouch$Name" "NamesNoTouch$Name" "kind" "()I" ∈ allW := (memA 623 (by decide +kernel) rfl)
theorem sm_X4_length : Cond.sameMethod "NamesNoTouch$Name" "NamesNoTouch$Name" "length" "(I)I" ∈ allW := (memA 646 (by decide +kernel) rfl)
theorem sm_X4_mayBe : Cond.sameMethod "NamesNoTouch$Name" "NamesNoTouch$Name" "mayBe" "(I)I" ∈ allW := (memA 672 (by decide +kernel) rfl)
theorem sm_X4_lineAt : Cond.sameMethod "NamesNoTouch$Name" "NamesNoTouch$Name" "lineAt" "(I)I" ∈ allW := (memA 703 (by decide +kernel) rfl)
theorem sm_X4_cells : Cond.sameMethod "NamesNoTouch$Name" "NamesNoTouch$Name" "cells" "(II)J" ∈ allW := (memA 714 (by decide +kernel) rfl)
theorem sm_X4_startAt : Cond.sameMethod "NamesNoTouch$Name" "NamesNoTouch$Name" "startAt" "(II)I" ∈ allW := (memA 726 (by decide +kernel) rfl)
theorem sm_X4_covers : Cond.sameMethod "NamesNoTouch$Name" "NamesNoTouch$Name" "covers" "(IIII)Z" ∈ allW := (memA 742 (by decide +kernel) rfl)
theorem sm_X4_lies : Cond.sameMethod "NamesNoTouch$Name" "NamesNoTouch$Name" "lies" "(I)I" ∈ allW := (memA 1063 (by decide +kernel) rfl)
theorem sm_X1_lies : Cond.sameMethod "NamesNoTouch$Coastal" "NamesNoTouch$Name" "lies" "(I)I" ∈ allW := (memA 1075 (by decide +kernel) rfl)
theorem sm_X4_reads : Cond.sameMethod "NamesNoTouch$Name" "NamesNoTouch$Name" "reads" "(I)I" ∈ allW := (memA 1085 (by decide +kernel) rfl)
theorem sm_X9_reads : Cond.sameMethod "NamesNoTouch$Shy" "NamesNoTouch$Name" "reads" "(I)I" ∈ allW := (memA 1100 (by decide +kernel) rfl)
theorem sm_X4_tells : Cond.sameMethod "NamesNoTouch$Name" "NamesNoTouch$Name" "tells" "(I)I" ∈ allW := (memA 1107 (by decide +kernel) rfl)
theorem sm_X3_tells : Cond.sameMethod "NamesNoTouch$Large" "NamesNoTouch$Name" "tells" "(I)I" ∈ allW := (memA 1113 (by decide +kernel) rfl)
theorem sm_X0_lies : Cond.sameMethod "NamesNoTouch$City" "NamesNoTouch$Large" "lies" "(I)I" ∈ allW := (memA 1116 (by decide +kernel) rfl)
theorem se_X0_X0_lies : Cond.selects RX0 ⟨"NamesNoTouch$City", "lies", "(I)I"⟩ yX3_lies ∈ allW := (memA 1118 (by decide +kernel) rfl)
theorem mx_J7_150 : Cond.methodLink RJ7 150 ⟨"java/lang/System", "arraycopy", "(Ljava/lang/Object;ILjava/lang/Object;II)V"⟩ ∈ allW := (memA 606 (by decide +kernel) rfl)
theorem mx_X2_21 : Cond.methodLink RX2 21 ⟨"NamesNoTouch$Coastal", "lies", "(I)I"⟩ ∈ allW := (memA 1074 (by decide +kernel) rfl)
theorem mx_X10_19 : Cond.methodLink RX10 19 ⟨"NamesNoTouch$Shy", "reads", "(I)I"⟩ ∈ allW := (memA 1099 (by decide +kernel) rfl)
theorem mx_X0_25 : Cond.methodLink RX0 25 ⟨"NamesNoTouch$Large", "tells", "(I)I"⟩ ∈ allW := (memA 1112 (by decide +kernel) rfl)
theorem mx_X0_29 : Cond.methodLink RX0 29 ⟨"NamesNoTouch$City", "lies", "(I)I"⟩ ∈ allW := (memA 1115 (by decide +kernel) rfl)
theorem mu_X0_X4_kind : MOU RX0 yX4_kind yX0_kind cX0_kind 1 ((some .int)) 0 := ⟨⟨mi_X4_kind, sm_X4_kind, se_X0_X4_kind, mi_X0_kind, ini_X0, mc_X0_kind, ⟨_, _, _, mc_X4_kind⟩⟩, ⟨by decide +kernel, by decide +kernel, by decide +kernel⟩, by decide⟩
theorem mu_X1_X4_kind : MOU RX1 yX4_kind yX1_kind cX1_kind 1 ((some .int)) 0 := ⟨⟨mi_X4_kind, sm_X4_kind, se_X1_X4_kind, mi_X1_kind, ini_X1, mc_X1_kind, ⟨_, _, _, mc_X4_kind⟩⟩, ⟨by decide +kernel, by decide +kernel, by decide +kernel⟩, by decide⟩
theorem mu_X2_X4_kind : MOU RX2 yX4_kind yX2_kind cX2_kind 1 ((some .int)) 0 := ⟨⟨mi_X4_kind, sm_X4_kind, se_X2_X4_kind, mi_X2_kind, ini_X2, mc_X2_kind, ⟨_, _, _, mc_X4_kind⟩⟩, ⟨by decide +kernel, by decide +kernel, by decide +kernel⟩, by decide⟩
theorem mu_X3_X4_kind : MOU RX3 yX4_kind yX3_kind cX3_kind 1 ((some .int)) 0 := ⟨⟨mi_X4_kind, sm_X4_kind, se_X3_X4_kind, mi_X3_kind, ini_X3, mc_X3_kind, ⟨_, _, _, mc_X4_kind⟩⟩, ⟨by decide +kernel, by decide +kernel, by decide +kernel⟩, by decide⟩
theorem mu_X9_X4_kind : MOU RX9 yX4_kind yX9_kind cX9_kind 1 ((some .int)) 0 := ⟨⟨mi_X4_kind, sm_X4_kind, se_X9_X4_kind, mi_X9_kind, ini_X9, mc_X9_kind, ⟨_, _, _, mc_X4_kind⟩⟩, ⟨by decide +kernel, by decide +kernel, by decide +kernel⟩, by decide⟩
theorem mu_X10_X4_kind : MOU RX10 yX4_kind yX10_kind cX10_kind 1 ((some .int)) 0 := ⟨⟨mi_X4_kind, sm_X4_kind, se_X10_X4_kind, mi_X10_kind, ini_X10, mc_X10_kind, ⟨_, _, _, mc_X4_kind⟩⟩, ⟨by decide +kernel, by decide +kernel, by decide +kernel⟩, by decide⟩
theorem mu_X0_X4_length : MOU RX0 yX4_length yX0_length cX0_length 2 ((some .int)) 1 := ⟨⟨mi_X4_length, sm_X4_length, se_X0_X4_length, mi_X0_length, ini_X0, mc_X0_length, ⟨_, _, _, mc_X4_length⟩⟩, ⟨by decide +kernel, by decide +kernel, by decide +kernel⟩, by decide⟩
theorem mu_X1_X4_length : MOU RX1 yX4_length yX4_length cX4_length 2 ((some .int)) 1 := ⟨⟨mi_X4_length, sm_X4_length, se_X1_X4_length, mi_X4_length, ini_X4, mc_X4_length, ⟨_, _, _, mc_X4_length⟩⟩, ⟨by decide +kernel, by decide +kernel, by decide +kernel⟩, by decide⟩
theorem mu_X2_X4_length : MOU RX2 yX4_length yX4_length cX4_length 2 ((some .int)) 1 := ⟨⟨mi_X4_length, sm_X4_length, se_X2_X4_length, mi_X4_length, ini_X4, mc_X4_length, ⟨_, _, _, mc_X4_length⟩⟩, ⟨by decide +kernel, by decide +kernel, by decide +kernel⟩, by decide⟩
theorem mu_X3_X4_length : MOU RX3 yX4_length yX3_length cX3_length 2 ((some .int)) 1 := ⟨⟨mi_X4_length, sm_X4_length, se_X3_X4_length, mi_X3_length, ini_X3, mc_X3_length, ⟨_, _, _, mc_X4_length⟩⟩, ⟨by decide +kernel, by decide +kernel, by decide +kernel⟩, by decide⟩
theorem mu_X9_X4_length : MOU RX9 yX4_length yX9_length cX9_length 3 ((some .int)) 1 := ⟨⟨mi_X4_length, sm_X4_length, se_X9_X4_length, mi_X9_length, ini_X9, mc_X9_length, ⟨_, _, _, mc_X4_length⟩⟩, ⟨by decide +kernel, by decide +kernel, by decide +kernel⟩, by decide⟩
theorem mu_X10_X4_length : MOU RX10 yX4_length yX9_length cX9_length 3 ((some .int)) 1 := ⟨⟨mi_X4_length, sm_X4_length, se_X10_X4_length, mi_X9_length, ini_X9, mc_X9_length, ⟨_, _, _, mc_X4_length⟩⟩, ⟨by decide +kernel, by decide +kernel, by decide +kernel⟩, by decide⟩
theorem mu_X0_X4_mayBe : MOU RX0 yX4_mayBe yX0_mayBe cX0_mayBe 2 ((some .int)) 1 := ⟨⟨mi_X4_mayBe, sm_X4_mayBe, se_X0_X4_mayBe, mi_X0_mayBe, ini_X0, mc_X0_mayBe, ⟨_, _, _, mc_X4_mayBe⟩⟩, ⟨by decide +kernel, by decide +kernel, by decide +kernel⟩, by decide⟩
theorem mu_X1_X4_mayBe : MOU RX1 yX4_mayBe yX1_mayBe cX1_mayBe 2 ((some .int)) 1 := ⟨⟨mi_X4_mayBe, sm_X4_mayBe, se_X1_X4_mayBe, mi_X1_mayBe, ini_X1, mc_X1_mayBe, ⟨_, _, _, mc_X4_mayBe⟩⟩, ⟨by decide +kernel, by decide +kernel, by decide +kernel⟩, by decide⟩
theorem mu_X2_X4_mayBe : MOU RX2 yX4_mayBe yX2_mayBe cX2_mayBe 2 ((some .int)) 1 := ⟨⟨mi_X4_mayBe, sm_X4_mayBe, se_X2_X4_mayBe, mi_X2_mayBe, ini_X2, mc_X2_mayBe, ⟨_, _, _, mc_X4_mayBe⟩⟩, ⟨by decide +kernel, by decide +kernel, by decide +kernel⟩, by decide⟩
theorem mu_X3_X4_mayBe : MOU RX3 yX4_mayBe yX3_mayBe cX3_mayBe 2 ((some .int)) 1 := ⟨⟨mi_X4_mayBe, sm_X4_mayBe, se_X3_X4_mayBe, mi_X3_mayBe, ini_X3, mc_X3_mayBe, ⟨_, _, _, mc_X4_mayBe⟩⟩, ⟨by decide +kernel, by decide +kernel, by decide +kernel⟩, by decide⟩
theorem mu_X9_X4_mayBe : MOU RX9 yX4_mayBe yX9_mayBe cX9_mayBe 2 ((some .int)) 1 := ⟨⟨mi_X4_mayBe, sm_X4_mayBe, se_X9_X4_mayBe, mi_X9_mayBe, ini_X9, mc_X9_mayBe, ⟨_, _, _, mc_X4_mayBe⟩⟩, ⟨by decide +kernel, by decide +kernel, by decide +kernel⟩, by decide⟩
theorem mu_X10_X4_mayBe : MOU RX10 yX4_mayBe yX10_mayBe cX10_mayBe 2 ((some .int)) 1 := ⟨⟨mi_X4_mayBe, sm_X4_mayBe, se_X10_X4_mayBe, mi_X10_mayBe, ini_X10, mc_X10_mayBe, ⟨_, _, _, mc_X4_mayBe⟩⟩, ⟨by decide +kernel, by decide +kernel, by decide +kernel⟩, by decide⟩
theorem mu_X0_X4_lineAt : MOU RX0 yX4_lineAt yX4_lineAt cX4_lineAt 2 ((some .int)) 1 := ⟨⟨mi_X4_lineAt, sm_X4_lineAt, se_X0_X4_lineAt, mi_X4_lineAt, ini_X4, mc_X4_lineAt, ⟨_, _, _, mc_X4_lineAt⟩⟩, ⟨by decide +kernel, by decide +kernel, by decide +kernel⟩, by decide⟩
theorem mu_X1_X4_lineAt : MOU RX1 yX4_lineAt yX4_lineAt cX4_lineAt 2 ((some .int)) 1 := ⟨⟨mi_X4_lineAt, sm_X4_lineAt, se_X1_X4_lineAt, mi_X4_lineAt, ini_X4, mc_X4_lineAt, ⟨_, _, _, mc_X4_lineAt⟩⟩, ⟨by decide +kernel, by decide +kernel, by decide +kernel⟩, by decide⟩
theorem mu_X2_X4_lineAt : MOU RX2 yX4_lineAt yX4_lineAt cX4_lineAt 2 ((some .int)) 1 := ⟨⟨mi_X4_lineAt, sm_X4_lineAt, se_X2_X4_lineAt, mi_X4_lineAt, ini_X4, mc_X4_lineAt, ⟨_, _, _, mc_X4_lineAt⟩⟩, ⟨by decide +kernel, by decide +kernel, by decide +kernel⟩, by decide⟩
theorem mu_X3_X4_lineAt : MOU RX3 yX4_lineAt yX4_lineAt cX4_lineAt 2 ((some .int)) 1 := ⟨⟨mi_X4_lineAt, sm_X4_lineAt, se_X3_X4_lineAt, mi_X4_lineAt, ini_X4, mc_X4_lineAt, ⟨_, _, _, mc_X4_lineAt⟩⟩, ⟨by decide +kernel, by decide +kernel, by decide +kernel⟩, by decide⟩
theorem mu_X9_X4_lineAt : MOU RX9 yX4_lineAt yX4_lineAt cX4_lineAt 2 ((some .int)) 1 := ⟨⟨mi_X4_lineAt, sm_X4_lineAt, se_X9_X4_lineAt, mi_X4_lineAt, ini_X4, mc_X4_lineAt, ⟨_, _, _, mc_X4_lineAt⟩⟩, ⟨by decide +kernel, by decide +kernel, by decide +kernel⟩, by decide⟩
theorem mu_X10_X4_lineAt : MOU RX10 yX4_lineAt yX4_lineAt cX4_lineAt 2 ((some .int)) 1 := ⟨⟨mi_X4_lineAt, sm_X4_lineAt, se_X10_X4_lineAt, mi_X4_lineAt, ini_X4, mc_X4_lineAt, ⟨_, _, _, mc_X4_lineAt⟩⟩, ⟨by decide +kernel, by decide +kernel, by decide +kernel⟩, by decide⟩
theorem mu_X0_X4_cells : MOU RX0 yX4_cells yX4_cells cX4_cells 4 ((some .long)) 2 := ⟨⟨mi_X4_cells, sm_X4_cells, se_X0_X4_cells, mi_X4_cells, ini_X4, mc_X4_cells, ⟨_, _, _, mc_X4_cells⟩⟩, ⟨by decide +kernel, by decide +kernel, by decide +kernel⟩, by decide⟩
theorem mu_X1_X4_cells : MOU RX1 yX4_cells yX4_cells cX4_cells 4 ((some .long)) 2 := ⟨⟨mi_X4_cells, sm_X4_cells, se_X1_X4_cells, mi_X4_cells, ini_X4, mc_X4_cells, ⟨_, _, _, mc_X4_cells⟩⟩, ⟨by decide +kernel, by decide +kernel, by decide +kernel⟩, by decide⟩
theorem mu_X2_X4_cells : MOU RX2 yX4_cells yX4_cells cX4_cells 4 ((some .long)) 2 := ⟨⟨mi_X4_cells, sm_X4_cells, se_X2_X4_cells, mi_X4_cells, ini_X4, mc_X4_cells, ⟨_, _, _, mc_X4_cells⟩⟩, ⟨by decide +kernel, by decide +kernel, by decide +kernel⟩, by decide⟩
theorem mu_X3_X4_cells : MOU RX3 yX4_cells yX4_cells cX4_cells 4 ((some .long)) 2 := ⟨⟨mi_X4_cells, sm_X4_cells, se_X3_X4_cells, mi_X4_cells, ini_X4, mc_X4_cells, ⟨_, _, _, mc_X4_cells⟩⟩, ⟨by decide +kernel, by decide +kernel, by decide +kernel⟩, by decide⟩
theorem mu_X9_X4_cells : MOU RX9 yX4_cells yX4_cells cX4_cells 4 ((some .long)) 2 := ⟨⟨mi_X4_cells, sm_X4_cells, se_X9_X4_cells, mi_X4_cells, ini_X4, mc_X4_cells, ⟨_, _, _, mc_X4_cells⟩⟩, ⟨by decide +kernel, by decide +kernel, by decide +kernel⟩, by decide⟩
theorem mu_X10_X4_cells : MOU RX10 yX4_cells yX4_cells cX4_cells 4 ((some .long)) 2 := ⟨⟨mi_X4_cells, sm_X4_cells, se_X10_X4_cells, mi_X4_cells, ini_X4, mc_X4_cells, ⟨_, _, _, mc_X4_cells⟩⟩, ⟨by decide +kernel, by decide +kernel, by decide +kernel⟩, by decide⟩
theorem mu_X0_X4_startAt : MOU RX0 yX4_startAt yX4_startAt cX4_startAt 3 ((some .int)) 2 := ⟨⟨mi_X4_startAt, sm_X4_startAt, se_X0_X4_startAt, mi_X4_startAt, ini_X4, mc_X4_startAt, ⟨_, _, _, mc_X4_startAt⟩⟩, ⟨by decide +kernel, by decide +kernel, by decide +kernel⟩, by decide⟩
theorem mu_X1_X4_startAt : MOU RX1 yX4_startAt yX4_startAt cX4_startAt 3 ((some .int)) 2 := ⟨⟨mi_X4_startAt, sm_X4_startAt, se_X1_X4_startAt, mi_X4_startAt, ini_X4, mc_X4_startAt, ⟨_, _, _, mc_X4_startAt⟩⟩, ⟨by decide +kernel, by decide +kernel, by decide +kernel⟩, by decide⟩
theorem mu_X2_X4_startAt : MOU RX2 yX4_startAt yX4_startAt cX4_startAt 3 ((some .int)) 2 := ⟨⟨mi_X4_startAt, sm_X4_startAt, se_X2_X4_startAt, mi_X4_startAt, ini_X4, mc_X4_startAt, ⟨_, _, _, mc_X4_startAt⟩⟩, ⟨by decide +kernel, by decide +kernel, by decide +kernel⟩, by decide⟩
theorem mu_X3_X4_startAt : MOU RX3 yX4_startAt yX4_startAt cX4_startAt 3 ((some .int)) 2 := ⟨⟨mi_X4_startAt, sm_X4_startAt, se_X3_X4_startAt, mi_X4_startAt, ini_X4, mc_X4_startAt, ⟨_, _, _, mc_X4_startAt⟩⟩, ⟨by decide +kernel, by decide +kernel, by decide +kernel⟩, by decide⟩
theorem mu_X9_X4_startAt : MOU RX9 yX4_startAt yX4_startAt cX4_startAt 3 ((some .int)) 2 := ⟨⟨mi_X4_startAt, sm_X4_startAt, se_X9_X4_startAt, mi_X4_startAt, ini_X4, mc_X4_startAt, ⟨_, _, _, mc_X4_startAt⟩⟩, ⟨by decide +kernel, by decide +kernel, by decide +kernel⟩, by decide⟩
theorem mu_X10_X4_startAt : MOU RX10 yX4_startAt yX4_startAt cX4_startAt 3 ((some .int)) 2 := ⟨⟨mi_X4_startAt, sm_X4_startAt, se_X10_X4_startAt, mi_X4_startAt, ini_X4, mc_X4_startAt, ⟨_, _, _, mc_X4_startAt⟩⟩, ⟨by decide +kernel, by decide +kernel, by decide +kernel⟩, by decide⟩
theorem mu_X0_X4_covers : MOU RX0 yX4_covers yX4_covers cX4_covers 5 ((some .boolean)) 4 := ⟨⟨mi_X4_covers, sm_X4_covers, se_X0_X4_covers, mi_X4_covers, ini_X4, mc_X4_covers, ⟨_, _, _, mc_X4_covers⟩⟩, ⟨by decide +kernel, by decide +kernel, by decide +kernel⟩, by decide⟩
theorem mu_X1_X4_covers : MOU RX1 yX4_covers yX4_covers cX4_covers 5 ((some .boolean)) 4 := ⟨⟨mi_X4_covers, sm_X4_covers, se_X1_X4_covers, mi_X4_covers, ini_X4, mc_X4_covers, ⟨_, _, _, mc_X4_covers⟩⟩, ⟨by decide +kernel, by decide +kernel, by decide +kernel⟩, by decide⟩
theorem mu_X2_X4_covers : MOU RX2 yX4_covers yX4_covers cX4_covers 5 ((some .boolean)) 4 := ⟨⟨mi_X4_covers, sm_X4_covers, se_X2_X4_covers, mi_X4_covers, ini_X4, mc_X4_covers, ⟨_, _, _, mc_X4_covers⟩⟩, ⟨by decide +kernel, by decide +kernel, by decide +kernel⟩, by decide⟩
theorem mu_X3_X4_covers : MOU RX3 yX4_covers yX4_covers cX4_covers 5 ((some .boolean)) 4 := ⟨⟨mi_X4_covers, sm_X4_covers, se_X3_X4_covers, mi_X4_covers, ini_X4, mc_X4_covers, ⟨_, _, _, mc_X4_covers⟩⟩, ⟨by decide +kernel, by decide +kernel, by decide +kernel⟩, by decide⟩
theorem mu_X9_X4_covers : MOU RX9 yX4_covers yX4_covers cX4_covers 5 ((some .boolean)) 4 := ⟨⟨mi_X4_covers, sm_X4_covers, se_X9_X4_covers, mi_X4_covers, ini_X4, mc_X4_covers, ⟨_, _, _, mc_X4_covers⟩⟩, ⟨by decide +kernel, by decide +kernel, by decide +kernel⟩, by decide⟩
theorem mu_X10_X4_covers : MOU RX10 yX4_covers yX4_covers cX4_covers 5 ((some .boolean)) 4 := ⟨⟨mi_X4_covers, sm_X4_covers, se_X10_X4_covers, mi_X4_covers, ini_X4, mc_X4_covers, ⟨_, _, _, mc_X4_covers⟩⟩, ⟨by decide +kernel, by decide +kernel, by decide +kernel⟩, by decide⟩
theorem mu_X0_X4_lies : MOU RX0 yX4_lies yX3_lies cX3_lies 2 ((some .int)) 1 := ⟨⟨mi_X4_lies, sm_X4_lies, se_X0_X4_lies, mi_X3_lies, ini_X3, mc_X3_lies, ⟨_, _, _, mc_X4_lies⟩⟩, ⟨by decide +kernel, by decide +kernel, by decide +kernel⟩, by decide⟩
theorem mu_X1_X4_lies : MOU RX1 yX4_lies yX4_lies cX4_lies 2 ((some .int)) 1 := ⟨⟨mi_X4_lies, sm_X4_lies, se_X1_X4_lies, mi_X4_lies, ini_X4, mc_X4_lies, ⟨_, _, _, mc_X4_lies⟩⟩, ⟨by decide +kernel, by decide +kernel, by decide +kernel⟩, by decide⟩
theorem mu_X2_X4_lies : MOU RX2 yX4_lies yX2_lies cX2_lies 2 ((some .int)) 1 := ⟨⟨mi_X4_lies, sm_X4_lies, se_X2_X4_lies, mi_X2_lies, ini_X2, mc_X2_lies, ⟨_, _, _, mc_X4_lies⟩⟩, ⟨by decide +kernel, by decide +kernel, by decide +kernel⟩, by decide⟩
theorem mu_X3_X4_lies : MOU RX3 yX4_lies yX3_lies cX3_lies 2 ((some .int)) 1 := ⟨⟨mi_X4_lies, sm_X4_lies, se_X3_X4_lies, mi_X3_lies, ini_X3, mc_X3_lies, ⟨_, _, _, mc_X4_lies⟩⟩, ⟨by decide +kernel, by decide +kernel, by decide +kernel⟩, by decide⟩
theorem mu_X9_X4_lies : MOU RX9 yX4_lies yX4_lies cX4_lies 2 ((some .int)) 1 := ⟨⟨mi_X4_lies, sm_X4_lies, se_X9_X4_lies, mi_X4_lies, ini_X4, mc_X4_lies, ⟨_, _, _, mc_X4_lies⟩⟩, ⟨by decide +kernel, by decide +kernel, by decide +kernel⟩, by decide⟩
theorem mu_X10_X4_lies : MOU RX10 yX4_lies yX4_lies cX4_lies 2 ((some .int)) 1 := ⟨⟨mi_X4_lies, sm_X4_lies, se_X10_X4_lies, mi_X4_lies, ini_X4, mc_X4_lies, ⟨_, _, _, mc_X4_lies⟩⟩, ⟨by decide +kernel, by decide +kernel, by decide +kernel⟩, by decide⟩
theorem mu_X0_X4_reads : MOU RX0 yX4_reads yX4_reads cX4_reads 2 ((some .int)) 1 := ⟨⟨mi_X4_reads, sm_X4_reads, se_X0_X4_reads, mi_X4_reads, ini_X4, mc_X4_reads, ⟨_, _, _, mc_X4_reads⟩⟩, ⟨by decide +kernel, by decide +kernel, by decide +kernel⟩, by decide⟩
theorem mu_X1_X4_reads : MOU RX1 yX4_reads yX1_reads cX1_reads 2 ((some .int)) 1 := ⟨⟨mi_X4_reads, sm_X4_reads, se_X1_X4_reads, mi_X1_reads, ini_X1, mc_X1_reads, ⟨_, _, _, mc_X4_reads⟩⟩, ⟨by decide +kernel, by decide +kernel, by decide +kernel⟩, by decide⟩
theorem mu_X2_X4_reads : MOU RX2 yX4_reads yX1_reads cX1_reads 2 ((some .int)) 1 := ⟨⟨mi_X4_reads, sm_X4_reads, se_X2_X4_reads, mi_X1_reads, ini_X1, mc_X1_reads, ⟨_, _, _, mc_X4_reads⟩⟩, ⟨by decide +kernel, by decide +kernel, by decide +kernel⟩, by decide⟩
theorem mu_X3_X4_reads : MOU RX3 yX4_reads yX4_reads cX4_reads 2 ((some .int)) 1 := ⟨⟨mi_X4_reads, sm_X4_reads, se_X3_X4_reads, mi_X4_reads, ini_X4, mc_X4_reads, ⟨_, _, _, mc_X4_reads⟩⟩, ⟨by decide +kernel, by decide +kernel, by decide +kernel⟩, by decide⟩
theorem mu_X9_X4_reads : MOU RX9 yX4_reads yX4_reads cX4_reads 2 ((some .int)) 1 := ⟨⟨mi_X4_reads, sm_X4_reads, se_X9_X4_reads, mi_X4_reads, ini_X4, mc_X4_reads, ⟨_, _, _, mc_X4_reads⟩⟩, ⟨by decide +kernel, by decide +kernel, by decide +kernel⟩, by decide⟩
theorem mu_X10_X4_reads : MOU RX10 yX4_reads yX10_reads cX10_reads 2 ((some .int)) 1 := ⟨⟨mi_X4_reads, sm_X4_reads, se_X10_X4_reads, mi_X10_reads, ini_X10, mc_X10_reads, ⟨_, _, _, mc_X4_reads⟩⟩, ⟨by decide +kernel, by decide +kernel, by decide +kernel⟩, by decide⟩
theorem mu_X0_X4_tells : MOU RX0 yX4_tells yX0_tells cX0_tells 2 ((some .int)) 1 := ⟨⟨mi_X4_tells, sm_X4_tells, se_X0_X4_tells, mi_X0_tells, ini_X0, mc_X0_tells, ⟨_, _, _, mc_X4_tells⟩⟩, ⟨by decide +kernel, by decide +kernel, by decide +kernel⟩, by decide⟩
theorem mu_X1_X4_tells : MOU RX1 yX4_tells yX4_tells cX4_tells 2 ((some .int)) 1 := ⟨⟨mi_X4_tells, sm_X4_tells, se_X1_X4_tells, mi_X4_tells, ini_X4, mc_X4_tells, ⟨_, _, _, mc_X4_tells⟩⟩, ⟨by decide +kernel, by decide +kernel, by decide +kernel⟩, by decide⟩
theorem mu_X2_X4_tells : MOU RX2 yX4_tells yX4_tells cX4_tells 2 ((some .int)) 1 := ⟨⟨mi_X4_tells, sm_X4_tells, se_X2_X4_tells, mi_X4_tells, ini_X4, mc_X4_tells, ⟨_, _, _, mc_X4_tells⟩⟩, ⟨by decide +kernel, by decide +kernel, by decide +kernel⟩, by decide⟩
theorem mu_X3_X4_tells : MOU RX3 yX4_tells yX4_tells cX4_tells 2 ((some .int)) 1 := ⟨⟨mi_X4_tells, sm_X4_tells, se_X3_X4_tells, mi_X4_tells, ini_X4, mc_X4_tells, ⟨_, _, _, mc_X4_tells⟩⟩, ⟨by decide +kernel, by decide +kernel, by decide +kernel⟩, by decide⟩
theorem mu_X9_X4_tells : MOU RX9 yX4_tells yX9_tells cX9_tells 2 ((some .int)) 1 := ⟨⟨mi_X4_tells, sm_X4_tells, se_X9_X4_tells, mi_X9_tells, ini_X9, mc_X9_tells, ⟨_, _, _, mc_X4_tells⟩⟩, ⟨by decide +kernel, by decide +kernel, by decide +kernel⟩, by decide⟩
theorem mu_X10_X4_tells : MOU RX10 yX4_tells yX9_tells cX9_tells 2 ((some .int)) 1 := ⟨⟨mi_X4_tells, sm_X4_tells, se_X10_X4_tells, mi_X9_tells, ini_X9, mc_X9_tells, ⟨_, _, _, mc_X4_tells⟩⟩, ⟨by decide +kernel, by decide +kernel, by decide +kernel⟩, by decide⟩
section R8
variable {p : Program} {l : Launch} {e : Env} {R : Room} {s : State} {m : MethodId} {args : Array Value} {below : List Frame} {meth : Method} {c : Code} {H : Heap} {locs : List Loc} {cells slots : Nat} {Q : State → Prop}
variable {cc : ByteArray} {nL : Nat} {ret : Option FieldType} {own : String} {pc : Nat} {ls : Array Slot} {rest : List Value} {g : GG} {A : Nat → Prop} {ws ws' : va_W}
theorem ro_callUi (hC : Cx p s m args meth c cc nL ret own) {C : String} {b : Nat} {x y : MethodName} {bytes : ByteArray} {maxL : Nat} {rt : Option FieldType} {k : Nat} {Pic : Heap → Prop} {ix n : Nat} {As st0 : List Value} {v : Int32} (hM : Met l y (wsA y bytes maxL rt) (rmL k) (ro_P g (.ref b :: As) Pic) (vp_Si (fun r => r = v)) 0 0 (fun _ => False)) (hy : MOU C x y bytes maxL rt n) (hlink : Cond.methodLink own ix x ∈ allW) (hR : RR k R) (hcs : cells ≤ R.cells ∧ slots ≤ R.slots) (hK : KU g s) (hE : EnvG g NoA s H) (hPic : Pic H) (hrecv : ∃ cell : Cell, H[b]? = some cell ∧ cell.vm.isStatics = false ∧ s.vm.findClass C = some cell.cls) (hn : As.length = n) (hsz : ls.size = nL) (hst : st0 = As.reverse ++ .ref b :: rest) (hW : (rest.map fun v => v.category).sum ≤ 8) (hdg : decode cc pc = .ok (.invokevirtual ix, 3)) (kk : W p l e R s m args below meth c H locs cells slots Q (F0 m (pc + 3) ls (.int v :: rest))) : W p l e R s m args below meth c H locs cells slots Q (F0 m (pc) ls (st0)) := by
  subst hst
  have hG : GoodIn allW (va_wsO own ix C x.cls x y (wsA y bytes maxL (rt))) := by
    intro w hw
    simp only [va_wsO, wsA, List.cons_append, List.nil_append, List.mem_cons] at hw
    rcases hw with rfl | rfl | rfl | rfl | rfl | rfl | rfl | hw
    · exact ⟨hlink, allW_good _ hlink⟩
    · exact ⟨hy.1.2.1, allW_good _ hy.1.2.1⟩
    · exact ⟨hy.1.1, allW_good _ hy.1.1⟩
    · exact ⟨hy.1.2.2.1, allW_good _ hy.1.2.2.1⟩
    · exact ⟨hy.1.2.2.2.1, allW_good _ hy.1.2.2.2.1⟩
    · exact ⟨hy.1.2.2.2.2.1, allW_good _ hy.1.2.2.2.2.1⟩
    · exact ⟨hy.1.2.2.2.2.2.1, allW_good _ hy.1.2.2.2.2.2.1⟩
    · exact ⟨hw, allW_good _ hw⟩
  obtain ⟨b0, m0, r0, h0⟩ := hy.1.2.2.2.2.2.2
  have hmx := hy.2.2
  refine vp_callSi (post := fun r => r = v) ((va_runU (C := C) (owner := x.cls) (x := x) (y := y) (cc := cc) (nL := nL) (Ts := allW) (own := own) (b := b) (As := As) (rest := rest) (index := ix) (n := n) (g := F0 m pc ls (As.reverse ++ .ref b :: rest)) ⟨hC.1, hC.2.1, hC.2.2.2.1, hC.2.2.2.2.1, hC.2.2.2.2.2.1⟩ hM (va_cwO n hC.2.2.2.2.2.1 hG rfl rfl rfl (b0 := b0) (m0 := m0) (r0 := r0) h0 hy.2.1 ⟨hR.1, by have h2 := hR.2; show 8 + (maxL + 11) + 40 * k ≤ _; omega⟩) ⟨ro_blind, hrecv, fun U hU hW => ⟨rfl, hK.warm hW, by rw [hU]; exact hE.moved hW.alike, by rw [hU]; exact hPic⟩⟩ rfl hn hsz rfl (lv_room hW) hdg hcs).run) (fun r hr => ?_)
  subst hr
  exact kk
theorem ro_callUl (hC : Cx p s m args meth c cc nL ret own) {C : String} {b : Nat} {x y : MethodName} {bytes : ByteArray} {maxL : Nat} {rt : Option FieldType} {k : Nat} {Pic : Heap → Prop} {ix n : Nat} {As st0 : List Value} {v : Int64} (hM : Met l y (wsA y bytes maxL rt) (rmL k) (ro_P g (.ref b :: As) Pic) (vp_Sl (fun r => r = v)) 0 0 (fun _ => False)) (hy : MOU C x y bytes maxL rt n) (hlink : Cond.methodLink own ix x ∈ allW) (hR : RR k R) (hcs : cells ≤ R.cells ∧ slots ≤ R.slots) (hK : KU g s) (hE : EnvG g NoA s H) (hPic : Pic H) (hrecv : ∃ cell : Cell, H[b]? = some cell ∧ cell.vm.isStatics = false ∧ s.vm.findClass C = some cell.cls) (hn : As.length = n) (hsz : ls.size = nL) (hst : st0 = As.reverse ++ .ref b :: rest) (hW : (rest.map fun v => v.category).sum ≤ 8) (hdg : decode cc pc = .ok (.invokevirtual ix, 3)) (kk : W p l e R s m args below meth c H locs cells slots Q (F0 m (pc + 3) ls (.long v :: rest))) : W p l e R s m args below meth c H locs cells slots Q (F0 m (pc) ls (st0)) := by
  subst hst
  have hG : GoodIn allW (va_wsO own ix C x.cls x y (wsA y bytes maxL (rt))) := by
    intro w hw
    simp only [va_wsO, wsA, List.cons_append, List.nil_append, List.mem_cons] at hw
    rcases hw with rfl | rfl | rfl | rfl | rfl | rfl | rfl | hw
    · exact ⟨hlink, allW_good _ hlink⟩
    · exact ⟨hy.1.2.1, allW_good _ hy.1.2.1⟩
    · exact ⟨hy.1.1, allW_good _ hy.1.1⟩
    · exact ⟨hy.1.2.2.1, allW_good _ hy.1.2.2.1⟩
    · exact ⟨hy.1.2.2.2.1, allW_good _ hy.1.2.2.2.1⟩
    · exact ⟨hy.1.2.2.2.2.1, allW_good _ hy.1.2.2.2.2.1⟩
    · exact ⟨hy.1.2.2.2.2.2.1, allW_good _ hy.1.2.2.2.2.2.1⟩
    · exact ⟨hw, allW_good _ hw⟩
  obtain ⟨b0, m0, r0, h0⟩ := hy.1.2.2.2.2.2.2
  have hmx := hy.2.2
  refine vp_callSl (post := fun r => r = v) ((va_runU (C := C) (owner := x.cls) (x := x) (y := y) (cc := cc) (nL := nL) (Ts := allW) (own := own) (b := b) (As := As) (rest := rest) (index := ix) (n := n) (g := F0 m pc ls (As.reverse ++ .ref b :: rest)) ⟨hC.1, hC.2.1, hC.2.2.2.1, hC.2.2.2.2.1, hC.2.2.2.2.2.1⟩ hM (va_cwO n hC.2.2.2.2.2.1 hG rfl rfl rfl (b0 := b0) (m0 := m0) (r0 := r0) h0 hy.2.1 ⟨hR.1, by have h2 := hR.2; show 8 + (maxL + 11) + 40 * k ≤ _; omega⟩) ⟨ro_blind, hrecv, fun U hU hW => ⟨rfl, hK.warm hW, by rw [hU]; exact hE.moved hW.alike, by rw [hU]; exact hPic⟩⟩ rfl hn hsz rfl (lv_room hW) hdg hcs).run) (fun r hr => ?_)
  subst hr
  exact kk
theorem wr_callUi (hC : Cx p s m args meth c cc nL ret own) {C : String} {b : Nat} {x y : MethodName} {bytes : ByteArray} {maxL : Nat} {k mc ms : Nat} {ix n : Nat} {As st0 : List Value} {post : Int32 → va_W → Prop} (hM : MwrI l g y bytes maxL k mc ms (.ref b :: As) H.size ws post) (hy : MOU C x y bytes maxL (some .int) n) (hlink : Cond.methodLink own ix x ∈ allW) (hR : RR k R) (hcs : cells + mc ≤ R.cells ∧ slots + ms ≤ R.slots) (hK : KW g A s) (hS : St g A s.heap H locs ws) (hrecv : ∃ cell : Cell, H[b]? = some cell ∧ cell.vm.isStatics = false ∧ s.vm.findClass C = some cell.cls) (hn : As.length = n) (hsz : ls.size = nL) (hst : st0 = As.reverse ++ .ref b :: rest) (hW : (rest.map fun v => v.category).sum ≤ 8) (hdg : decode cc pc = .ok (.invokevirtual ix, 3)) (kk : ∀ (v : Int32) (w : va_W) (H1 : Heap) (locs1 : List Loc), post v w → St g A s.heap H1 locs1 w → W p l e R s m args below meth c H1 locs1 (cells + mc) (slots + ms) Q (F0 m (pc + 3) ls (.int v :: rest))) : W p l e R s m args below meth c H locs cells slots Q (F0 m (pc) ls (st0)) := by
  subst hst
  have hmx := hy.2.2
  have hG : GoodIn allW (va_wsO own ix C x.cls x y (wsA y bytes maxL (some .int))) := by
    intro w hw
    simp only [va_wsO, wsA, List.cons_append, List.nil_append, List.mem_cons] at hw
    rcases hw with rfl | rfl | rfl | rfl | rfl | rfl | rfl | hw
    · exact ⟨hlink, allW_good _ hlink⟩
    · exact ⟨hy.1.2.1, allW_good _ hy.1.2.1⟩
    · exact ⟨hy.1.1, allW_good _ hy.1.1⟩
    · exact ⟨hy.1.2.2.1, allW_good _ hy.1.2.2.1⟩
    · exact ⟨hy.1.2.2.2.1, allW_good _ hy.1.2.2.2.1⟩
    · exact ⟨hy.1.2.2.2.2.1, allW_good _ hy.1.2.2.2.2.1⟩
    · exact ⟨hy.1.2.2.2.2.2.1, allW_good _ hy.1.2.2.2.2.2.1⟩
    · exact ⟨hw, allW_good _ hw⟩
  obtain ⟨b0, m0, r0, h0⟩ := hy.1.2.2.2.2.2.2
  refine va_calli (A0 := A) (H0 := s.heap) (post := post) (B := wr_B g H.size ws) (A1 := va_A ws H.size) (va_runU (C := C) (owner := x.cls) (x := x) (y := y) (cc := cc) (nL := nL) (Ts := allW) (own := own) (b := b) (As := As) (rest := rest) (index := ix) (n := n) (g := F0 m pc ls (As.reverse ++ .ref b :: rest)) ⟨hC.1, hC.2.1, hC.2.2.2.1, hC.2.2.2.2.1, hC.2.2.2.2.2.1⟩ hM (va_cwO n hC.2.2.2.2.2.1 hG rfl rfl rfl (b0 := b0) (m0 := m0) (r0 := r0) h0 hy.2.1 ⟨hR.1, by have h2 := hR.2; show 8 + (maxL + 11) + 40 * k ≤ _; omega⟩) ⟨wr_blind, hrecv, fun U hU hW => ⟨rfl, hK.1.warm hW, by rw [hU], by rw [hU]; exact ((hS.env hK).narrow (hS.in hK)).moved hW.alike, by rw [hU]; exact hS.1, hS.2.1.weaken (fun _ _ _ _ => trivial)⟩⟩ rfl hn hsz rfl (lv_room hW) hdg hcs) hS.2.2 (fun q _ h => hS.in hK q h) (hS.in hK) (fun v w t H1 locs1 ht hvm hpost hB hz1 hk1 hS2 => ?_)
  subst ht
  exact kk v w _ locs1 hpost ⟨hB.1, hB.2.weaken (fun _ _ _ h => hS.in hK _ h), hS2⟩
theorem ro_callVq (hC : Cx p s m args meth c cc nL ret own) {C : String} {b : Nat} {y : MethodName} {bytes : ByteArray} {maxL : Nat} {rt : Option FieldType} {k : Nat} {Pic : Heap → Prop} {ix n : Nat} {As st0 : List Value} {v : Option Nat} (hM : Met l y (wsA y bytes maxL rt) (rmL k) (ro_P g (.ref b :: As) Pic) (va_Sq (fun r => r = v)) 0 0 (fun _ => False)) (hy : MOK C y bytes maxL rt n) (hlink : Cond.methodLink own ix y ∈ allW) (hR : RR k R) (hcs : cells ≤ R.cells ∧ slots ≤ R.slots) (hK : KU g s) (hE : EnvG g NoA s H) (hPic : Pic H) (hrecv : ∃ cell : Cell, H[b]? = some cell ∧ cell.vm.isStatics = false ∧ s.vm.findClass C = some cell.cls) (hn : As.length = n) (hsz : ls.size = nL) (hst : st0 = As.reverse ++ .ref b :: rest) (hW : (rest.map fun v => v.category).sum ≤ 8) (hdg : decode cc pc = .ok (.invokevirtual ix, 3)) (kk : W p l e R s m args below meth c H locs cells slots Q (F0 m (pc + 3) ls (va_rf v :: rest))) : W p l e R s m args below meth c H locs cells slots Q (F0 m (pc) ls (st0)) := by
  subst hst
  have hG : GoodIn allW (wsV own ix C y (wsA y bytes maxL rt)) := by
    intro w hw
    simp only [wsV, wsA, List.cons_append, List.nil_append, List.mem_cons] at hw
    rcases hw with rfl | rfl | rfl | rfl | rfl | hw
    · exact ⟨hlink, allW_good _ hlink⟩
    · exact ⟨hy.1.1, allW_good _ hy.1.1⟩
    · exact ⟨hy.1.2.1, allW_good _ hy.1.2.1⟩
    · exact ⟨hy.1.2.2.1, allW_good _ hy.1.2.2.1⟩
    · exact ⟨hy.1.2.2.2, allW_good _ hy.1.2.2.2⟩
    · exact ⟨hw, allW_good _ hw⟩
  have hmx := hy.2.2
  refine va_csq (post := fun r => r = v) (W.runV (C := C) (cc := cc) (nL := nL) (Ts := allW) (own := own) (b := b) (As := As) (rest := rest) (index := ix) (n := n) (g := F0 m pc ls (As.reverse ++ .ref b :: rest)) ⟨hC.1, hC.2.1, hC.2.2.2.1, hC.2.2.2.2.1, hC.2.2.2.2.2.1⟩ hM (cwV n hC.2.2.2.2.2.1 hG rfl rfl rfl hy.2.1 ⟨hR.1, by have h2 := hR.2; show 8 + (maxL + 11) + 40 * k ≤ _; omega⟩) ⟨ro_blind, hrecv, fun U hU hW => ⟨rfl, hK.warm hW, by rw [hU]; exact hE.moved hW.alike, by rw [hU]; exact hPic⟩⟩ rfl hn hsz rfl (lv_room hW) hdg hcs) (fun r hr => ?_)
  subst hr
  exact kk
theorem ro_callSN (hC : Cx p s m args meth c cc nL ret own) {y : MethodName} {bytes : ByteArray} {maxL : Nat} {rt : Option FieldType} {k : Nat} {Pic : Heap → Prop} {ix n : Nat} {As st0 : List Value} {v : Int32} (hM : Met l y (wsA y bytes maxL rt) (rmL k) (ro_P g As Pic) (vp_Si (fun r => r = v)) 0 0 (fun _ => False)) (hy : MOS y bytes maxL rt n) (hlink : ∀ U : State, nestP U → va_Nw (.methodLinkNest own ix y "NamesNoTouch") U) (hR : RR k R) (hcs : cells ≤ R.cells ∧ slots ≤ R.slots) (hK : KU g s) (hE : EnvG g NoA s H) (hPic : Pic H) (hn : As.length = n) (hsz : ls.size = nL) (hst : st0 = As.reverse ++ rest) (hW : (rest.map fun v => v.category).sum ≤ 8) (hdg : decode cc pc = .ok (.invokestatic ix, 3)) (kk : W p l e R s m args below meth c H locs cells slots Q (F0 m (pc + 3) ls (.int v :: rest))) : W p l e R s m args below meth c H locs cells slots Q (F0 m (pc) ls (st0)) := by
  subst hst
  have hG : GoodIn allW (wsA y bytes maxL rt) := by
    intro w hw
    simp only [wsA, List.mem_cons] at hw
    rcases hw with rfl | hw
    · exact ⟨hy.1.2.2, allW_good _ hy.1.2.2⟩
    · exact ⟨hw, allW_good _ hw⟩
  have hmx := hy.2.2
  refine vp_callSi (post := fun r => r = v) ((va_runSN (host := "NamesNoTouch") (cc := cc) (nL := nL) (Ts := allW) (own := own) (As := As) (rest := rest) (index := ix) (n := n) (g := F0 m pc ls (As.reverse ++ rest)) ⟨hC.1, hC.2.1, hC.2.2.2.1, hC.2.2.2.2.1, hC.2.2.2.2.2.1⟩ hM ⟨va_cnB n hC.2.2.2.2.2.1 hG rfl rfl rfl (hlink s hK.2.1) (hC.2.2.2.2.2.1 _ hy.1.2.1) hy.2.1 ⟨hR.1, by have h2 := hR.2; show 8 + (maxL + 11) + 40 * k ≤ _; omega⟩, hC.2.2.2.2.2.1 _ hy.1.1, trivial⟩ ⟨ro_blind, fun U hU hW => ⟨rfl, hK.warm hW, by rw [hU]; exact hE.moved hW.alike, by rw [hU]; exact hPic⟩⟩ rfl hn hsz rfl (lv_room hW) hdg hcs).run) (fun r hr => ?_)
  subst hr
  exact kk
end R8
def kci (kd : Int) : Nat := if kd = 1 then 4 else if kd = 2 then 2 else if kd = 3 then 10 else if kd = 4 then 1 else if kd = 5 then 3 else if kd = 6 then 11 else 5
def nmV (tr : Nat) (i v lt c r : Int) : List Value := [.ref tr, .int (iI i), .int (iI v), .int (iI lt), .int (iI c), .int (iI r)]
/-- a name of a kind stands there -/
def nmAt (g : GG) (q : Nat) (kd : Int) (tr : Nat) (i v lt c r : Int) (H : Heap) : Prop := va_at g.1 vwCl (q, .inr (kci kd, nmV tr i v lt c r)) H ∧ (0 ≤ kd ∧ kd ≤ 6)
theorem kd_cases {kd : Int} (h : 0 ≤ kd ∧ kd ≤ 6) : kd = 0 ∨ kd = 1 ∨ kd = 2 ∨ kd = 3 ∨ kd = 4 ∨ kd = 5 ∨ kd = 6 := by omega
def kdC (kd : Int) : String := if kd = 1 then RX3 else if kd = 2 then RX1 else if kd = 3 then RX9 else if kd = 4 then RX0 else if kd = 5 then RX2 else if kd = 6 then RX10 else RX4
theorem li_recvN {g : GG} {s : State} {H : Heap} {q tr : Nat} {kd i v lt c r : Int} (hK : KU g s) (hN : nmAt g q kd tr i v lt c r H) : ∃ cell : Cell, H[q]? = some cell ∧ cell.vm.isStatics = false ∧ s.vm.findClass (kdC kd) = some cell.cls := by
  obtain ⟨ho, hk⟩ := hN
  rcases kd_cases hk with rfl | rfl | rfl | rfl | rfl | rfl | rfl
  · exact li_recv hK ck_X4 ho
  · exact li_recv hK ck_X3 ho
  · exact li_recv hK ck_X1 ho
  · exact li_recv hK ck_X9 ho
  · exact li_recv hK ck_X0 ho
  · exact li_recv hK ck_X2 ho
  · exact li_recv hK ck_X10 ho
section R9
variable {p : Program} {l : Launch} {e : Env} {R : Room} {s : State} {m : MethodId} {args : Array Value} {below : List Frame} {meth : Method} {c : Code} {H : Heap} {locs : List Loc} {cells slots : Nat} {Q : State → Prop}
variable {cc : ByteArray} {nL : Nat} {ret : Option FieldType} {own : String} {pc : Nat} {ls : Array Slot} {rest : List Value} {g : GG} {A : Nat → Prop} {ws ws' : va_W}
theorem li_getS (hC : Cx p s m args meth c cc nL ret own) (hK : KU g s) {C : String} {T : u_T} {N ci : Nat} {ty : Nat → FieldType} (hk : COK ci C T N ty) {a : Nat} {fs : List Value} (ho : va_at g.1 vwCl (a, .inr (ci, fs)) H) (k : Nat) (hkN : k < N) {ix : Nat} {ref : String} (hlink : Cond.fieldLink own ix ref (T k).2.1 (T k).2.2.1 ∈ allW) (hsf : Cond.sameField ref (T k).1 (T k).2.1 (T k).2.2.1 ∈ allW) {v : Value} (hv : fs[k]? = some v) (hdg : decode cc pc = .ok (.getfield ix, 3)) (kk : W p l e R s m args below meth c H locs cells slots Q (F0 m (pc + 3) ls (v :: rest))) : W p l e R s m args below meth c H locs cells slots Q (F0 m (pc) ls (.ref a :: rest)) := va_get (ci := ci) hC.1 hC.2.1 hC.2.2.2.2.2.1 hk.2.1 hC.2.2.2.2.1 hK.1 (P1 ho) 0 rfl hk.1 k hkN (hC.2.2.2.2.2.1 _ hlink) (fun x hx => u_same (hC.2.2.2.2.2.1 _ hsf) x hx) hv hdg kk
theorem li_getN0 (hC : Cx p s m args meth c cc nL ret own) (hK : KU g s) {q tr : Nat} {kd i v lt cl r : Int} (hN : nmAt g q kd tr i v lt cl r H) {ix : Nat} (hlink : Cond.fieldLink own ix "NamesNoTouch$Name" "trail" "LNamesNoTouch$Row;" ∈ allW) (hdg : decode cc pc = .ok (.getfield ix, 3)) (kk : W p l e R s m args below meth c H locs cells slots Q (F0 m (pc + 3) ls (.ref tr :: rest))) : W p l e R s m args below meth c H locs cells slots Q (F0 m (pc) ls (.ref q :: rest)) := by
  obtain ⟨ho, hk⟩ := hN
  rcases kd_cases hk with rfl | rfl | rfl | rfl | rfl | rfl | rfl
  · exact li_get hC hK ck_X4 ho 0 (by decide) hlink rfl (v := .ref tr) rfl hdg kk
  · exact li_get hC hK ck_X3 ho 0 (by decide) hlink rfl (v := .ref tr) rfl hdg kk
  · exact li_get hC hK ck_X1 ho 0 (by decide) hlink rfl (v := .ref tr) rfl hdg kk
  · exact li_get hC hK ck_X9 ho 0 (by decide) hlink rfl (v := .ref tr) rfl hdg kk
  · exact li_get hC hK ck_X0 ho 0 (by decide) hlink rfl (v := .ref tr) rfl hdg kk
  · exact li_get hC hK ck_X2 ho 0 (by decide) hlink rfl (v := .ref tr) rfl hdg kk
  · exact li_get hC hK ck_X10 ho 0 (by decide) hlink rfl (v := .ref tr) rfl hdg kk
theorem li_getNs0 (hC : Cx p s m args meth c cc nL ret own) (hK : KU g s) {q tr : Nat} {kd i v lt cl r : Int} (hN : nmAt g q kd tr i v lt cl r H) {ix : Nat} {ref : String} (hlink : Cond.fieldLink own ix ref "trail" "LNamesNoTouch$Row;" ∈ allW) (hsf : Cond.sameField ref "NamesNoTouch$Name" "trail" "LNamesNoTouch$Row;" ∈ allW) (hdg : decode cc pc = .ok (.getfield ix, 3)) (kk : W p l e R s m args below meth c H locs cells slots Q (F0 m (pc + 3) ls (.ref tr :: rest))) : W p l e R s m args below meth c H locs cells slots Q (F0 m (pc) ls (.ref q :: rest)) := by
  obtain ⟨ho, hk⟩ := hN
  rcases kd_cases hk with rfl | rfl | rfl | rfl | rfl | rfl | rfl
  · exact li_getS hC hK ck_X4 ho 0 (by decide) hlink hsf (v := .ref tr) rfl hdg kk
  · exact li_getS hC hK ck_X3 ho 0 (by decide) hlink hsf (v := .ref tr) rfl hdg kk
  · exact li_getS hC hK ck_X1 ho 0 (by decide) hlink hsf (v := .ref tr) rfl hdg kk
  · exact li_getS hC hK ck_X9 ho 0 (by decide) hlink hsf (v := .ref tr) rfl hdg kk
  · exact li_getS hC hK ck_X0 ho 0 (by decide) hlink hsf (v := .ref tr) rfl hdg kk
  · exact li_getS hC hK ck_X2 ho 0 (by decide) hlink hsf (v := .ref tr) rfl hdg kk
  · exact li_getS hC hK ck_X10 ho 0 (by decide) hlink hsf (v := .ref tr) rfl hdg kk
theorem li_getN1 (hC : Cx p s m args meth c cc nL ret own) (hK : KU g s) {q tr : Nat} {kd i v lt cl r : Int} (hN : nmAt g q kd tr i v lt cl r H) {ix : Nat} (hlink : Cond.fieldLink own ix "NamesNoTouch$Name" "number" "I" ∈ allW) (hdg : decode cc pc = .ok (.getfield ix, 3)) (kk : W p l e R s m args below meth c H locs cells slots Q (F0 m (pc + 3) ls (.int (iI i) :: rest))) : W p l e R s m args below meth c H locs cells slots Q (F0 m (pc) ls (.ref q :: rest)) := by
  obtain ⟨ho, hk⟩ := hN
  rcases kd_cases hk with rfl | rfl | rfl | rfl | rfl | rfl | rfl
  · exact li_get hC hK ck_X4 ho 1 (by decide) hlink rfl (v := .int (iI i)) rfl hdg kk
  · exact li_get hC hK ck_X3 ho 1 (by decide) hlink rfl (v := .int (iI i)) rfl hdg kk
  · exact li_get hC hK ck_X1 ho 1 (by decide) hlink rfl (v := .int (iI i)) rfl hdg kk
  · exact li_get hC hK ck_X9 ho 1 (by decide) hlink rfl (v := .int (iI i)) rfl hdg kk
  · exact li_get hC hK ck_X0 ho 1 (by decide) hlink rfl (v := .int (iI i)) rfl hdg kk
  · exact li_get hC hK ck_X2 ho 1 (by decide) hlink rfl (v := .int (iI i)) rfl hdg kk
  · exact li_get hC hK ck_X10 ho 1 (by decide) hlink rfl (v := .int (iI i)) rfl hdg kk
theorem li_getNs1 (hC : Cx p s m args meth c cc nL ret own) (hK : KU g s) {q tr : Nat} {kd i v lt cl r : Int} (hN : nmAt g q kd tr i v lt cl r H) {ix : Nat} {ref : String} (hlink : Cond.fieldLink own ix ref "number" "I" ∈ allW) (hsf : Cond.sameField ref "NamesNoTouch$Name" "number" "I" ∈ allW) (hdg : decode cc pc = .ok (.getfield ix, 3)) (kk : W p l e R s m args below meth c H locs cells slots Q (F0 m (pc + 3) ls (.int (iI i) :: rest))) : W p l e R s m args below meth c H locs cells slots Q (F0 m (pc) ls (.ref q :: rest)) := by
  obtain ⟨ho, hk⟩ := hN
  rcases kd_cases hk with rfl | rfl | rfl | rfl | rfl | rfl | rfl
  · exact li_getS hC hK ck_X4 ho 1 (by decide) hlink hsf (v := .int (iI i)) rfl hdg kk
  · exact li_getS hC hK ck_X3 ho 1 (by decide) hlink hsf (v := .int (iI i)) rfl hdg kk
  · exact li_getS hC hK ck_X1 ho 1 (by decide) hlink hsf (v := .int (iI i)) rfl hdg kk
  · exact li_getS hC hK ck_X9 ho 1 (by decide) hlink hsf (v := .int (iI i)) rfl hdg kk
  · exact li_getS hC hK ck_X0 ho 1 (by decide) hlink hsf (v := .int (iI i)) rfl hdg kk
  · exact li_getS hC hK ck_X2 ho 1 (by decide) hlink hsf (v := .int (iI i)) rfl hdg kk
  · exact li_getS hC hK ck_X10 ho 1 (by decide) hlink hsf (v := .int (iI i)) rfl hdg kk
theorem li_getN2 (hC : Cx p s m args meth c cc nL ret own) (hK : KU g s) {q tr : Nat} {kd i v lt cl r : Int} (hN : nmAt g q kd tr i v lt cl r H) {ix : Nat} (hlink : Cond.fieldLink own ix "NamesNoTouch$Name" "v" "I" ∈ allW) (hdg : decode cc pc = .ok (.getfield ix, 3)) (kk : W p l e R s m args below meth c H locs cells slots Q (F0 m (pc + 3) ls (.int (iI v) :: rest))) : W p l e R s m args below meth c H locs cells slots Q (F0 m (pc) ls (.ref q :: rest)) := by
  obtain ⟨ho, hk⟩ := hN
  rcases kd_cases hk with rfl | rfl | rfl | rfl | rfl | rfl | rfl
  · exact li_get hC hK ck_X4 ho 2 (by decide) hlink rfl (v := .int (iI v)) rfl hdg kk
  · exact li_get hC hK ck_X3 ho 2 (by decide) hlink rfl (v := .int (iI v)) rfl hdg kk
  · exact li_get hC hK ck_X1 ho 2 (by decide) hlink rfl (v := .int (iI v)) rfl hdg kk
  · exact li_get hC hK ck_X9 ho 2 (by decide) hlink rfl (v := .int (iI v)) rfl hdg kk
  · exact li_get hC hK ck_X0 ho 2 (by decide) hlink rfl (v := .int (iI v)) rfl hdg kk
  · exact li_get hC hK ck_X2 ho 2 (by decide) hlink rfl (v := .int (iI v)) rfl hdg kk
  · exact li_get hC hK ck_X10 ho 2 (by decide) hlink rfl (v := .int (iI v)) rfl hdg kk
theorem li_getNs2 (hC : Cx p s m args meth c cc nL ret own) (hK : KU g s) {q tr : Nat} {kd i v lt cl r : Int} (hN : nmAt g q kd tr i v lt cl r H) {ix : Nat} {ref : String} (hlink : Cond.fieldLink own ix ref "v" "I" ∈ allW) (hsf : Cond.sameField ref "NamesNoTouch$Name" "v" "I" ∈ allW) (hdg : decode cc pc = .ok (.getfield ix, 3)) (kk : W p l e R s m args below meth c H locs cells slots Q (F0 m (pc + 3) ls (.int (iI v) :: rest))) : W p l e R s m args below meth c H locs cells slots Q (F0 m (pc) ls (.ref q :: rest)) := by
  obtain ⟨ho, hk⟩ := hN
  rcases kd_cases hk with rfl | rfl | rfl | rfl | rfl | rfl | rfl
  · exact li_getS hC hK ck_X4 ho 2 (by decide) hlink hsf (v := .int (iI v)) rfl hdg kk
  · exact li_getS hC hK ck_X3 ho 2 (by decide) hlink hsf (v := .int (iI v)) rfl hdg kk
  · exact li_getS hC hK ck_X1 ho 2 (by decide) hlink hsf (v := .int (iI v)) rfl hdg kk
  · exact li_getS hC hK ck_X9 ho 2 (by decide) hlink hsf (v := .int (iI v)) rfl hdg kk
  · exact li_getS hC hK ck_X0 ho 2 (by decide) hlink hsf (v := .int (iI v)) rfl hdg kk
  · exact li_getS hC hK ck_X2 ho 2 (by decide) hlink hsf (v := .int (iI v)) rfl hdg kk
  · exact li_getS hC hK ck_X10 ho 2 (by decide) hlink hsf (v := .int (iI v)) rfl hdg kk
theorem li_getN3 (hC : Cx p s m args meth c cc nL ret own) (hK : KU g s) {q tr : Nat} {kd i v lt cl r : Int} (hN : nmAt g q kd tr i v lt cl r H) {ix : Nat} (hlink : Cond.fieldLink own ix "NamesNoTouch$Name" "letters" "I" ∈ allW) (hdg : decode cc pc = .ok (.getfield ix, 3)) (kk : W p l e R s m args below meth c H locs cells slots Q (F0 m (pc + 3) ls (.int (iI lt) :: rest))) : W p l e R s m args below meth c H locs cells slots Q (F0 m (pc) ls (.ref q :: rest)) := by
  obtain ⟨ho, hk⟩ := hN
  rcases kd_cases hk with rfl | rfl | rfl | rfl | rfl | rfl | rfl
  · exact li_get hC hK ck_X4 ho 3 (by decide) hlink rfl (v := .int (iI lt)) rfl hdg kk
  · exact li_get hC hK ck_X3 ho 3 (by decide) hlink rfl (v := .int (iI lt)) rfl hdg kk
  · exact li_get hC hK ck_X1 ho 3 (by decide) hlink rfl (v := .int (iI lt)) rfl hdg kk
  · exact li_get hC hK ck_X9 ho 3 (by decide) hlink rfl (v := .int (iI lt)) rfl hdg kk
  · exact li_get hC hK ck_X0 ho 3 (by decide) hlink rfl (v := .int (iI lt)) rfl hdg kk
  · exact li_get hC hK ck_X2 ho 3 (by decide) hlink rfl (v := .int (iI lt)) rfl hdg kk
  · exact li_get hC hK ck_X10 ho 3 (by decide) hlink rfl (v := .int (iI lt)) rfl hdg kk
theorem li_getNs3 (hC : Cx p s m args meth c cc nL ret own) (hK : KU g s) {q tr : Nat} {kd i v lt cl r : Int} (hN : nmAt g q kd tr i v lt cl r H) {ix : Nat} {ref : String} (hlink : Cond.fieldLink own ix ref "letters" "I" ∈ allW) (hsf : Cond.sameField ref "NamesNoTouch$Name" "letters" "I" ∈ allW) (hdg : decode cc pc = .ok (.getfield ix, 3)) (kk : W p l e R s m args below meth c H locs cells slots Q (F0 m (pc + 3) ls (.int (iI lt) :: rest))) : W p l e R s m args below meth c H locs cells slots Q (F0 m (pc) ls (.ref q :: rest)) := by
  obtain ⟨ho, hk⟩ := hN
  rcases kd_cases hk with rfl | rfl | rfl | rfl | rfl | rfl | rfl
  · exact li_getS hC hK ck_X4 ho 3 (by decide) hlink hsf (v := .int (iI lt)) rfl hdg kk
  · exact li_getS hC hK ck_X3 ho 3 (by decide) hlink hsf (v := .int (iI lt)) rfl hdg kk
  · exact li_getS hC hK ck_X1 ho 3 (by decide) hlink hsf (v := .int (iI lt)) rfl hdg kk
  · exact li_getS hC hK ck_X9 ho 3 (by decide) hlink hsf (v := .int (iI lt)) rfl hdg kk
  · exact li_getS hC hK ck_X0 ho 3 (by decide) hlink hsf (v := .int (iI lt)) rfl hdg kk
  · exact li_getS hC hK ck_X2 ho 3 (by decide) hlink hsf (v := .int (iI lt)) rfl hdg kk
  · exact li_getS hC hK ck_X10 ho 3 (by decide) hlink hsf (v := .int (iI lt)) rfl hdg kk
theorem li_getN4 (hC : Cx p s m args meth c cc nL ret own) (hK : KU g s) {q tr : Nat} {kd i v lt cl r : Int} (hN : nmAt g q kd tr i v lt cl r H) {ix : Nat} (hlink : Cond.fieldLink own ix "NamesNoTouch$Name" "column" "I" ∈ allW) (hdg : decode cc pc = .ok (.getfield ix, 3)) (kk : W p l e R s m args below meth c H locs cells slots Q (F0 m (pc + 3) ls (.int (iI cl) :: rest))) : W p l e R s m args below meth c H locs cells slots Q (F0 m (pc) ls (.ref q :: rest)) := by
  obtain ⟨ho, hk⟩ := hN
  rcases kd_cases hk with rfl | rfl | rfl | rfl | rfl | rfl | rfl
  · exact li_get hC hK ck_X4 ho 4 (by decide) hlink rfl (v := .int (iI cl)) rfl hdg kk
  · exact li_get hC hK ck_X3 ho 4 (by decide) hlink rfl (v := .int (iI cl)) rfl hdg kk
  · exact li_get hC hK ck_X1 ho 4 (by decide) hlink rfl (v := .int (iI cl)) rfl hdg kk
  · exact li_get hC hK ck_X9 ho 4 (by decide) hlink rfl (v := .int (iI cl)) rfl hdg kk
  · exact li_get hC hK ck_X0 ho 4 (by decide) hlink rfl (v := .int (iI cl)) rfl hdg kk
  · exact li_get hC hK ck_X2 ho 4 (by decide) hlink rfl (v := .int (iI cl)) rfl hdg kk
  · exact li_get hC hK ck_X10 ho 4 (by decide) hlink rfl (v := .int (iI cl)) rfl hdg kk
theorem li_getNs4 (hC : Cx p s m args meth c cc nL ret own) (hK : KU g s) {q tr : Nat} {kd i v lt cl r : Int} (hN : nmAt g q kd tr i v lt cl r H) {ix : Nat} {ref : String} (hlink : Cond.fieldLink own ix ref "column" "I" ∈ allW) (hsf : Cond.sameField ref "NamesNoTouch$Name" "column" "I" ∈ allW) (hdg : decode cc pc = .ok (.getfield ix, 3)) (kk : W p l e R s m args below meth c H locs cells slots Q (F0 m (pc + 3) ls (.int (iI cl) :: rest))) : W p l e R s m args below meth c H locs cells slots Q (F0 m (pc) ls (.ref q :: rest)) := by
  obtain ⟨ho, hk⟩ := hN
  rcases kd_cases hk with rfl | rfl | rfl | rfl | rfl | rfl | rfl
  · exact li_getS hC hK ck_X4 ho 4 (by decide) hlink hsf (v := .int (iI cl)) rfl hdg kk
  · exact li_getS hC hK ck_X3 ho 4 (by decide) hlink hsf (v := .int (iI cl)) rfl hdg kk
  · exact li_getS hC hK ck_X1 ho 4 (by decide) hlink hsf (v := .int (iI cl)) rfl hdg kk
  · exact li_getS hC hK ck_X9 ho 4 (by decide) hlink hsf (v := .int (iI cl)) rfl hdg kk
  · exact li_getS hC hK ck_X0 ho 4 (by decide) hlink hsf (v := .int (iI cl)) rfl hdg kk
  · exact li_getS hC hK ck_X2 ho 4 (by decide) hlink hsf (v := .int (iI cl)) rfl hdg kk
  · exact li_getS hC hK ck_X10 ho 4 (by decide) hlink hsf (v := .int (iI cl)) rfl hdg kk
theorem li_getN5 (hC : Cx p s m args meth c cc nL ret own) (hK : KU g s) {q tr : Nat} {kd i v lt cl r : Int} (hN : nmAt g q kd tr i v lt cl r H) {ix : Nat} (hlink : Cond.fieldLink own ix "NamesNoTouch$Name" "line" "I" ∈ allW) (hdg : decode cc pc = .ok (.getfield ix, 3)) (kk : W p l e R s m args below meth c H locs cells slots Q (F0 m (pc + 3) ls (.int (iI r) :: rest))) : W p l e R s m args below meth c H locs cells slots Q (F0 m (pc) ls (.ref q :: rest)) := by
  obtain ⟨ho, hk⟩ := hN
  rcases kd_cases hk with rfl | rfl | rfl | rfl | rfl | rfl | rfl
  · exact li_get hC hK ck_X4 ho 5 (by decide) hlink rfl (v := .int (iI r)) rfl hdg kk
  · exact li_get hC hK ck_X3 ho 5 (by decide) hlink rfl (v := .int (iI r)) rfl hdg kk
  · exact li_get hC hK ck_X1 ho 5 (by decide) hlink rfl (v := .int (iI r)) rfl hdg kk
  · exact li_get hC hK ck_X9 ho 5 (by decide) hlink rfl (v := .int (iI r)) rfl hdg kk
  · exact li_get hC hK ck_X0 ho 5 (by decide) hlink rfl (v := .int (iI r)) rfl hdg kk
  · exact li_get hC hK ck_X2 ho 5 (by decide) hlink rfl (v := .int (iI r)) rfl hdg kk
  · exact li_get hC hK ck_X10 ho 5 (by decide) hlink rfl (v := .int (iI r)) rfl hdg kk
theorem li_getNs5 (hC : Cx p s m args meth c cc nL ret own) (hK : KU g s) {q tr : Nat} {kd i v lt cl r : Int} (hN : nmAt g q kd tr i v lt cl r H) {ix : Nat} {ref : String} (hlink : Cond.fieldLink own ix ref "line" "I" ∈ allW) (hsf : Cond.sameField ref "NamesNoTouch$Name" "line" "I" ∈ allW) (hdg : decode cc pc = .ok (.getfield ix, 3)) (kk : W p l e R s m args below meth c H locs cells slots Q (F0 m (pc + 3) ls (.int (iI r) :: rest))) : W p l e R s m args below meth c H locs cells slots Q (F0 m (pc) ls (.ref q :: rest)) := by
  obtain ⟨ho, hk⟩ := hN
  rcases kd_cases hk with rfl | rfl | rfl | rfl | rfl | rfl | rfl
  · exact li_getS hC hK ck_X4 ho 5 (by decide) hlink hsf (v := .int (iI r)) rfl hdg kk
  · exact li_getS hC hK ck_X3 ho 5 (by decide) hlink hsf (v := .int (iI r)) rfl hdg kk
  · exact li_getS hC hK ck_X1 ho 5 (by decide) hlink hsf (v := .int (iI r)) rfl hdg kk
  · exact li_getS hC hK ck_X9 ho 5 (by decide) hlink hsf (v := .int (iI r)) rfl hdg kk
  · exact li_getS hC hK ck_X0 ho 5 (by decide) hlink hsf (v := .int (iI r)) rfl hdg kk
  · exact li_getS hC hK ck_X2 ho 5 (by decide) hlink hsf (v := .int (iI r)) rfl hdg kk
  · exact li_getS hC hK ck_X10 ho 5 (by decide) hlink hsf (v := .int (iI r)) rfl hdg kk
theorem li_castN (hC : Cx p s m args meth c cc nL ret own) (hK : KU g s) {q tr : Nat} {kd i v lt cl r : Int} (hN : nmAt g q kd tr i v lt cl r H) {ix : Nat} (hlink : Cond.classLink own ix "NamesNoTouch$Name" ∈ allW) (hdg : decode cc pc = .ok (.checkcast ix, 3)) (kk : W p l e R s m args below meth c H locs cells slots Q (F0 m (pc + 3) ls (.ref q :: rest))) : W p l e R s m args below meth c H locs cells slots Q (F0 m (pc) ls (.ref q :: rest)) := by
  have hr := li_recvN hK hN
  obtain ⟨ho, hk⟩ := hN
  rcases kd_cases hk with rfl | rfl | rfl | rfl | rfl | rfl | rfl
  · exact va_castS hC.1 hC.2.1 hC.2.2.2.2.1 (hC.2.2.2.2.2.1 _ hlink) (hK.1.1 5 _ rfl).2 hr hdg kk
  · exact va_castY hC.1 hC.2.1 hC.2.2.2.2.1 (hC.2.2.2.2.2.1 _ hlink) (hK.2.1.2.2.2.2.2 ("NamesNoTouch$Large", "NamesNoTouch$Name") (List.mem_of_getElem? (i := 3) rfl)) hr hdg kk
  · exact va_castY hC.1 hC.2.1 hC.2.2.2.2.1 (hC.2.2.2.2.2.1 _ hlink) (hK.2.1.2.2.2.2.2 ("NamesNoTouch$Coastal", "NamesNoTouch$Name") (List.mem_of_getElem? (i := 1) rfl)) hr hdg kk
  · exact va_castY hC.1 hC.2.1 hC.2.2.2.2.1 (hC.2.2.2.2.2.1 _ hlink) (hK.2.1.2.2.2.2.2 ("NamesNoTouch$Shy", "NamesNoTouch$Name") (List.mem_of_getElem? (i := 4) rfl)) hr hdg kk
  · exact va_castY hC.1 hC.2.1 hC.2.2.2.2.1 (hC.2.2.2.2.2.1 _ hlink) (hK.2.1.2.2.2.2.2 ("NamesNoTouch$City", "NamesNoTouch$Name") (List.mem_of_getElem? (i := 0) rfl)) hr hdg kk
  · exact va_castY hC.1 hC.2.1 hC.2.2.2.2.1 (hC.2.2.2.2.2.1 _ hlink) (hK.2.1.2.2.2.2.2 ("NamesNoTouch$Harbour", "NamesNoTouch$Name") (List.mem_of_getElem? (i := 2) rfl)) hr hdg kk
  · exact va_castY hC.1 hC.2.1 hC.2.2.2.2.1 (hC.2.2.2.2.2.1 _ hlink) (hK.2.1.2.2.2.2.2 ("NamesNoTouch$Told", "NamesNoTouch$Name") (List.mem_of_getElem? (i := 5) rfl)) hr hdg kk
theorem li_inst1 (hC : Cx p s m args meth c cc nL ret own) (hK : KU g s) {q tr : Nat} {kd i v lt cl r : Int} (hN : nmAt g q kd tr i v lt cl r H) {ix : Nat} (hlink : Cond.classLink own ix "NamesNoTouch$Large" ∈ allW) (hdg : decode cc pc = .ok (.instanceof ix, 3)) (kk : W p l e R s m args below meth c H locs cells slots Q (F0 m (pc + 3) ls (.int (iI (b2 (kd = 1 ∨ kd = 4))) :: rest))) : W p l e R s m args below meth c H locs cells slots Q (F0 m (pc) ls (.ref q :: rest)) := by
  have hr := li_recvN hK hN
  obtain ⟨ho, hk⟩ := hN
  rcases kd_cases hk with rfl | rfl | rfl | rfl | rfl | rfl | rfl
  · rw [b2_f (by decide)] at kk; exact va_instNo hC.1 hC.2.1 hC.2.2.2.2.1 (hC.2.2.2.2.2.1 _ hlink) (hK.2.1.2.2.2.1 ("NamesNoTouch$Name", "NamesNoTouch$Large") (List.mem_of_getElem? (i := 0) rfl)) hr hdg kk
  · rw [b2_t (by decide)] at kk; exact va_instS hC.1 hC.2.1 hC.2.2.2.2.1 (hC.2.2.2.2.2.1 _ hlink) (hK.1.1 4 _ rfl).2 hr hdg kk
  · rw [b2_f (by decide)] at kk; exact va_instNo hC.1 hC.2.1 hC.2.2.2.2.1 (hC.2.2.2.2.2.1 _ hlink) (hK.2.1.2.2.2.1 ("NamesNoTouch$Coastal", "NamesNoTouch$Large") (List.mem_of_getElem? (i := 11) rfl)) hr hdg kk
  · rw [b2_f (by decide)] at kk; exact va_instNo hC.1 hC.2.1 hC.2.2.2.2.1 (hC.2.2.2.2.2.1 _ hlink) (hK.2.1.2.2.2.1 ("NamesNoTouch$Shy", "NamesNoTouch$Large") (List.mem_of_getElem? (i := 16) rfl)) hr hdg kk
  · rw [b2_t (by decide)] at kk; exact va_instY hC.1 hC.2.1 hC.2.2.2.2.1 (hC.2.2.2.2.2.1 _ hlink) (hK.2.1.2.2.2.2.2 ("NamesNoTouch$City", "NamesNoTouch$Large") (List.mem_of_getElem? (i := 6) rfl)) hr hdg kk
  · rw [b2_f (by decide)] at kk; exact va_instNo hC.1 hC.2.1 hC.2.2.2.2.1 (hC.2.2.2.2.2.1 _ hlink) (hK.2.1.2.2.2.1 ("NamesNoTouch$Harbour", "NamesNoTouch$Large") (List.mem_of_getElem? (i := 25) rfl)) hr hdg kk
  · rw [b2_f (by decide)] at kk; exact va_instNo hC.1 hC.2.1 hC.2.2.2.2.1 (hC.2.2.2.2.2.1 _ hlink) (hK.2.1.2.2.2.1 ("NamesNoTouch$Told", "NamesNoTouch$Large") (List.mem_of_getElem? (i := 29) rfl)) hr hdg kk
theorem li_inst2 (hC : Cx p s m args meth c cc nL ret own) (hK : KU g s) {q tr : Nat} {kd i v lt cl r : Int} (hN : nmAt g q kd tr i v lt cl r H) {ix : Nat} (hlink : Cond.classLink own ix "NamesNoTouch$Coastal" ∈ allW) (hdg : decode cc pc = .ok (.instanceof ix, 3)) (kk : W p l e R s m args below meth c H locs cells slots Q (F0 m (pc + 3) ls (.int (iI (b2 (kd = 2 ∨ kd = 5))) :: rest))) : W p l e R s m args below meth c H locs cells slots Q (F0 m (pc) ls (.ref q :: rest)) := by
  have hr := li_recvN hK hN
  obtain ⟨ho, hk⟩ := hN
  rcases kd_cases hk with rfl | rfl | rfl | rfl | rfl | rfl | rfl
  · rw [b2_f (by decide)] at kk; exact va_instNo hC.1 hC.2.1 hC.2.2.2.2.1 (hC.2.2.2.2.2.1 _ hlink) (hK.2.1.2.2.2.1 ("NamesNoTouch$Name", "NamesNoTouch$Coastal") (List.mem_of_getElem? (i := 1) rfl)) hr hdg kk
  · rw [b2_f (by decide)] at kk; exact va_instNo hC.1 hC.2.1 hC.2.2.2.2.1 (hC.2.2.2.2.2.1 _ hlink) (hK.2.1.2.2.2.1 ("NamesNoTouch$Large", "NamesNoTouch$Coastal") (List.mem_of_getElem? (i := 6) rfl)) hr hdg kk
  · rw [b2_t (by decide)] at kk; exact va_instS hC.1 hC.2.1 hC.2.2.2.2.1 (hC.2.2.2.2.2.1 _ hlink) (hK.1.1 2 _ rfl).2 hr hdg kk
  · rw [b2_f (by decide)] at kk; exact va_instNo hC.1 hC.2.1 hC.2.2.2.2.1 (hC.2.2.2.2.2.1 _ hlink) (hK.2.1.2.2.2.1 ("NamesNoTouch$Shy", "NamesNoTouch$Coastal") (List.mem_of_getElem? (i := 17) rfl)) hr hdg kk
  · rw [b2_f (by decide)] at kk; exact va_instNo hC.1 hC.2.1 hC.2.2.2.2.1 (hC.2.2.2.2.2.1 _ hlink) (hK.2.1.2.2.2.1 ("NamesNoTouch$City", "NamesNoTouch$Coastal") (List.mem_of_getElem? (i := 21) rfl)) hr hdg kk
  · rw [b2_t (by decide)] at kk; exact va_instY hC.1 hC.2.1 hC.2.2.2.2.1 (hC.2.2.2.2.2.1 _ hlink) (hK.2.1.2.2.2.2.2 ("NamesNoTouch$Harbour", "NamesNoTouch$Coastal") (List.mem_of_getElem? (i := 7) rfl)) hr hdg kk
  · rw [b2_f (by decide)] at kk; exact va_instNo hC.1 hC.2.1 hC.2.2.2.2.1 (hC.2.2.2.2.2.1 _ hlink) (hK.2.1.2.2.2.1 ("NamesNoTouch$Told", "NamesNoTouch$Coastal") (List.mem_of_getElem? (i := 30) rfl)) hr hdg kk
theorem li_inst3 (hC : Cx p s m args meth c cc nL ret own) (hK : KU g s) {q tr : Nat} {kd i v lt cl r : Int} (hN : nmAt g q kd tr i v lt cl r H) {ix : Nat} (hlink : Cond.classLink own ix "NamesNoTouch$Shy" ∈ allW) (hdg : decode cc pc = .ok (.instanceof ix, 3)) (kk : W p l e R s m args below meth c H locs cells slots Q (F0 m (pc + 3) ls (.int (iI (b2 (kd = 3 ∨ kd = 6))) :: rest))) : W p l e R s m args below meth c H locs cells slots Q (F0 m (pc) ls (.ref q :: rest)) := by
  have hr := li_recvN hK hN
  obtain ⟨ho, hk⟩ := hN
  rcases kd_cases hk with rfl | rfl | rfl | rfl | rfl | rfl | rfl
  · rw [b2_f (by decide)] at kk; exact va_instNo hC.1 hC.2.1 hC.2.2.2.2.1 (hC.2.2.2.2.2.1 _ hlink) (hK.2.1.2.2.2.1 ("NamesNoTouch$Name", "NamesNoTouch$Shy") (List.mem_of_getElem? (i := 2) rfl)) hr hdg kk
  · rw [b2_f (by decide)] at kk; exact va_instNo hC.1 hC.2.1 hC.2.2.2.2.1 (hC.2.2.2.2.2.1 _ hlink) (hK.2.1.2.2.2.1 ("NamesNoTouch$Large", "NamesNoTouch$Shy") (List.mem_of_getElem? (i := 7) rfl)) hr hdg kk
  · rw [b2_f (by decide)] at kk; exact va_instNo hC.1 hC.2.1 hC.2.2.2.2.1 (hC.2.2.2.2.2.1 _ hlink) (hK.2.1.2.2.2.1 ("NamesNoTouch$Coastal", "NamesNoTouch$Shy") (List.mem_of_getElem? (i := 12) rfl)) hr hdg kk
  · rw [b2_t (by decide)] at kk; exact va_instS hC.1 hC.2.1 hC.2.2.2.2.1 (hC.2.2.2.2.2.1 _ hlink) (hK.1.1 10 _ rfl).2 hr hdg kk
  · rw [b2_f (by decide)] at kk; exact va_instNo hC.1 hC.2.1 hC.2.2.2.2.1 (hC.2.2.2.2.2.1 _ hlink) (hK.2.1.2.2.2.1 ("NamesNoTouch$City", "NamesNoTouch$Shy") (List.mem_of_getElem? (i := 22) rfl)) hr hdg kk
  · rw [b2_f (by decide)] at kk; exact va_instNo hC.1 hC.2.1 hC.2.2.2.2.1 (hC.2.2.2.2.2.1 _ hlink) (hK.2.1.2.2.2.1 ("NamesNoTouch$Harbour", "NamesNoTouch$Shy") (List.mem_of_getElem? (i := 26) rfl)) hr hdg kk
  · rw [b2_t (by decide)] at kk; exact va_instY hC.1 hC.2.1 hC.2.2.2.2.1 (hC.2.2.2.2.2.1 _ hlink) (hK.2.1.2.2.2.2.2 ("NamesNoTouch$Told", "NamesNoTouch$Shy") (List.mem_of_getElem? (i := 8) rfl)) hr hdg kk
theorem li_inst4 (hC : Cx p s m args meth c cc nL ret own) (hK : KU g s) {q tr : Nat} {kd i v lt cl r : Int} (hN : nmAt g q kd tr i v lt cl r H) {ix : Nat} (hlink : Cond.classLink own ix "NamesNoTouch$City" ∈ allW) (hdg : decode cc pc = .ok (.instanceof ix, 3)) (kk : W p l e R s m args below meth c H locs cells slots Q (F0 m (pc + 3) ls (.int (iI (b2 (kd = 4))) :: rest))) : W p l e R s m args below meth c H locs cells slots Q (F0 m (pc) ls (.ref q :: rest)) := by
  have hr := li_recvN hK hN
  obtain ⟨ho, hk⟩ := hN
  rcases kd_cases hk with rfl | rfl | rfl | rfl | rfl | rfl | rfl
  · rw [b2_f (by decide)] at kk; exact va_instNo hC.1 hC.2.1 hC.2.2.2.2.1 (hC.2.2.2.2.2.1 _ hlink) (hK.2.1.2.2.2.1 ("NamesNoTouch$Name", "NamesNoTouch$City") (List.mem_of_getElem? (i := 3) rfl)) hr hdg kk
  · rw [b2_f (by decide)] at kk; exact va_instNo hC.1 hC.2.1 hC.2.2.2.2.1 (hC.2.2.2.2.2.1 _ hlink) (hK.2.1.2.2.2.1 ("NamesNoTouch$Large", "NamesNoTouch$City") (List.mem_of_getElem? (i := 8) rfl)) hr hdg kk
  · rw [b2_f (by decide)] at kk; exact va_instNo hC.1 hC.2.1 hC.2.2.2.2.1 (hC.2.2.2.2.2.1 _ hlink) (hK.2.1.2.2.2.1 ("NamesNoTouch$Coastal", "NamesNoTouch$City") (List.mem_of_getElem? (i := 13) rfl)) hr hdg kk
  · rw [b2_f (by decide)] at kk; exact va_instNo hC.1 hC.2.1 hC.2.2.2.2.1 (hC.2.2.2.2.2.1 _ hlink) (hK.2.1.2.2.2.1 ("NamesNoTouch$Shy", "NamesNoTouch$City") (List.mem_of_getElem? (i := 18) rfl)) hr hdg kk
  · rw [b2_t (by decide)] at kk; exact va_instS hC.1 hC.2.1 hC.2.2.2.2.1 (hC.2.2.2.2.2.1 _ hlink) (hK.1.1 1 _ rfl).2 hr hdg kk
  · rw [b2_f (by decide)] at kk; exact va_instNo hC.1 hC.2.1 hC.2.2.2.2.1 (hC.2.2.2.2.2.1 _ hlink) (hK.2.1.2.2.2.1 ("NamesNoTouch$Harbour", "NamesNoTouch$City") (List.mem_of_getElem? (i := 27) rfl)) hr hdg kk
  · rw [b2_f (by decide)] at kk; exact va_instNo hC.1 hC.2.1 hC.2.2.2.2.1 (hC.2.2.2.2.2.1 _ hlink) (hK.2.1.2.2.2.1 ("NamesNoTouch$Told", "NamesNoTouch$City") (List.mem_of_getElem? (i := 31) rfl)) hr hdg kk
theorem li_inst5 (hC : Cx p s m args meth c cc nL ret own) (hK : KU g s) {q tr : Nat} {kd i v lt cl r : Int} (hN : nmAt g q kd tr i v lt cl r H) {ix : Nat} (hlink : Cond.classLink own ix "NamesNoTouch$Harbour" ∈ allW) (hdg : decode cc pc = .ok (.instanceof ix, 3)) (kk : W p l e R s m args below meth c H locs cells slots Q (F0 m (pc + 3) ls (.int (iI (b2 (kd = 5))) :: rest))) : W p l e R s m args below meth c H locs cells slots Q (F0 m (pc) ls (.ref q :: rest)) := by
  have hr := li_recvN hK hN
  obtain ⟨ho, hk⟩ := hN
  rcases kd_cases hk with rfl | rfl | rfl | rfl | rfl | rfl | rfl
  · rw [b2_f (by decide)] at kk; exact va_instNo hC.1 hC.2.1 hC.2.2.2.2.1 (hC.2.2.2.2.2.1 _ hlink) (hK.2.1.2.2.2.1 ("NamesNoTouch$Name", "NamesNoTouch$Harbour") (List.mem_of_getElem? (i := 4) rfl)) hr hdg kk
  · rw [b2_f (by decide)] at kk; exact va_instNo hC.1 hC.2.1 hC.2.2.2.2.1 (hC.2.2.2.2.2.1 _ hlink) (hK.2.1.2.2.2.1 ("NamesNoTouch$Large", "NamesNoTouch$Harbour") (List.mem_of_getElem? (i := 9) rfl)) hr hdg kk
  · rw [b2_f (by decide)] at kk; exact va_instNo hC.1 hC.2.1 hC.2.2.2.2.1 (hC.2.2.2.2.2.1 _ hlink) (hK.2.1.2.2.2.1 ("NamesNoTouch$Coastal", "NamesNoTouch$Harbour") (List.mem_of_getElem? (i := 14) rfl)) hr hdg kk
  · rw [b2_f (by decide)] at kk; exact va_instNo hC.1 hC.2.1 hC.2.2.2.2.1 (hC.2.2.2.2.2.1 _ hlink) (hK.2.1.2.2.2.1 ("NamesNoTouch$Shy", "NamesNoTouch$Harbour") (List.mem_of_getElem? (i := 19) rfl)) hr hdg kk
  · rw [b2_f (by decide)] at kk; exact va_instNo hC.1 hC.2.1 hC.2.2.2.2.1 (hC.2.2.2.2.2.1 _ hlink) (hK.2.1.2.2.2.1 ("NamesNoTouch$City", "NamesNoTouch$Harbour") (List.mem_of_getElem? (i := 23) rfl)) hr hdg kk
  · rw [b2_t (by decide)] at kk; exact va_instS hC.1 hC.2.1 hC.2.2.2.2.1 (hC.2.2.2.2.2.1 _ hlink) (hK.1.1 3 _ rfl).2 hr hdg kk
  · rw [b2_f (by decide)] at kk; exact va_instNo hC.1 hC.2.1 hC.2.2.2.2.1 (hC.2.2.2.2.2.1 _ hlink) (hK.2.1.2.2.2.1 ("NamesNoTouch$Told", "NamesNoTouch$Harbour") (List.mem_of_getElem? (i := 32) rfl)) hr hdg kk
theorem li_inst6 (hC : Cx p s m args meth c cc nL ret own) (hK : KU g s) {q tr : Nat} {kd i v lt cl r : Int} (hN : nmAt g q kd tr i v lt cl r H) {ix : Nat} (hlink : Cond.classLink own ix "NamesNoTouch$Told" ∈ allW) (hdg : decode cc pc = .ok (.instanceof ix, 3)) (kk : W p l e R s m args below meth c H locs cells slots Q (F0 m (pc + 3) ls (.int (iI (b2 (kd = 6))) :: rest))) : W p l e R s m args below meth c H locs cells slots Q (F0 m (pc) ls (.ref q :: rest)) := by
  have hr := li_recvN hK hN
  obtain ⟨ho, hk⟩ := hN
  rcases kd_cases hk with rfl | rfl | rfl | rfl | rfl | rfl | rfl
  · rw [b2_f (by decide)] at kk; exact va_instNo hC.1 hC.2.1 hC.2.2.2.2.1 (hC.2.2.2.2.2.1 _ hlink) (hK.2.1.2.2.2.1 ("NamesNoTouch$Name", "NamesNoTouch$Told") (List.mem_of_getElem? (i := 5) rfl)) hr hdg kk
  · rw [b2_f (by decide)] at kk; exact va_instNo hC.1 hC.2.1 hC.2.2.2.2.1 (hC.2.2.2.2.2.1 _ hlink) (hK.2.1.2.2.2.1 ("NamesNoTouch$Large", "NamesNoTouch$Told") (List.mem_of_getElem? (i := 10) rfl)) hr hdg kk
  · rw [b2_f (by decide)] at kk; exact va_instNo hC.1 hC.2.1 hC.2.2.2.2.1 (hC.2.2.2.2.2.1 _ hlink) (hK.2.1.2.2.2.1 ("NamesNoTouch$Coastal", "NamesNoTouch$Told") (List.mem_of_getElem? (i := 15) rfl)) hr hdg kk
  · rw [b2_f (by decide)] at kk; exact va_instNo hC.1 hC.2.1 hC.2.2.2.2.1 (hC.2.2.2.2.2.1 _ hlink) (hK.2.1.2.2.2.1 ("NamesNoTouch$Shy", "NamesNoTouch$Told") (List.mem_of_getElem? (i := 20) rfl)) hr hdg kk
  · rw [b2_f (by decide)] at kk; exact va_instNo hC.1 hC.2.1 hC.2.2.2.2.1 (hC.2.2.2.2.2.1 _ hlink) (hK.2.1.2.2.2.1 ("NamesNoTouch$City", "NamesNoTouch$Told") (List.mem_of_getElem? (i := 24) rfl)) hr hdg kk
  · rw [b2_f (by decide)] at kk; exact va_instNo hC.1 hC.2.1 hC.2.2.2.2.1 (hC.2.2.2.2.2.1 _ hlink) (hK.2.1.2.2.2.1 ("NamesNoTouch$Harbour", "NamesNoTouch$Told") (List.mem_of_getElem? (i := 28) rfl)) hr hdg kk
  · rw [b2_t (by decide)] at kk; exact va_instS hC.1 hC.2.1 hC.2.2.2.2.1 (hC.2.2.2.2.2.1 _ hlink) (hK.1.1 11 _ rfl).2 hr hdg kk
end R9
