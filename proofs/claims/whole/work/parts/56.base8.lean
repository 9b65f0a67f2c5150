/-- a superclass's method y, linked as x -/
def MOX (own : String) (x y : MethodName) (bytes : ByteArray) (maxL : Nat) (rt : Option FieldType) (n : Nat) : Prop :=
  (Cond.sameMethod x.cls y.cls x.name x.desc ∈ allW ∧ Cond.superclass own x.cls ∈ allW ∧ (x.cls = y.cls ∨ Cond.superclass x.cls y.cls ∈ allW) ∧ Cond.instanceMethod y ∈ allW ∧ Cond.initialized y.cls ∈ allW ∧ Cond.code y bytes maxL rt ∈ allW) ∧ y = ⟨y.cls, x.name, x.desc⟩ ∧ (x.name ≠ "<init>" ∧ (parseMethodDescriptor y.desc).map (fun d => d.parameters.length) = some n) ∧ maxL ≤ 21
section R12
variable {p : Program} {l : Launch} {e : Env} {R : Room} {s : State} {m : MethodId} {args : Array Value} {below : List Frame} {meth : Method} {c : Code}
theorem cu_call {T : State} {locs : List Loc} {cells slots : Nat} (X : Stand p l e R s m args below meth c T locs cells slots) (hexec : p.tables.exec = Jvm.exec) {own : String} {index : Nat} {x y : MethodName} {bytes : ByteArray} {maxL : Nat} {ret : Option FieldType}
    (hown : s.vm.findClass own = some m.cls) (hlink : (Cond.methodLink own index x).before args s = true) (hsame : (Cond.sameMethod x.cls y.cls x.name x.desc).before args s = true) (hsup : (Cond.superclass own x.cls).before args s = true) (hup : x.cls = y.cls ∨ (Cond.superclass x.cls y.cls).before args s = true)
    (hinst : (Cond.instanceMethod y).before args s = true) (hcode : (Cond.code y bytes maxL ret).before args s = true) (hno : x.name ≠ "<init>") (hyx : y = ⟨y.cls, x.name, x.desc⟩)
    {W : Nat} {Pre : Pt → Array Value → Prop} {Post : Pt → Array Value → Option Value → Pt → Prop} (hK : Back l R p e below s args y 3 W Pre Post)
    {b : Addr} {cellB : Cell} {kB : Class} (hcell : T.heap[b]? = some cellB) (hobj : cellB.vm.isStatics = false) (hkB : s.vm.classes[cellB.cls]? = some kB)
    {g : JFrame} (hg : g.method = m) (hsize : g.locals.size = c.maxLocals) {argsL rest : List Value} (hlen : ∀ sig, parseMethodDescriptor y.desc = some sig → argsL.length = sig.parameters.length)
    (hstack : g.stack = argsL.reverse ++ .ref b :: rest) (hW : 2 * g.monitorRoom + (rest.map fun v => v.category).sum ≤ W) (hdg : decode c.code g.pc = .ok (.invokespecial index, 3))
    (hpre : ∀ vm₁, s.WarmedH vm₁ → Pre ⟨T.setVm vm₁, locs, cells, slots⟩ (Value.ref b :: argsL).toArray) :
    ∃ (v : Option Value) (vm₁ : Vm) (B : Pt), s.WarmedH vm₁ ∧ Stand p l e R s m args below meth c B.U B.locs B.cells B.slots ∧ Post ⟨T.setVm vm₁, locs, cells, slots⟩ (Value.ref b :: argsL).toArray v B ∧
      ∀ target, Steps p.tables e below (B.U.setTop { g with pc := g.pc + 3, stack := v.toList ++ rest }) target → Steps p.tables e below (T.setTop g) target := by
  obtain ⟨mk, methM, hnamed, hmethM, hstM, habM⟩ := Cond.instanceMethod_spec hinst
  obtain ⟨methM', cM, hmethM', -, -, -, -, -, -, hsigM⟩ := Cond.code_spec hnamed hcode
  cases hmethM.symm.trans hmethM'
  obtain ⟨ps, dk, kp, hps, hdk, hkp, hsuper, -, -, hnid⟩ := Cond.superclass_spec hown hsup
  have hn : s.methodNamed? ⟨y.cls, x.name, x.desc⟩ = some mk := by rw [← hyx]; exact hnamed
  have hsub : s.vm.isSubclass ps mk.cls = true := by
    rcases hup with h | h
    · have hpm : ps = mk.cls := Option.some.inj (hps.symm.trans (by rw [h]; exact findClass_of_methodNamed hnamed))
      rw [hpm]; simp [Vm.isSubclass, Vm.isSubclassAux]
    · obtain ⟨p2, d2, k2, hp2, hd2, hk2, hs2, -⟩ := Cond.superclass_spec hps h
      have hpm : p2 = mk.cls := Option.some.inj (hp2.symm.trans (findClass_of_methodNamed hnamed))
      have hz : 0 < s.vm.classes.size := Nat.lt_of_le_of_lt (Nat.zero_le _) (Array.getElem?_eq_some_iff.mp hd2).1
      obtain ⟨n, hn⟩ : ∃ n, s.vm.classes.size = n + 1 := ⟨s.vm.classes.size - 1, by omega⟩
      unfold Vm.isSubclass
      rw [hn, Vm.isSubclassAux, hd2]
      simp only [hs2]
      rw [Vm.isSubclassAux, hpm]
      simp
  obtain ⟨vm₁, X₁, hstep₁⟩ := X.invokespecialUp hexec hown hlink hsame hn hmethM hstM habM hno hdk hnid hps hsuper hsub (a := b) (cell := cellB) hcell
    (fun z h => by rw [h] at hobj; cases hobj) hkB (g := g) hg (argsL := argsL) (rest := rest) (hlen _ hsigM) hstack hdg
  obtain ⟨v, B, X', hpost, hsteps⟩ := hK m meth c ⟨T.setVm vm₁, locs, cells, slots⟩ { g with stack := rest } (.invokespecial index) mk (Value.ref b :: argsL).toArray X₁ hg hsize hdg hW (X₁.named hnamed) (hpre vm₁ X₁.warmed)
  exact ⟨v, vm₁, B, X₁.warmed, X', hpost, fun target h => hstep₁ _ (by rw [doInvoke_state]; exact hsteps.trans h)⟩
variable {H : Heap} {locs : List Loc} {cells slots : Nat}
theorem cu_run {x y : MethodName} {bytes cc : ByteArray} {maxL nL mc ms n index : Nat} {ret : Option FieldType} {ws : List Cond} {rm : Room} {Pc : Array Value → State → Prop} {Qc : Array Value → State → Outcome → State → Prop} {free : Addr → Prop} {own C : String} {b : Addr} {As rest : List Value} {g : JFrame}
    (S : CallFix p m c cc nL s args allW own) (hM : Met l y ws rm Pc Qc mc ms free) (hG : GoodIn allW ws) (hcw : Cond.code y bytes maxL ret ∈ ws) (hrc : rm.cells = mc) (hrs : rm.slots = ms) (hR : rm.frames + 1 ≤ R.frames ∧ 8 + (maxL + 11) + rm.locals ≤ R.locals) (hlink : Cond.methodLink own index x ∈ allW) (hy : MOX own x y bytes maxL ret n) (hp : PreV s H C b Pc As)
    (hg : g.method = m) (hn : As.length = n) (hsize : g.locals.size = nL) (hstack : g.stack = As.reverse ++ .ref b :: rest) (hW : 2 * g.monitorRoom + (rest.map fun v => v.category).sum ≤ 8) (hdg : decode cc g.pc = .ok (.invokespecial index, 3)) (hf : cells + mc ≤ R.cells ∧ slots + ms ≤ R.slots) :
    va_Run p l e R s m args below meth c H locs cells slots mc ms g rest (Qc (Value.ref b :: As).toArray) (free) := by
  obtain ⟨hx, hb, hml, ho, ht⟩ := S
  obtain ⟨⟨w1, w2, w3, w4, w5, w6⟩, hyx, ⟨hno, hd⟩, -⟩ := hy
  have hK : Back l R p e below s args y 3 8 (PreOf R mc ms Pc) (PostOf Qc mc ms free) := back_of (bytes := bytes) (maxL := maxL) (ret := ret) hM hp.1 hrc hrs hR.1 hR.2 (pay_in ht hG) hcw (fun a' U hW => word_at hW (allW_good _ w5) (ht _ w5))
  obtain ⟨-, ⟨cellB, hcB, hoB, hclB⟩, hPc⟩ := hp
  obtain ⟨kB, hkB, -⟩ := Vm.findClass_spec hclB
  intro T hT X
  obtain ⟨v, vm₁, ⟨U', l2, c2, s2⟩, hW₁, X', ⟨g', mk, t, L, e1, e2, hq, h1, hL, h2, h3⟩, st⟩ := cu_call X hx (x := x) (y := y) (bytes := bytes) (maxL := maxL) (ret := ret) ho (ht _ hlink) (ht _ w1) (ht _ w2) (w3.imp id (fun h => ht _ h)) (ht _ w4) (ht _ w6) hno hyx hK (by rw [hT]; exact hcB) hoB hkB hg (hsize.trans hml.symm) (argsL := As) (rest := rest) (fun sig h => hn.trans (by rw [h] at hd; exact (Option.some.inj hd).symm)) hstack hW (by rw [hb]; exact hdg)
    (fun vm₁ hW₁ => ⟨hf.1, hf.2, hPc (T.setVm vm₁) hT hW₁⟩)
  dsimp only [Pt.U, Pt.locs, Pt.cells, Pt.slots] at X' e1 e2 h1 h2 h3 st
  subst h1; subst h2; subst h3
  exact ⟨v, (T.setVm vm₁).calling g' mk (Value.ref b :: As).toArray, t, U', L, hT, X', hL, e1, e2, hq, st⟩
end R12
section R13
variable {p : Program} {l : Launch} {e : Env} {R : Room} {s : State} {m : MethodId} {args : Array Value} {below : List Frame} {meth : Method} {c : Code} {H : Heap} {locs : List Loc} {cells slots : Nat} {Q : State → Prop}
variable {cc : ByteArray} {nL : Nat} {ret : Option FieldType} {own : String} {pc : Nat} {ls : Array Slot} {rest : List Value} {g : GG} {A : Nat → Prop} {ws ws' : va_W}
theorem wr_callXi (hC : Cx p s m args meth c cc nL ret own) {C : String} {b : Nat} {x y : MethodName} {bytes : ByteArray} {maxL : Nat} {k mc ms : Nat} {ix n : Nat} {As st0 : List Value} {post : Int32 → va_W → Prop} (hM : MwrI l g y bytes maxL k mc ms (.ref b :: As) H.size ws post) (hy : MOX own x y bytes maxL (some .int) n) (hlink : Cond.methodLink own ix x ∈ allW) (hR : RR k R) (hcs : cells + mc ≤ R.cells ∧ slots + ms ≤ R.slots) (hK : KW g A s) (hS : St g A s.heap H locs ws) (hrecv : ∃ cell : Cell, H[b]? = some cell ∧ cell.vm.isStatics = false ∧ s.vm.findClass C = some cell.cls) (hn : As.length = n) (hsz : ls.size = nL) (hst : st0 = As.reverse ++ .ref b :: rest) (hW : (rest.map fun v => v.category).sum ≤ 8) (hdg : decode cc pc = .ok (.invokespecial ix, 3)) (kk : ∀ (v : Int32) (w : va_W) (H1 : Heap) (locs1 : List Loc), post v w → St g A s.heap H1 locs1 w → W p l e R s m args below meth c H1 locs1 (cells + mc) (slots + ms) Q (F0 m (pc + 3) ls (.int v :: rest))) : W p l e R s m args below meth c H locs cells slots Q (F0 m (pc) ls (st0)) := by
  subst hst
  have hmx := hy.2.2.2
  have hG : GoodIn allW (wsA y bytes maxL (some .int)) := by
    intro w hw
    simp only [wsA, List.mem_cons] at hw
    rcases hw with rfl | hw
    · exact ⟨hy.1.2.2.2.2.2, allW_good _ hy.1.2.2.2.2.2⟩
    · exact ⟨hw, allW_good _ hw⟩
  refine va_calli (A0 := A) (H0 := s.heap) (post := post) (B := wr_B g H.size ws) (A1 := va_A ws H.size) (cu_run (C := C) (x := x) (y := y) (cc := cc) (nL := nL) (own := own) (b := b) (As := As) (rest := rest) (index := ix) (n := n) (g := F0 m pc ls (As.reverse ++ .ref b :: rest)) ⟨hC.1, hC.2.1, hC.2.2.2.1, hC.2.2.2.2.1, hC.2.2.2.2.2.1⟩ hM hG (List.mem_cons_self) rfl rfl ⟨hR.1, by have h2 := hR.2; show 8 + (maxL + 11) + 40 * k ≤ _; omega⟩ hlink hy ⟨wr_blind, hrecv, fun U hU hW => ⟨rfl, hK.1.warm hW, by rw [hU], by rw [hU]; exact ((hS.env hK).narrow (hS.in hK)).moved hW.alike, by rw [hU]; exact hS.1, hS.2.1.weaken (fun _ _ _ _ => trivial)⟩⟩ rfl hn hsz rfl (lv_room hW) hdg hcs) hS.2.2 (fun q _ h => hS.in hK q h) (hS.in hK) (fun v w t H1 locs1 ht hvm hpost hB hz1 hk1 hS2 => ?_)
  subst ht
  exact kk v w _ locs1 hpost ⟨hB.1, hB.2.weaken (fun _ _ _ h => hS.in hK _ h), hS2⟩
def MOW (C : String) (x y : MethodName) (bytes : ByteArray) (maxL : Nat) (rt : Option FieldType) (n : Nat) : Prop :=
  (Cond.sameMethod x.cls y.cls x.name x.desc ∈ allW ∧ Cond.selects C x y ∈ allW ∧ Cond.instanceMethod y ∈ allW ∧ Cond.initialized y.cls ∈ allW ∧ Cond.code y bytes maxL rt ∈ allW) ∧ y = ⟨y.cls, x.name, x.desc⟩ ∧ (y.cls ≠ "java/lang/invoke/MethodHandle" ∧ y.cls ≠ "java/lang/invoke/VarHandle" ∧ (parseMethodDescriptor x.desc).map (fun d => d.parameters.length) = some n) ∧ maxL ≤ 21
theorem wr_callWi (hC : Cx p s m args meth c cc nL ret own) {C : String} {b : Nat} {x y : MethodName} {bytes : ByteArray} {maxL : Nat} {k mc ms : Nat} {ix n : Nat} {As st0 : List Value} {post : Int32 → va_W → Prop} (hM : MwrI l g y bytes maxL k mc ms (.ref b :: As) H.size ws post) (hy : MOW C x y bytes maxL (some .int) n) (hlink : Cond.methodLink own ix x ∈ allW) (hR : RR k R) (hcs : cells + mc ≤ R.cells ∧ slots + ms ≤ R.slots) (hK : KW g A s) (hS : St g A s.heap H locs ws) (hrecv : ∃ cell : Cell, H[b]? = some cell ∧ cell.vm.isStatics = false ∧ s.vm.findClass C = some cell.cls) (hn : As.length = n) (hsz : ls.size = nL) (hst : st0 = As.reverse ++ .ref b :: rest) (hW : (rest.map fun v => v.category).sum ≤ 8) (hdg : decode cc pc = .ok (.invokevirtual ix, 3)) (kk : ∀ (v : Int32) (w : va_W) (H1 : Heap) (locs1 : List Loc), post v w → St g A s.heap H1 locs1 w → W p l e R s m args below meth c H1 locs1 (cells + mc) (slots + ms) Q (F0 m (pc + 3) ls (.int v :: rest))) : W p l e R s m args below meth c H locs cells slots Q (F0 m (pc) ls (st0)) := by
  subst hst
  have hmx := hy.2.2.2
  have hG : GoodIn allW (va_wsU own ix C y.cls x y (wsA y bytes maxL (some .int))) := by
    intro w hw
    simp only [va_wsU, wsA, List.cons_append, List.nil_append, List.mem_cons] at hw
    rcases hw with rfl | rfl | rfl | rfl | rfl | rfl | hw
    · exact ⟨hlink, allW_good _ hlink⟩
    · exact ⟨hy.1.1, allW_good _ hy.1.1⟩
    · exact ⟨hy.1.2.1, allW_good _ hy.1.2.1⟩
    · exact ⟨hy.1.2.2.1, allW_good _ hy.1.2.2.1⟩
    · exact ⟨hy.1.2.2.2.1, allW_good _ hy.1.2.2.2.1⟩
    · exact ⟨hy.1.2.2.2.2, allW_good _ hy.1.2.2.2.2⟩
    · exact ⟨hw, allW_good _ hw⟩
  refine va_calli (A0 := A) (H0 := s.heap) (post := post) (B := wr_B g H.size ws) (A1 := va_A ws H.size) (va_runU (C := C) (owner := y.cls) (x := x) (y := y) (cc := cc) (nL := nL) (Ts := allW) (own := own) (b := b) (As := As) (rest := rest) (index := ix) (n := n) (g := F0 m pc ls (As.reverse ++ .ref b :: rest)) ⟨hC.1, hC.2.1, hC.2.2.2.1, hC.2.2.2.2.1, hC.2.2.2.2.2.1⟩ hM (va_cwU n hC.2.2.2.2.2.1 hG rfl rfl rfl hy.2.1 hy.2.2.1 ⟨hR.1, by have h2 := hR.2; show 8 + (maxL + 11) + 40 * k ≤ _; omega⟩) ⟨wr_blind, hrecv, fun U hU hW => ⟨rfl, hK.1.warm hW, by rw [hU], by rw [hU]; exact ((hS.env hK).narrow (hS.in hK)).moved hW.alike, by rw [hU]; exact hS.1, hS.2.1.weaken (fun _ _ _ _ => trivial)⟩⟩ rfl hn hsz rfl (lv_room hW) hdg hcs) hS.2.2 (fun q _ h => hS.in hK q h) (hS.in hK) (fun v w t H1 locs1 ht hvm hpost hB hz1 hk1 hS2 => ?_)
  subst ht
  exact kk v w _ locs1 hpost ⟨hB.1, hB.2.weaken (fun _ _ _ h => hS.in hK _ h), hS2⟩
theorem li_astore_nN (hC : Cx p s m args meth c cc nL ret own) {lv lv' : List (Nat × Value)} (hl : lv_has ls nL lv) {k : Fin 4} (hn : (k : Nat) < nL) (hl2 : ((k : Nat), Value.null) :: lv.filter (fun q => !(q.1 == (k : Nat)) && !(q.1 + 1 == (k : Nat) && q.2.category == 2)) = lv') (hdg : decode cc pc = .ok (.astore_n k, 1)) (kk : ∀ ls' : Array Slot, lv_has ls' nL lv' → W p l e R s m args below meth c H locs cells slots Q (F0 m (pc + 1) ls' (rest))) : W p l e R s m args below meth c H locs cells slots Q (F0 m (pc) ls (Value.null :: rest)) := lv_astore_nN hC.1 hC.2.1 hdg rfl hl hn hl2 kk
theorem li_aloadN (hC : Cx p s m args meth c cc nL ret own) {i : Nat} {lv : List (Nat × Value)} (hl : lv_has ls nL lv) (j : Nat) (hj : lv[j]? = some (i, .null)) (hdg : decode cc pc = .ok (.aload i, 2)) (kk : W p l e R s m args below meth c H locs cells slots Q (F0 m (pc + 2) ls (.null :: rest))) : W p l e R s m args below meth c H locs cells slots Q (F0 m (pc) ls (rest)) := lv_aloadN hC.1 hC.2.1 hdg (lv_at hl j hj) kk
theorem li_astoreN (hC : Cx p s m args meth c cc nL ret own) {lv lv' : List (Nat × Value)} (hl : lv_has ls nL lv) {i : Nat} (hn : i < nL) (hl2 : (i, Value.null) :: lv.filter (fun q => !(q.1 == i) && !(q.1 + 1 == i && q.2.category == 2)) = lv') (hdg : decode cc pc = .ok (.astore i, 2)) (kk : ∀ ls' : Array Slot, lv_has ls' nL lv' → W p l e R s m args below meth c H locs cells slots Q (F0 m (pc + 2) ls' (rest))) : W p l e R s m args below meth c H locs cells slots Q (F0 m (pc) ls (Value.null :: rest)) := lv_astoreN hC.1 hC.2.1 hdg hl hn hl2 kk
end R13
theorem mlx_X0_25 : Cond.methodLink RX0 25 ⟨RX3, "tells", "(I)I"⟩ ∈ allW := (memA 1112 (by decide +kernel) rfl)
theorem mlx_X0_29 : Cond.methodLink RX0 29 ⟨RX0, "lies", "(I)I"⟩ ∈ allW := (memA 1115 (by decide +kernel) rfl)
theorem mlx_X2_21 : Cond.methodLink RX2 21 ⟨RX1, "lies", "(I)I"⟩ ∈ allW := (memA 1074 (by decide +kernel) rfl)
theorem mlx_X10_19 : Cond.methodLink RX10 19 ⟨RX9, "reads", "(I)I"⟩ ∈ allW := (memA 1099 (by decide +kernel) rfl)
theorem mx8_X3_X4_lies : MOX RX3 ⟨RX4, "lies", "(I)I"⟩ yX4_lies cX4_lies 2 (some .int) 1 := ⟨⟨sm_X4_lies, su_X3, Or.inl rfl, mi_X4_lies, ini_X4, mc_X4_lies⟩, rfl, ⟨by decide +kernel, by decide +kernel⟩, by decide⟩
theorem mx8_X1_X4_reads : MOX RX1 ⟨RX4, "reads", "(I)I"⟩ yX4_reads cX4_reads 2 (some .int) 1 := ⟨⟨sm_X4_reads, su_X1, Or.inl rfl, mi_X4_reads, ini_X4, mc_X4_reads⟩, rfl, ⟨by decide +kernel, by decide +kernel⟩, by decide⟩
theorem mx8_X9_X4_tells : MOX RX9 ⟨RX4, "tells", "(I)I"⟩ yX4_tells cX4_tells 2 (some .int) 1 := ⟨⟨sm_X4_tells, su_X9, Or.inl rfl, mi_X4_tells, ini_X4, mc_X4_tells⟩, rfl, ⟨by decide +kernel, by decide +kernel⟩, by decide⟩
theorem mx8_X0_X4_tells : MOX RX0 ⟨RX3, "tells", "(I)I"⟩ yX4_tells cX4_tells 2 (some .int) 1 := ⟨⟨sm_X3_tells, su_X0, Or.inr su_X3, mi_X4_tells, ini_X4, mc_X4_tells⟩, rfl, ⟨by decide +kernel, by decide +kernel⟩, by decide⟩
theorem mx8_X2_X4_lies : MOX RX2 ⟨RX1, "lies", "(I)I"⟩ yX4_lies cX4_lies 2 (some .int) 1 := ⟨⟨sm_X1_lies, su_X2, Or.inr su_X1, mi_X4_lies, ini_X4, mc_X4_lies⟩, rfl, ⟨by decide +kernel, by decide +kernel⟩, by decide⟩
theorem mx8_X10_X4_reads : MOX RX10 ⟨RX9, "reads", "(I)I"⟩ yX4_reads cX4_reads 2 (some .int) 1 := ⟨⟨sm_X9_reads, su_X10, Or.inr su_X9, mi_X4_reads, ini_X4, mc_X4_reads⟩, rfl, ⟨by decide +kernel, by decide +kernel⟩, by decide⟩
theorem mw_X0_lies : MOW RX0 ⟨RX0, "lies", "(I)I"⟩ yX3_lies cX3_lies 2 (some .int) 1 := ⟨⟨sm_X0_lies, se_X0_X0_lies, mi_X3_lies, ini_X3, mc_X3_lies⟩, rfl, ⟨by decide +kernel, by decide +kernel, by decide +kernel⟩, by decide⟩
