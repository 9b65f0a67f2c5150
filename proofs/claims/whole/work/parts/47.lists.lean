section R10
variable {p : Program} {l : Launch} {e : Env} {R : Room} {s : State} {m : MethodId} {args : Array Value} {below : List Frame} {meth : Method} {c : Code} {H : Heap} {locs : List Loc} {cells slots : Nat} {Q : State → Prop}
variable {cc : ByteArray} {nL : Nat} {ret : Option FieldType} {own : String} {pc : Nat} {ls : Array Slot} {rest : List Value} {g : GG} {A : Nat → Prop} {ws ws' : va_W}
abbrev obA (g : GG) (n : Nat) (f : Nat → Option Nat) : va_E := .inl (g.2.1 2, n, .inr (.inr (.inr (.inr f))))
theorem li_aldN (hC : Cx p s m args meth c cc nL ret own) (hK : KU g s) {a n q : Nat} {f : Nat → Option Nat} (hP : va_P g.1 vwCl ws H) (ha : ws[q]? = some (a, obA g n f)) {z : Int} (hz : 0 ≤ z ∧ z < n) (hn : n < 2147483648) (hdg : decode cc pc = .ok (.aaload, 1)) (kk : W p l e R s m args below meth c H locs cells slots Q (F0 m (pc + 1) ls (va_rf (f z.toNat) :: rest))) : W p l e R s m args below meth c H locs cells slots Q (F0 m pc ls (.int (iI z) :: .ref a :: rest)) :=
  va_aldq hC.1 hC.2.1 hK.1 hP q 2 ha rfl (iI_in hz hn) hdg (by rw [iI_clamp hz.1 (by omega)]; exact kk)
theorem li_aastN (hC : Cx p s m args meth c cc nL ret own) (hK : KW g A s) (hS : St g A s.heap H locs ws) (q : Nat) {a n x qk : Nat} {kd : Int} {fs : List Value} {f : Nat → Option Nat} (he : ws[q]? = some (a, obA g n f)) (hx : ws[qk]? = some (x, .inr (kci kd, fs))) (hkd : 0 ≤ kd ∧ kd ≤ 6) {z : Int} (hz : 0 ≤ z ∧ z < n) (hn : n < 2147483648) (hw : ws.set q (a, obA g n (va_up f z.toNat (some x))) = ws') (hdg : decode cc pc = .ok (.aastore, 1)) (kk : ∀ (H1 : Heap) (locs1 : List Loc), St g A s.heap H1 locs1 ws' → W p l e R s m args below meth c H1 locs1 cells slots Q (F0 m (pc + 1) ls rest)) : W p l e R s m args below meth c H locs cells slots Q (F0 m pc ls (.ref x :: .int (iI z) :: .ref a :: rest)) := by
  subst hw
  rcases kd_cases hkd with rfl | rfl | rfl | rfl | rfl | rfl | rfl
  · exact va_astqO hC.1 hC.2.1 hK.1.1 hS.1 hS.2.1 hS.2.2 q 2 qk 5 he rfl (hK.1.2.1.2.2.2.2.2 ("NamesNoTouch$Name", "java/lang/Object") (List.mem_of_getElem? (i := 15) rfl)) hx rfl (iI_in hz hn) hdg (fun H1 locs1 h1 h2 h3 => kk H1 locs1 (by rw [iI_clamp hz.1 (by omega)] at h1 h2; exact ⟨h1, h2, h3⟩))
  · exact va_astqO hC.1 hC.2.1 hK.1.1 hS.1 hS.2.1 hS.2.2 q 2 qk 4 he rfl (hK.1.2.1.2.2.2.2.2 ("NamesNoTouch$Large", "java/lang/Object") (List.mem_of_getElem? (i := 12) rfl)) hx rfl (iI_in hz hn) hdg (fun H1 locs1 h1 h2 h3 => kk H1 locs1 (by rw [iI_clamp hz.1 (by omega)] at h1 h2; exact ⟨h1, h2, h3⟩))
  · exact va_astqO hC.1 hC.2.1 hK.1.1 hS.1 hS.2.1 hS.2.2 q 2 qk 2 he rfl (hK.1.2.1.2.2.2.2.2 ("NamesNoTouch$Coastal", "java/lang/Object") (List.mem_of_getElem? (i := 10) rfl)) hx rfl (iI_in hz hn) hdg (fun H1 locs1 h1 h2 h3 => kk H1 locs1 (by rw [iI_clamp hz.1 (by omega)] at h1 h2; exact ⟨h1, h2, h3⟩))
  · exact va_astqO hC.1 hC.2.1 hK.1.1 hS.1 hS.2.1 hS.2.2 q 2 qk 10 he rfl (hK.1.2.1.2.2.2.2.2 ("NamesNoTouch$Shy", "java/lang/Object") (List.mem_of_getElem? (i := 13) rfl)) hx rfl (iI_in hz hn) hdg (fun H1 locs1 h1 h2 h3 => kk H1 locs1 (by rw [iI_clamp hz.1 (by omega)] at h1 h2; exact ⟨h1, h2, h3⟩))
  · exact va_astqO hC.1 hC.2.1 hK.1.1 hS.1 hS.2.1 hS.2.2 q 2 qk 1 he rfl (hK.1.2.1.2.2.2.2.2 ("NamesNoTouch$City", "java/lang/Object") (List.mem_of_getElem? (i := 9) rfl)) hx rfl (iI_in hz hn) hdg (fun H1 locs1 h1 h2 h3 => kk H1 locs1 (by rw [iI_clamp hz.1 (by omega)] at h1 h2; exact ⟨h1, h2, h3⟩))
  · exact va_astqO hC.1 hC.2.1 hK.1.1 hS.1 hS.2.1 hS.2.2 q 2 qk 3 he rfl (hK.1.2.1.2.2.2.2.2 ("NamesNoTouch$Harbour", "java/lang/Object") (List.mem_of_getElem? (i := 11) rfl)) hx rfl (iI_in hz hn) hdg (fun H1 locs1 h1 h2 h3 => kk H1 locs1 (by rw [iI_clamp hz.1 (by omega)] at h1 h2; exact ⟨h1, h2, h3⟩))
  · exact va_astqO hC.1 hC.2.1 hK.1.1 hS.1 hS.2.1 hS.2.2 q 2 qk 11 he rfl (hK.1.2.1.2.2.2.2.2 ("NamesNoTouch$Told", "java/lang/Object") (List.mem_of_getElem? (i := 14) rfl)) hx rfl (iI_in hz hn) hdg (fun H1 locs1 h1 h2 h3 => kk H1 locs1 (by rw [iI_clamp hz.1 (by omega)] at h1 h2; exact ⟨h1, h2, h3⟩))
theorem li_aastNull (hC : Cx p s m args meth c cc nL ret own) (hK : KW g A s) (hS : St g A s.heap H locs ws) (q : Nat) {a n : Nat} {f : Nat → Option Nat} (he : ws[q]? = some (a, obA g n f)) {z : Int} (hz : 0 ≤ z ∧ z < n) (hn : n < 2147483648) (hdg : decode cc pc = .ok (.aastore, 1)) (kk : ∀ (H1 : Heap) (locs1 : List Loc), St g A s.heap H1 locs1 (ws.set q (a, obA g n (va_up f z.toNat none))) → W p l e R s m args below meth c H1 locs1 cells slots Q (F0 m (pc + 1) ls rest)) : W p l e R s m args below meth c H locs cells slots Q (F0 m pc ls (.null :: .int (iI z) :: .ref a :: rest)) :=
  va_astqN hC.1 hC.2.1 hK.1.1 hS.1 hS.2.1 hS.2.2 q 2 he rfl (iI_in hz hn) hdg (fun H1 locs1 h1 h2 h3 => kk H1 locs1 (by rw [iI_clamp hz.1 (by omega)] at h1 h2; exact ⟨h1, h2, h3⟩))
theorem li_newq10 (hC : Cx p s m args meth c cc nL ret own) (hK : KW g A s) (hS : St g A s.heap H locs ws) {ix : Nat} (hcl : Cond.classLink own ix "java/lang/Object" ∈ allW) (hcells : cells + 1 ≤ R.cells) (hslots : slots + 10 ≤ R.slots) (hdg : decode cc pc = .ok (.anewarray ix, 3))
    (kk : ∀ (q : Nat) (H1 : Heap), St g A s.heap H1 locs (ws ++ [(q, obA g 10 (fun _ => none))]) → W p l e R s m args below meth c H1 locs (cells + 1) (slots + 10) Q (F0 m (pc + 3) ls (.ref q :: rest))) : W p l e R s m args below meth c H locs cells slots Q (F0 m pc ls (.int (iI 10) :: rest)) := by
  refine va_newq hC.1 hC.2.1 (C := "java/lang/Object") hC.2.2.2.2.1 (hC.2.2.2.2.2.1 _ hcl) hK.1.2.1.2.2.2.2.1 hK.1.1 hS.1 hS.2.1 hS.2.2 hK.2.2 (n := iI 10) (N' := 10) (by decide) (by decide) (by decide) hcells hslots hdg (fun q cA H1 hK1 h1 h2 h3 => ?_)
  obtain ⟨kA, comp, -, -, -, e1⟩ := (hK1.2 3 (cA, .object "java/lang/Object") rfl).2
  obtain ⟨kA2, comp2, -, -, -, e2⟩ := (hK.1.1.2 2 (g.2.1 2, .object "java/lang/Object") rfl).2
  have e : cA = g.2.1 2 := Option.some.inj (e1.symm.trans e2)
  subst e
  exact kk q H1 ⟨h1, h2, h3⟩
end R10
theorem setself {ws : va_W} {i : Nat} {x : Nat × va_E} (h : ws[i]? = some x) : ws.set i x = ws := by
  apply List.ext_getElem?
  intro k
  by_cases e : i = k
  · subst e; rw [List.getElem?_set_self (List.getElem?_eq_some_iff.mp h).1, h]
  · rw [List.getElem?_set_ne e]
theorem li_alenQ {p : Program} {l : Launch} {e : Env} {R : Room} {s : State} {m : MethodId} {args : Array Value} {below : List Frame} {meth : Method} {c : Code} {H : Heap} {locs : List Loc} {cells slots : Nat} {Q : State → Prop} {cc : ByteArray} {nL : Nat} {ret : Option FieldType} {own : String} {pc : Nat} {ls : Array Slot} {rest : List Value} {g : GG} {ws : va_W} (hC : Cx p s m args meth c cc nL ret own) (hK : KU g s) (hP : va_P g.1 vwCl ws H) {q a n : Nat} {f : Nat → Option Nat} (ha : ws[q]? = some (a, obA g n f)) (hdg : decode cc pc = .ok (.arraylength, 1)) (kk : W p l e R s m args below meth c H locs cells slots Q (F0 m (pc + 1) ls (.int (iI (n : Int)) :: rest))) : W p l e R s m args below meth c H locs cells slots Q (F0 m pc ls (.ref a :: rest)) :=
  va_alen (ws := ws) hC.1 hC.2.1 hK.1 hP q 2 ha rfl (by rw [iI_nat]; rfl) hdg kk
theorem wr_startQA {l : Launch} {g : GG} {y : MethodName} {cc : ByteArray} {maxL k mc ms : Nat} {own : String} {av : List Value} {sz : Nat} {ws : va_W} {post : Option Nat → va_W → Prop} {ct : FieldType} (hy : plainName y.cls = true) (ho : y.cls = own) (hav : (lg_sl av).length ≤ maxL)
    (body : ∀ (p : Program) (e : Env) (s : State) (m : MethodId) (args : Array Value) (below : List Frame) (meth : Method) (c : Code) (ls : Array Slot) (Q : State → Prop) (A : Nat → Prop), Cx p s m args meth c cc maxL (some (.array ct)) own → KW g A s → St g A s.heap s.heap [] ws → meth.name = y.name → lv_has ls maxL (lv_args 0 av) → (∀ (v : Option Nat) (pc : Nat) (ls : Array Slot) (H : Heap) (locs : List Loc) (cells slots : Nat) (w : va_W), decode cc pc = .ok (.areturn, 1) → St g A s.heap H locs w → cells ≤ mc → slots ≤ ms → post v w → W p l e (rmC k mc ms) s m args below meth c H locs cells slots Q (F0 m pc ls [va_rf v])) →
      W p l e (rmC k mc ms) s m args below meth c s.heap [] 0 0 Q (F0 m 0 ls [])) : MwrQ l g y cc maxL k mc ms (.array ct) av sz ws post := by
  refine Met.ofW (cc := cc) (maxL := maxL) (ret := some (.array ct)) hy rfl ?_
  intro p e s m args below meth c s₁ B hml hv
  obtain ⟨rfl, hK, rfl, hE, hP, hD⟩ := hv
  have hts := atoms_spec (ws := wsA y cc maxL (some (.array ct))) B.pre
  have hown : s.vm.findClass own = some m.cls := by rw [← ho]; exact findClass_of_methodNamed B.named
  have hnm := (name_of_methodNamed B.named B.method).1
  have hC : Cx p s m av.toArray meth c cc maxL (some (.array ct)) own := ⟨B.exec, B.bytes, B.returns, hml, hown, fun w hw => hts w (List.mem_cons_of_mem _ hw), B.notSynchronized⟩
  rw [lg_entry_eq]
  refine body p e s m _ below meth c _ _ (va_A ws s.heap.size) hC ⟨hK, hE, fun q h => Or.inr h⟩ ⟨hP, hD.self, va_S.rf⟩ hnm (lv_entry av hav) ?_
  intro v pc ls H locs cells slots w hd hS h1 h2 h3
  refine W.widen h1 h2 ?_
  exact W.aret hC.1 hC.2.1 hC.2.2.1 (Or.inr ⟨ct, rfl⟩) (va_rf_or v) (fun t ht _ => ⟨⟨v, w, rfl, h3, ⟨by rw [ht]; exact hS.1, hS.2.1⟩⟩, hS.2.2.F ht⟩) hS.2.2.2.2 hd hC.2.2.2.2.2.2
section R11
variable {p : Program} {l : Launch} {e : Env} {R : Room} {s : State} {m : MethodId} {args : Array Value} {below : List Frame} {meth : Method} {c : Code} {H : Heap} {locs : List Loc} {cells slots : Nat} {Q : State → Prop}
variable {cc : ByteArray} {nL : Nat} {ret : Option FieldType} {own : String} {pc : Nat} {ls : Array Slot} {rest : List Value} {g : GG} {A : Nat → Prop} {ws ws' : va_W}
theorem wr_callVqA (hC : Cx p s m args meth c cc nL ret own) {C : String} {b : Nat} {y : MethodName} {bytes : ByteArray} {maxL : Nat} {k mc ms : Nat} {ix n : Nat} {As st0 : List Value} {rt : FieldType} {post : Option Nat → va_W → Prop} (hM : MwrQ l g y bytes maxL k mc ms rt (.ref b :: As) H.size ws post) (hy : MOK C y bytes maxL (some rt) n) (hlink : Cond.methodLink own ix y ∈ allW) (hR : RR k R) (hcs : cells + mc ≤ R.cells ∧ slots + ms ≤ R.slots) (hK : KW g A s) (hS : St g A s.heap H locs ws) (hrecv : ∃ cell : Cell, H[b]? = some cell ∧ cell.vm.isStatics = false ∧ s.vm.findClass C = some cell.cls) (hn : As.length = n) (hsz : ls.size = nL) (hst : st0 = As.reverse ++ .ref b :: rest) (hW : (rest.map fun v => v.category).sum ≤ 8) (hdg : decode cc pc = .ok (.invokevirtual ix, 3)) (kk : ∀ (v : Option Nat) (w : va_W) (H1 : Heap) (locs1 : List Loc), post v w → St g A s.heap H1 locs1 w → W p l e R s m args below meth c H1 locs1 (cells + mc) (slots + ms) Q (F0 m (pc + 3) ls (va_rf v :: rest))) : W p l e R s m args below meth c H locs cells slots Q (F0 m (pc) ls (st0)) := by
  subst hst
  have hmx := hy.2.2
  have hG : GoodIn allW (wsV own ix C y (wsA y bytes maxL (some rt))) := by
    intro w hw
    simp only [wsV, wsA, List.cons_append, List.nil_append, List.mem_cons] at hw
    rcases hw with rfl | rfl | rfl | rfl | rfl | hw
    · exact ⟨hlink, allW_good _ hlink⟩
    · exact ⟨hy.1.1, allW_good _ hy.1.1⟩
    · exact ⟨hy.1.2.1, allW_good _ hy.1.2.1⟩
    · exact ⟨hy.1.2.2.1, allW_good _ hy.1.2.2.1⟩
    · exact ⟨hy.1.2.2.2, allW_good _ hy.1.2.2.2⟩
    · exact ⟨hw, allW_good _ hw⟩
  refine va_callq (A0 := A) (H0 := s.heap) (post := post) (B := wr_B g H.size ws) (A1 := va_A ws H.size) (va_runV (C := C) (cc := cc) (nL := nL) (Ts := allW) (own := own) (b := b) (As := As) (rest := rest) (index := ix) (n := n) (g := F0 m pc ls (As.reverse ++ .ref b :: rest)) ⟨hC.1, hC.2.1, hC.2.2.2.1, hC.2.2.2.2.1, hC.2.2.2.2.2.1⟩ hM (cwV n hC.2.2.2.2.2.1 hG rfl rfl rfl hy.2.1 ⟨hR.1, by have h2 := hR.2; show 8 + (maxL + 11) + 40 * k ≤ _; omega⟩) ⟨wr_blind, hrecv, fun U hU hW => ⟨rfl, hK.1.warm hW, by rw [hU], by rw [hU]; exact ((hS.env hK).narrow (hS.in hK)).moved hW.alike, by rw [hU]; exact hS.1, hS.2.1.weaken (fun _ _ _ _ => trivial)⟩⟩ rfl hn hsz rfl (lv_room hW) hdg hcs) hS.2.2 (fun q _ h => hS.in hK q h) (hS.in hK) (fun v w t H1 locs1 ht hvm hpost hB hz1 hk1 hS2 => ?_)
  subst ht
  exact kk v w _ locs1 hpost ⟨hB.1, hB.2.weaken (fun _ _ _ h => hS.in hK _ h), hS2⟩
end R11
set_option maxHeartbeats 4000000 in
set_option maxRecDepth 100000 in
theorem c_Jx4a65c_size_8abf5 (l : Launch) (g : GG) {ws : va_W} {i a el : Nat} {m n : Int} (hi : ws[i]? = some (a, .inr (0, [.int (iI m), .ref el, .int (iI n)]))) : MroI l g yJx4a65c_size_8abf5 cJx4a65c_size_8abf5 1 1 [.ref a] (fun H => va_P g.1 vwCl ws H) (iI n) := by
  refine ro_startI (own := RJx4a65c) (by decide) rfl (Nat.le_of_ble_eq_true rfl) ?_
  intro Pg Ev s Mi args below Mt Cd ls Q hC hK hE hP hl hQ
  have hl : lv_has ls 1 [(0, .ref a)] := hl
  refine li_aload_n hC hl 0 rfl dJx4a65c_size_8abf5_0 ?_
  refine li_get hC hK ck_Jx4a65c (hP i _ hi) 2 (by decide) fl_Jx4a65c_48 rfl (v := .int (iI n)) rfl dJx4a65c_size_8abf5_1 ?_
  exact hQ _ _ _ dJx4a65c_size_8abf5_4 rfl
set_option maxHeartbeats 4000000 in
set_option maxRecDepth 100000 in
theorem c_Jx4a65c_elementData_915e3 (l : Launch) (g : GG) {ws : va_W} {i j a el : Nat} {m n : Int} {f : Nat → Option Nat} (hi : ws[i]? = some (a, .inr (0, [.int (iI m), .ref el, .int (iI n)]))) (hj : ws[j]? = some (el, obA g 10 f)) {k : Int} (hk : 0 ≤ k ∧ k < 10) : MroQ l g yJx4a65c_elementData_915e3 cJx4a65c_elementData_915e3 2 1 (.object "java/lang/Object") [.ref a, .int (iI k)] (fun H => va_P g.1 vwCl ws H) (f k.toNat) := by
  refine ro_startQ (own := RJx4a65c) (by decide) rfl (Nat.le_of_ble_eq_true rfl) ?_
  intro Pg Ev s Mi args below Mt Cd ls Q hC hK hE hP hl hQ
  have hl : lv_has ls 2 [(0, .ref a), (1, .int (iI k))] := hl
  refine li_aload_n hC hl 0 rfl dJx4a65c_elementData_915e3_0 ?_
  refine li_get hC hK ck_Jx4a65c (hP i _ hi) 1 (by decide) fl_Jx4a65c_9 rfl (v := .ref el) rfl dJx4a65c_elementData_915e3_1 ?_
  refine li_iload_n hC hl 1 rfl dJx4a65c_elementData_915e3_4 ?_
  refine li_aldN hC hK hP hj hk (by decide) dJx4a65c_elementData_915e3_5 ?_
  exact hQ _ _ _ dJx4a65c_elementData_915e3_6 rfl
set_option maxHeartbeats 4000000 in
set_option maxRecDepth 100000 in
theorem c_J15_checkIndex_7cf53 (l : Launch) (g : GG) {z n : Int} (hz : 0 ≤ z ∧ z < n) (hn : n ≤ 1000) : MroI l g yJ15_checkIndex_7cf53 cJ15_checkIndex_7cf53 2 2 [.int (iI z), .int (iI n)] (fun _ => True) (iI z) := by
  refine ro_startI (own := RJ15) (by decide) rfl (Nat.le_of_ble_eq_true rfl) ?_
  intro Pg Ev s Mi args below Mt Cd ls Q hC hK hE hP hl hQ
  have hl : lv_has ls 2 [(0, .int (iI z)), (1, .int (iI n))] := hl
  refine li_iload_n hC hl 0 rfl dJ15_checkIndex_7cf53_0 ?_
  refine li_iload_n hC hl 1 rfl dJ15_checkIndex_7cf53_1 ?_
  refine li_null hC dJ15_checkIndex_7cf53_2 ?_
  refine ro_callSi hC (c_J3_checkIndex_8e157 l g (v := .null) (Or.inl rfl) hz hn) mk_J3_checkIndex_8e157 ml_J15_105 (rr (by decide)) ⟨Nat.le_of_ble_eq_true rfl, Nat.le_of_ble_eq_true rfl⟩ hK hE trivial rfl hl.1 rfl (Nat.le_of_ble_eq_true rfl) dJ15_checkIndex_7cf53_3 ?_
  exact hQ _ _ _ dJ15_checkIndex_7cf53_6 rfl
set_option maxHeartbeats 4000000 in
set_option maxRecDepth 100000 in
theorem c_Jx4a65c_get_915e3 (l : Launch) (g : GG) {ws : va_W} {i j a el : Nat} {m n : Int} {f : Nat → Option Nat} (hi : ws[i]? = some (a, .inr (0, [.int (iI m), .ref el, .int (iI n)]))) (hj : ws[j]? = some (el, obA g 10 f)) {k : Int} (hk : 0 ≤ k ∧ k < n) (hn : n ≤ 10) : MroQ l g yJx4a65c_get_915e3 cJx4a65c_get_915e3 2 3 (.object "java/lang/Object") [.ref a, .int (iI k)] (fun H => va_P g.1 vwCl ws H) (f k.toNat) := by
  refine ro_startQ (own := RJx4a65c) (by decide) rfl (Nat.le_of_ble_eq_true rfl) ?_
  intro Pg Ev s Mi args below Mt Cd ls Q hC hK hE hP hl hQ
  have hl : lv_has ls 2 [(0, .ref a), (1, .int (iI k))] := hl
  refine li_iload_n hC hl 1 rfl dJx4a65c_get_915e3_0 ?_
  refine li_aload_n hC hl 0 rfl dJx4a65c_get_915e3_1 ?_
  refine li_get hC hK ck_Jx4a65c (hP i _ hi) 2 (by decide) fl_Jx4a65c_48 rfl (v := .int (iI n)) rfl dJx4a65c_get_915e3_2 ?_
  refine ro_callSi hC (c_J15_checkIndex_7cf53 l g hk (by omega)) mk_J15_checkIndex_7cf53 ml_Jx4a65c_118 (rr (by decide)) ⟨Nat.le_of_ble_eq_true rfl, Nat.le_of_ble_eq_true rfl⟩ hK hE trivial rfl hl.1 rfl (Nat.le_of_ble_eq_true rfl) dJx4a65c_get_915e3_5 ?_
  refine li_pop hC rfl dJx4a65c_get_915e3_8 ?_
  refine li_aload_n hC hl 0 rfl dJx4a65c_get_915e3_9 ?_
  refine li_iload_n hC hl 1 rfl dJx4a65c_get_915e3_10 ?_
  refine ro_callVq hC (c_Jx4a65c_elementData_915e3 l g hi hj (k := k) ⟨hk.1, by omega⟩) mk_Jx4a65c_elementData_915e3 ml_Jx4a65c_123 (rr (by decide)) ⟨Nat.le_of_ble_eq_true rfl, Nat.le_of_ble_eq_true rfl⟩ hK hE hP (li_recv hK ck_Jx4a65c (hP i _ hi)) rfl hl.1 rfl (Nat.le_of_ble_eq_true rfl) dJx4a65c_get_915e3_11 ?_
  exact hQ _ _ _ dJx4a65c_get_915e3_14 rfl
theorem li_putS {p : Program} {l : Launch} {e : Env} {R : Room} {s : State} {m : MethodId} {args : Array Value} {below : List Frame} {meth : Method} {c : Code} {H : Heap} {locs : List Loc} {cells slots : Nat} {Q : State → Prop} {cc : ByteArray} {nL : Nat} {ret : Option FieldType} {own : String} {pc : Nat} {ls : Array Slot} {rest : List Value} {g : GG} {A : Nat → Prop} {ws ws' : va_W} (hC : Cx p s m args meth c cc nL ret own) (hK : KW g A s) (hS : St g A s.heap H locs ws) {C : String} {T : u_T} {N ci : Nat} {ty : Nat → FieldType} (hk : COK ci C T N ty) (q : Nat) {a : Nat} {fs : List Value} (he : ws[q]? = some (a, .inr (ci, fs))) (k : Nat) (hkN : k < N) {ix : Nat} {ref : String} (hlink : Cond.fieldLink own ix ref (T k).2.1 (T k).2.2.1 ∈ allW) (hsf : Cond.sameField ref (T k).1 (T k).2.1 (T k).2.2.1 ∈ allW) (hfin : (T k).2.2.2 = false) {v : Value} (hn : narrow (ty k) v = v) (hfit : fits (ty k) v = true) (hlen : k < fs.length)  (hw : ws.set q (a, .inr (ci, fs.set k v)) = ws') (hdg : decode cc pc = .ok (.putfield ix, 3)) (kk : ∀ (H1 : Heap) (locs1 : List Loc), St g A s.heap H1 locs1 ws' → W p l e R s m args below meth c H1 locs1 cells slots Q (F0 m (pc + 3) ls (rest))) : W p l e R s m args below meth c H locs cells slots Q (F0 m (pc) ls (v :: .ref a :: rest)) := va_put (ci := ci) hC.1 hC.2.1 hC.2.2.2.2.2.1 hk.2.1 ty hk.2.2.1 hk.2.2.2 hC.2.2.2.2.1 hK.1.1 hS.1 hS.2.1 hS.2.2 q he hk.1 k hkN (hC.2.2.2.2.2.1 _ hlink) (fun x hx => u_same (hC.2.2.2.2.2.1 _ hsf) x hx) hfin (hk.2.2.1 k hkN) hn hfit hlen hdg (fun H1 locs1 h1 h2 h3 => kk H1 locs1 (by subst hw; exact ⟨h1, h2, h3⟩))
set_option maxHeartbeats 4000000 in
set_option maxRecDepth 100000 in
theorem c_clear0 (l : Launch) (g : GG) {ws : va_W} {i a el : Nat} {m n : Int} (hi : ws[i]? = some (a, .inr (0, [.int (iI m), .ref el, .int (iI n)]))) (hn : n = 0) (sz0 : Nat) : MwrV l g yJx4a65c_clear_da8c8 cJx4a65c_clear_da8c8 4 1 0 0 [.ref a] sz0 ws (fun w => w = ws.set i (a, .inr (0, [.int (iI (m + 1)), .ref el, .int (iI 0)]))) := by
  refine wr_startV (own := RJx4a65c) (by decide) rfl (Nat.le_of_ble_eq_true rfl) ?_
  intro Pg Ev s Mi args below Mt Cd ls Q Aw hC hK hS hnm hl hQ
  have hl : lv_has ls 4 [(0, .ref a)] := hl
  refine li_aload_n hC hl 0 rfl dJx4a65c_clear_da8c8_0 ?_
  refine li_dup hC rfl dJx4a65c_clear_da8c8_1 ?_
  refine li_getS hC hK.1 ck_Jx4a65c (hS.1 i _ hi) 0 (by decide) fl_Jx4a65c_63 sf_Jx4a65c_modCount (v := .int (iI m)) rfl dJx4a65c_clear_da8c8_2 ?_
  refine li_iconst hC dJx4a65c_clear_da8c8_5 ?_
  refine li_iadd hC dJx4a65c_clear_da8c8_6 ?_
  refine li_putS hC hK hS ck_Jx4a65c i hi 0 (by decide) fl_Jx4a65c_63 sf_Jx4a65c_modCount rfl (v := .int (iI (m + 1))) rfl rfl (Nat.le_of_ble_eq_true rfl) rfl dJx4a65c_clear_da8c8_7 (fun H locs hS => ?_)
  have hl1 := (List.getElem?_eq_some_iff.mp hi).1
  have hS : St g Aw s.heap H locs (ws.set i (a, .inr (0, [.int (iI (m + 1)), .ref el, .int (iI n)]))) := hS
  have hi1 : (ws.set i (a, .inr (0, [.int (iI (m + 1)), .ref el, .int (iI n)])))[i]? = some (a, .inr (0, [.int (iI (m + 1)), .ref el, .int (iI n)])) := List.getElem?_set_self hl1
  refine li_aload_n hC hl 0 rfl dJx4a65c_clear_da8c8_10 ?_
  refine li_get hC hK.1 ck_Jx4a65c (hS.1 i _ hi1) 1 (by decide) fl_Jx4a65c_9 rfl (v := .ref el) rfl dJx4a65c_clear_da8c8_11 ?_
  refine li_astore_n hC (lv' := [(1, .ref el), (0, .ref a)]) hl (by decide) rfl dJx4a65c_clear_da8c8_14 (fun ls hl => ?_)
  refine li_aload_n hC hl 1 rfl dJx4a65c_clear_da8c8_15 ?_
  refine li_get hC hK.1 ck_Jx4a65c (hS.1 i _ hi1) 2 (by decide) fl_Jx4a65c_48 rfl (v := .int (iI n)) rfl dJx4a65c_clear_da8c8_16 ?_
  refine li_istore_n hC (lv' := [(2, .int (iI n)), (1, .ref el), (0, .ref a)]) hl (by decide) rfl dJx4a65c_clear_da8c8_19 (fun ls hl => ?_)
  refine li_aload_n hC hl 2 rfl dJx4a65c_clear_da8c8_20 ?_
  refine li_iconst hC dJx4a65c_clear_da8c8_21 ?_
  refine li_dup_x1 hC rfl rfl dJx4a65c_clear_da8c8_22 ?_
  refine li_put hC hK hS ck_Jx4a65c i hi1 2 (by decide) fl_Jx4a65c_48 rfl rfl (v := .int (iI 0)) rfl rfl (Nat.le_of_ble_eq_true rfl) (by rw [List.set_set]) dJx4a65c_clear_da8c8_23 (fun H locs hS => ?_)
  have hS : St g Aw s.heap H locs (ws.set i (a, .inr (0, [.int (iI (m + 1)), .ref el, .int (iI 0)]))) := hS
  refine li_istore_n hC (lv' := [(3, .int (iI 0)), (2, .int (iI n)), (1, .ref el), (0, .ref a)]) hl (by decide) rfl dJx4a65c_clear_da8c8_26 (fun ls hl => ?_)
  refine li_iload_n hC hl 0 rfl dJx4a65c_clear_da8c8_27 ?_
  refine li_iload_n hC hl 1 rfl dJx4a65c_clear_da8c8_28 ?_
  refine li_icmp_ge (tgt := 42) hC (by decide) (rg (by omega) (by omega)) (rg (by omega) (by omega)) dJx4a65c_clear_da8c8_29 (fun c1 => ?_) (fun c1 => absurd c1 (by omega))
  exact hQ _ _ _ _ _ _ _ dJx4a65c_clear_da8c8_42 hS (by omega) (by omega) rfl
set_option maxHeartbeats 4000000 in
set_option maxRecDepth 100000 in
theorem c_clearA (l : Launch) (g : GG) {ws : va_W} {i j a el : Nat} {m n : Int} {f : Nat → Option Nat} (hi : ws[i]? = some (a, .inr (0, [.int (iI m), .ref el, .int (iI n)]))) (hj : ws[j]? = some (el, obA g 10 f)) (hij : i ≠ j) (hn : 0 ≤ n ∧ n ≤ 10) (sz0 : Nat) : MwrV l g yJx4a65c_clear_da8c8 cJx4a65c_clear_da8c8 4 1 0 0 [.ref a] sz0 ws (fun w => ∃ q : Nat → Option Nat, w = (ws.set i (a, .inr (0, [.int (iI (m + 1)), .ref el, .int (iI 0)]))).set j (el, obA g 10 q)) := by
  refine wr_startV (own := RJx4a65c) (by decide) rfl (Nat.le_of_ble_eq_true rfl) ?_
  intro Pg Ev s Mi args below Mt Cd ls Q Aw hC hK hS hnm hl hQ
  have hl : lv_has ls 4 [(0, .ref a)] := hl
  refine li_aload_n hC hl 0 rfl dJx4a65c_clear_da8c8_0 ?_
  refine li_dup hC rfl dJx4a65c_clear_da8c8_1 ?_
  refine li_getS hC hK.1 ck_Jx4a65c (hS.1 i _ hi) 0 (by decide) fl_Jx4a65c_63 sf_Jx4a65c_modCount (v := .int (iI m)) rfl dJx4a65c_clear_da8c8_2 ?_
  refine li_iconst hC dJx4a65c_clear_da8c8_5 ?_
  refine li_iadd hC dJx4a65c_clear_da8c8_6 ?_
  refine li_putS hC hK hS ck_Jx4a65c i hi 0 (by decide) fl_Jx4a65c_63 sf_Jx4a65c_modCount rfl (v := .int (iI (m + 1))) rfl rfl (Nat.le_of_ble_eq_true rfl) rfl dJx4a65c_clear_da8c8_7 (fun H locs hS => ?_)
  have hl1 := (List.getElem?_eq_some_iff.mp hi).1
  have hS : St g Aw s.heap H locs (ws.set i (a, .inr (0, [.int (iI (m + 1)), .ref el, .int (iI n)]))) := hS
  have hi1 : (ws.set i (a, .inr (0, [.int (iI (m + 1)), .ref el, .int (iI n)])))[i]? = some (a, .inr (0, [.int (iI (m + 1)), .ref el, .int (iI n)])) := List.getElem?_set_self hl1
  refine li_aload_n hC hl 0 rfl dJx4a65c_clear_da8c8_10 ?_
  refine li_get hC hK.1 ck_Jx4a65c (hS.1 i _ hi1) 1 (by decide) fl_Jx4a65c_9 rfl (v := .ref el) rfl dJx4a65c_clear_da8c8_11 ?_
  refine li_astore_n hC (lv' := [(1, .ref el), (0, .ref a)]) hl (by decide) rfl dJx4a65c_clear_da8c8_14 (fun ls hl => ?_)
  refine li_aload_n hC hl 1 rfl dJx4a65c_clear_da8c8_15 ?_
  refine li_get hC hK.1 ck_Jx4a65c (hS.1 i _ hi1) 2 (by decide) fl_Jx4a65c_48 rfl (v := .int (iI n)) rfl dJx4a65c_clear_da8c8_16 ?_
  refine li_istore_n hC (lv' := [(2, .int (iI n)), (1, .ref el), (0, .ref a)]) hl (by decide) rfl dJx4a65c_clear_da8c8_19 (fun ls hl => ?_)
  refine li_aload_n hC hl 2 rfl dJx4a65c_clear_da8c8_20 ?_
  refine li_iconst hC dJx4a65c_clear_da8c8_21 ?_
  refine li_dup_x1 hC rfl rfl dJx4a65c_clear_da8c8_22 ?_
  refine li_put hC hK hS ck_Jx4a65c i hi1 2 (by decide) fl_Jx4a65c_48 rfl rfl (v := .int (iI 0)) rfl rfl (Nat.le_of_ble_eq_true rfl) (by rw [List.set_set]) dJx4a65c_clear_da8c8_23 (fun H locs hS => ?_)
  have hS : St g Aw s.heap H locs (ws.set i (a, .inr (0, [.int (iI (m + 1)), .ref el, .int (iI 0)]))) := hS
  refine li_istore_n hC (lv' := [(3, .int (iI 0)), (2, .int (iI n)), (1, .ref el), (0, .ref a)]) hl (by decide) rfl dJx4a65c_clear_da8c8_26 (fun ls hl => ?_)
  have L : ∀ (fuel : Nat) (k : Int) (q : Nat → Option Nat) (ls : Array Slot) (H : Heap) (locs : List Loc), St g Aw s.heap H locs ((ws.set i (a, .inr (0, [.int (iI (m + 1)), .ref el, .int (iI 0)]))).set j (el, obA g 10 q)) → lv_has ls 4 [(3, .int (iI k)), (2, .int (iI n)), (1, .ref el), (0, .ref a)] → (0 ≤ k ∧ k ≤ n) → (n - k).toNat < fuel → W Pg l Ev (rmC 1 0 0) s Mi args below Mt Cd H locs 0 0 Q (F0 Mi 27 ls []) := by
    intro fuel
    induction fuel with
    | zero => intro k q ls H locs hS hl hk hm; exact absurd hm (Nat.not_lt_zero _)
    | succ fuel ih =>
      intro k q ls H locs hS hl hk hm
      have hl2 := (List.getElem?_eq_some_iff.mp hj).1
      have kj : ((ws.set i (a, .inr (0, [.int (iI (m + 1)), .ref el, .int (iI 0)]))).set j (el, obA g 10 q))[j]? = some (el, obA g 10 q) := List.getElem?_set_self (by rw [List.length_set]; exact hl2)
      refine li_iload_n hC hl 0 rfl dJx4a65c_clear_da8c8_27 ?_
      refine li_iload_n hC hl 1 rfl dJx4a65c_clear_da8c8_28 ?_
      refine li_icmp_ge (tgt := 42) hC (by decide) (rg (by omega) (by omega)) (rg (by omega) (by omega)) dJx4a65c_clear_da8c8_29 (fun c1 => ?_) (fun c1 => ?_)
      · exact hQ _ _ _ _ _ _ _ dJx4a65c_clear_da8c8_42 hS (by omega) (by omega) ⟨q, rfl⟩
      · refine li_aload_n hC hl 2 rfl dJx4a65c_clear_da8c8_32 ?_
        refine li_iload_n hC hl 0 rfl dJx4a65c_clear_da8c8_33 ?_
        refine li_null hC dJx4a65c_clear_da8c8_34 ?_
        refine li_aastNull hC hK hS j kj (z := k) (by omega) (by decide) dJx4a65c_clear_da8c8_35 (fun H locs hS => ?_)
        refine li_iinc hC (lv' := [(3, .int (iI (k + 1))), (2, .int (iI n)), (1, .ref el), (0, .ref a)]) hl 0 rfl (by decide) rfl dJx4a65c_clear_da8c8_36 (fun ls hl => ?_)
        refine li_goto (tgt := 27) hC (by decide) dJx4a65c_clear_da8c8_39 ?_
        exact ih (k + 1) _ ls _ _ (by rw [List.set_set] at hS; exact hS) hl (by omega) (by omega)
  have e0 : (ws.set i (a, .inr (0, [.int (iI (m + 1)), .ref el, .int (iI 0)]))).set j (el, obA g 10 f) = ws.set i (a, .inr (0, [.int (iI (m + 1)), .ref el, .int (iI 0)])) := by
    apply List.ext_getElem?
    intro k
    by_cases e : j = k
    · subst e; rw [List.getElem?_set_self (by rw [List.length_set]; exact (List.getElem?_eq_some_iff.mp hj).1), List.getElem?_set_ne hij, hj]
    · rw [List.getElem?_set_ne e]
  exact L ((n - 0).toNat + 1) 0 f ls _ _ (by rw [e0]; exact hS) hl (by omega) (by omega)
set_option maxHeartbeats 4000000 in
set_option maxRecDepth 100000 in
theorem c_addInA (l : Launch) (g : GG) {ws : va_W} {i j a el x qk : Nat} {m n kd : Int} {f : Nat → Option Nat} {fs : List Value} (hi : ws[i]? = some (a, .inr (0, [.int (iI m), .ref el, .int (iI n)]))) (hj : ws[j]? = some (el, obA g 10 f)) (hx : ws[qk]? = some (x, .inr (kci kd, fs))) (hkd : 0 ≤ kd ∧ kd ≤ 6) (hij : i ≠ j) (hn : 0 ≤ n ∧ n < 10) (sz0 : Nat) : MwrV l g yJx4a65c_add_72be8 cJx4a65c_add_72be8 4 1 0 0 [.ref a, .ref x, .ref el, .int (iI n)] sz0 ws (fun w => w = (ws.set j (el, obA g 10 (va_up f n.toNat (some x)))).set i (a, .inr (0, [.int (iI m), .ref el, .int (iI (n + 1))]))) := by
  refine wr_startV (own := RJx4a65c) (by decide) rfl (Nat.le_of_ble_eq_true rfl) ?_
  intro Pg Ev s Mi args below Mt Cd ls Q Aw hC hK hS hnm hl hQ
  have hl : lv_has ls 4 [(0, .ref a), (1, .ref x), (2, .ref el), (3, .int (iI n))] := hl
  refine li_iload_n hC hl 3 rfl dJx4a65c_add_72be8_0 ?_
  refine li_aload_n hC hl 2 rfl dJx4a65c_add_72be8_1 ?_
  refine li_alenQ hC hK.1 hS.1 hj dJx4a65c_add_72be8_2 ?_
  refine li_icmp_ne (tgt := 11) hC (by decide) (rg (by omega) (by omega)) (rg (by decide) (by decide)) dJx4a65c_add_72be8_3 (fun c1 => ?_) (fun c1 => absurd c1 (by omega))
  refine li_aload_n hC hl 2 rfl dJx4a65c_add_72be8_11 ?_
  refine li_iload_n hC hl 3 rfl dJx4a65c_add_72be8_12 ?_
  refine li_aload_n hC hl 1 rfl dJx4a65c_add_72be8_13 ?_
  refine li_aastN hC hK hS j hj hx hkd (z := n) ⟨by omega, by omega⟩ (by decide) rfl dJx4a65c_add_72be8_14 (fun H locs hS => ?_)
  have hi2 : (ws.set j (el, obA g 10 (va_up f n.toNat (some x))))[i]? = some (a, .inr (0, [.int (iI m), .ref el, .int (iI n)])) := by rw [List.getElem?_set_ne (Ne.symm hij)]; exact hi
  refine li_aload_n hC hl 0 rfl dJx4a65c_add_72be8_15 ?_
  refine li_iload_n hC hl 3 rfl dJx4a65c_add_72be8_16 ?_
  refine li_iconst hC dJx4a65c_add_72be8_17 ?_
  refine li_iadd hC dJx4a65c_add_72be8_18 ?_
  refine li_put hC hK hS ck_Jx4a65c i hi2 2 (by decide) fl_Jx4a65c_48 rfl rfl (v := .int (iI (n + 1))) rfl rfl (Nat.le_of_ble_eq_true rfl) rfl dJx4a65c_add_72be8_19 (fun H locs hS => ?_)
  exact hQ _ _ _ _ _ _ _ dJx4a65c_add_72be8_22 hS (by omega) (by omega) rfl
set_option maxHeartbeats 4000000 in
set_option maxRecDepth 100000 in
theorem c_addA (l : Launch) (g : GG) {ws : va_W} {i j a el x qk : Nat} {m n kd : Int} {f : Nat → Option Nat} {fs : List Value} (hi : ws[i]? = some (a, .inr (0, [.int (iI m), .ref el, .int (iI n)]))) (hj : ws[j]? = some (el, obA g 10 f)) (hx : ws[qk]? = some (x, .inr (kci kd, fs))) (hkd : 0 ≤ kd ∧ kd ≤ 6) (hij : i ≠ j) (hik : i ≠ qk) (hn : 0 ≤ n ∧ n < 10) (sz0 : Nat) : MwrZ l g yJx4a65c_add_9ea2d cJx4a65c_add_9ea2d 2 2 0 0 [.ref a, .ref x] sz0 ws (fun v w => v = iI 1 ∧ w = (ws.set j (el, obA g 10 (va_up f n.toNat (some x)))).set i (a, .inr (0, [.int (iI (m + 1)), .ref el, .int (iI (n + 1))]))) := by
  refine wr_startZ (own := RJx4a65c) (by decide) rfl (Nat.le_of_ble_eq_true rfl) ?_
  intro Pg Ev s Mi args below Mt Cd ls Q Aw hC hK hS hnm hl hQ
  have hl : lv_has ls 2 [(0, .ref a), (1, .ref x)] := hl
  refine li_aload_n hC hl 0 rfl dJx4a65c_add_9ea2d_0 ?_
  refine li_dup hC rfl dJx4a65c_add_9ea2d_1 ?_
  refine li_getS hC hK.1 ck_Jx4a65c (hS.1 i _ hi) 0 (by decide) fl_Jx4a65c_63 sf_Jx4a65c_modCount (v := .int (iI m)) rfl dJx4a65c_add_9ea2d_2 ?_
  refine li_iconst hC dJx4a65c_add_9ea2d_5 ?_
  refine li_iadd hC dJx4a65c_add_9ea2d_6 ?_
  refine li_putS hC hK hS ck_Jx4a65c i hi 0 (by decide) fl_Jx4a65c_63 sf_Jx4a65c_modCount rfl (v := .int (iI (m + 1))) rfl rfl (Nat.le_of_ble_eq_true rfl) rfl dJx4a65c_add_9ea2d_7 (fun H locs hS => ?_)
  have hl1 := (List.getElem?_eq_some_iff.mp hi).1
  have hS : St g Aw s.heap H locs (ws.set i (a, .inr (0, [.int (iI (m + 1)), .ref el, .int (iI n)]))) := hS
  have hi1 : (ws.set i (a, .inr (0, [.int (iI (m + 1)), .ref el, .int (iI n)])))[i]? = some (a, .inr (0, [.int (iI (m + 1)), .ref el, .int (iI n)])) := List.getElem?_set_self hl1
  refine li_aload_n hC hl 0 rfl dJx4a65c_add_9ea2d_10 ?_
  refine li_aload_n hC hl 1 rfl dJx4a65c_add_9ea2d_11 ?_
  refine li_aload_n hC hl 0 rfl dJx4a65c_add_9ea2d_12 ?_
  refine li_get hC hK.1 ck_Jx4a65c (hS.1 i _ hi1) 1 (by decide) fl_Jx4a65c_9 rfl (v := .ref el) rfl dJx4a65c_add_9ea2d_13 ?_
  refine li_aload_n hC hl 0 rfl dJx4a65c_add_9ea2d_16 ?_
  refine li_get hC hK.1 ck_Jx4a65c (hS.1 i _ hi1) 2 (by decide) fl_Jx4a65c_48 rfl (v := .int (iI n)) rfl dJx4a65c_add_9ea2d_17 ?_
  refine wr_callVv hC (c_addInA l g hi1 (by rw [List.getElem?_set_ne hij]; exact hj) (by rw [List.getElem?_set_ne hik]; exact hx) hkd hij hn _) mk_Jx4a65c_add_72be8 ml_Jx4a65c_131 (rr (by decide)) ⟨by simp only [rmC]; omega, by simp only [rmC]; omega⟩ hK hS (li_recv hK.1 ck_Jx4a65c (hS.1 i _ hi1)) rfl hl.1 rfl (Nat.le_of_ble_eq_true rfl) dJx4a65c_add_9ea2d_20 (fun w H locs hp hS => ?_)
  refine li_iconst hC dJx4a65c_add_9ea2d_23 ?_
  have hp : w = ((ws.set i (a, .inr (0, [.int (iI (m + 1)), .ref el, .int (iI n)]))).set j (el, obA g 10 (va_up f n.toNat (some x)))).set i (a, .inr (0, [.int (iI (m + 1)), .ref el, .int (iI (n + 1))])) := hp
  subst hp
  exact hQ _ _ _ _ _ _ _ _ dJx4a65c_add_9ea2d_24 hS (by omega) (by omega) (Or.inr rfl) ⟨rfl, by rw [List.set_comm _ _ hij, List.set_set]⟩
set_option maxHeartbeats 4000000 in
set_option maxRecDepth 100000 in
theorem c_grow1 (l : Launch) (g : GG) {ws : va_W} {i a : Nat} {m n : Int} (hi : ws[i]? = some (a, .inr (0, [.int (iI m), .ref (g.2.1 3), .int (iI n)]))) (hn : n = 0) (sz0 : Nat) : MwrQ l g yJx4a65c_grow_92f84 cJx4a65c_grow_92f84 4 2 1 10 (.array (.object "java/lang/Object")) [.ref a, .int (iI 1)] sz0 ws (fun v w => ∃ r : Nat, v = some r ∧ w = (ws ++ [(r, obA g 10 (fun _ => none))]).set i (a, .inr (0, [.int (iI m), .ref r, .int (iI n)]))) := by
  refine wr_startQA (own := RJx4a65c) (by decide) rfl (Nat.le_of_ble_eq_true rfl) ?_
  intro Pg Ev s Mi args below Mt Cd ls Q Aw hC hK hS hnm hl hQ
  have hl : lv_has ls 4 [(0, .ref a), (1, .int (iI 1))] := hl
  refine li_aload_n hC hl 0 rfl dJx4a65c_grow_92f84_0 ?_
  refine li_get hC hK.1 ck_Jx4a65c (hS.1 i _ hi) 1 (by decide) fl_Jx4a65c_9 rfl (v := .ref (g.2.1 3)) rfl dJx4a65c_grow_92f84_1 ?_
  refine li_tlen hC hK.2.1.2.1 hS.2.2 dJx4a65c_grow_92f84_4 ?_
  refine li_istore_n hC (lv' := [(2, .int (iI ((0 : Nat) : Int))), (0, .ref a), (1, .int (iI 1))]) hl (by decide) rfl dJx4a65c_grow_92f84_5 (fun ls hl => ?_)
  refine li_iload_n hC hl 0 rfl dJx4a65c_grow_92f84_6 ?_
  refine li_if_gt (tgt := 20) hC (by decide) (rg (by omega) (by omega)) dJx4a65c_grow_92f84_7 (fun c1 => absurd c1 (by omega)) (fun c1 => ?_)
  refine li_aload_n hC hl 1 rfl dJx4a65c_grow_92f84_10 ?_
  refine li_get hC hK.1 ck_Jx4a65c (hS.1 i _ hi) 1 (by decide) fl_Jx4a65c_9 rfl (v := .ref (g.2.1 3)) rfl dJx4a65c_grow_92f84_11 ?_
  refine li_gets hC hK.2.1.1 hS.2.2 fl_Jx4a65c_39 rfl dJx4a65c_grow_92f84_14 ?_
  refine lv_acmp_eq (rx := some (g.2.1 3)) (ry := some (g.2.1 3)) (tgt := 45) hC.1 hC.2.1 dJx4a65c_grow_92f84_17 (by decide) (fun _ => ?_) (fun h9 => absurd rfl h9)
  refine li_aload_n hC hl 1 rfl dJx4a65c_grow_92f84_45 ?_
  refine li_bipush hC (z := 10) rfl dJx4a65c_grow_92f84_46 ?_
  refine li_iload_n hC hl 2 rfl dJx4a65c_grow_92f84_48 ?_
  refine ro_callSi hC (c_J9_max_7cf53 l g 10 1 (rg (by decide) (by decide)) (rg (by decide) (by decide))) mk_J9_max_7cf53 ml_Jx4a65c_79 (rr (by decide)) ⟨Nat.zero_le _, Nat.zero_le _⟩ hK.1 (hS.ro hK) trivial rfl hl.1 rfl (Nat.le_of_ble_eq_true rfl) dJx4a65c_grow_92f84_49 ?_
  rw [show (if (10 : Int) < 1 then (1 : Int) else 10) = 10 from rfl]
  refine li_newq10 hC hK hS cl_Jx4a65c_7 (by simp only [rmC]; omega) (by simp only [rmC]; omega) dJx4a65c_grow_92f84_52 (fun r H hS => ?_)
  have hl1 := (List.getElem?_eq_some_iff.mp hi).1
  have hi2 : (ws ++ [(r, obA g 10 (fun _ => none))])[i]? = some (a, .inr (0, [.int (iI m), .ref (g.2.1 3), .int (iI n)])) := by rw [List.getElem?_append_left hl1]; exact hi
  refine li_dup_x1 hC rfl rfl dJx4a65c_grow_92f84_55 ?_
  refine li_put hC hK hS ck_Jx4a65c i hi2 1 (by decide) fl_Jx4a65c_9 rfl rfl (v := .ref r) rfl rfl (Nat.le_of_ble_eq_true rfl) rfl dJx4a65c_grow_92f84_56 (fun H locs hS => ?_)
  exact hQ (some r) _ _ _ _ _ _ _ dJx4a65c_grow_92f84_59 hS (by omega) (by omega) ⟨r, rfl, rfl⟩
set_option maxHeartbeats 4000000 in
set_option maxRecDepth 100000 in
theorem c_grow0 (l : Launch) (g : GG) {ws : va_W} {i a : Nat} {m n : Int} (hi : ws[i]? = some (a, .inr (0, [.int (iI m), .ref (g.2.1 3), .int (iI n)]))) (hn : n = 0) (sz0 : Nat) : MwrQ l g yJx4a65c_grow_d5877 cJx4a65c_grow_d5877 1 3 1 10 (.array (.object "java/lang/Object")) [.ref a] sz0 ws (fun v w => ∃ r : Nat, v = some r ∧ w = (ws ++ [(r, obA g 10 (fun _ => none))]).set i (a, .inr (0, [.int (iI m), .ref r, .int (iI n)]))) := by
  refine wr_startQA (own := RJx4a65c) (by decide) rfl (Nat.le_of_ble_eq_true rfl) ?_
  intro Pg Ev s Mi args below Mt Cd ls Q Aw hC hK hS hnm hl hQ
  have hl : lv_has ls 1 [(0, .ref a)] := hl
  refine li_aload_n hC hl 0 rfl dJx4a65c_grow_d5877_0 ?_
  refine li_aload_n hC hl 0 rfl dJx4a65c_grow_d5877_1 ?_
  refine li_get hC hK.1 ck_Jx4a65c (hS.1 i _ hi) 2 (by decide) fl_Jx4a65c_48 rfl (v := .int (iI n)) rfl dJx4a65c_grow_d5877_2 ?_
  refine li_iconst hC dJx4a65c_grow_d5877_5 ?_
  refine li_iadd hC dJx4a65c_grow_d5877_6 ?_
  rw [show n + 1 = 1 by omega]
  refine wr_callVqA hC (c_grow1 l g hi hn _) mk_Jx4a65c_grow_92f84 ml_Jx4a65c_69 (rr (by decide)) ⟨by simp only [rmC]; omega, by simp only [rmC]; omega⟩ hK hS (li_recv hK.1 ck_Jx4a65c (hS.1 i _ hi)) rfl hl.1 rfl (Nat.le_of_ble_eq_true rfl) dJx4a65c_grow_d5877_7 (fun v w H locs hp hS => ?_)
  exact hQ v _ _ _ _ _ _ _ dJx4a65c_grow_d5877_10 hS (by omega) (by omega) hp
set_option maxHeartbeats 4000000 in
set_option maxRecDepth 100000 in
theorem c_addIn0 (l : Launch) (g : GG) {ws : va_W} {i a x qk : Nat} {m n kd : Int} {fs : List Value} (hi : ws[i]? = some (a, .inr (0, [.int (iI m), .ref (g.2.1 3), .int (iI n)]))) (hn : n = 0) (hx : ws[qk]? = some (x, .inr (kci kd, fs))) (hkd : 0 ≤ kd ∧ kd ≤ 6) (hik : i ≠ qk) (sz0 : Nat) : MwrV l g yJx4a65c_add_72be8 cJx4a65c_add_72be8 4 4 1 10 [.ref a, .ref x, .ref (g.2.1 3), .int (iI n)] sz0 ws (fun w => ∃ r : Nat, w = (ws.set i (a, .inr (0, [.int (iI m), .ref r, .int (iI 1)]))) ++ [(r, obA g 10 (va_up (fun _ => none) 0 (some x)))]) := by
  refine wr_startV (own := RJx4a65c) (by decide) rfl (Nat.le_of_ble_eq_true rfl) ?_
  intro Pg Ev s Mi args below Mt Cd ls Q Aw hC hK hS hnm hl hQ
  have hl : lv_has ls 4 [(0, .ref a), (1, .ref x), (2, .ref (g.2.1 3)), (3, .int (iI n))] := hl
  refine li_iload_n hC hl 3 rfl dJx4a65c_add_72be8_0 ?_
  refine li_aload_n hC hl 2 rfl dJx4a65c_add_72be8_1 ?_
  refine li_tlen hC hK.2.1.2.1 hS.2.2 dJx4a65c_add_72be8_2 ?_
  refine li_icmp_ne (tgt := 11) hC (by decide) (rg (by omega) (by omega)) (rg (by decide) (by decide)) dJx4a65c_add_72be8_3 (fun c1 => absurd c1 (by omega)) (fun c1 => ?_)
  refine li_aload_n hC hl 0 rfl dJx4a65c_add_72be8_6 ?_
  refine wr_callVqA hC (c_grow0 l g hi hn _) mk_Jx4a65c_grow_d5877 ml_Jx4a65c_129 (rr (by decide)) ⟨by simp only [rmC]; omega, by simp only [rmC]; omega⟩ hK hS (li_recv hK.1 ck_Jx4a65c (hS.1 i _ hi)) rfl hl.1 rfl (Nat.le_of_ble_eq_true rfl) dJx4a65c_add_72be8_7 (fun v w H locs hp hS => ?_)
  obtain ⟨r, rfl, rfl⟩ := hp
  have hl1 := (List.getElem?_eq_some_iff.mp hi).1
  have hlx := (List.getElem?_eq_some_iff.mp hx).1
  have ej : ((ws ++ [(r, obA g 10 (fun _ => none))]).set i (a, .inr (0, [.int (iI m), .ref r, .int (iI n)])))[ws.length]? = some (r, obA g 10 (fun _ => none)) := by rw [List.getElem?_set_ne (by omega), List.getElem?_append_right (Nat.le_refl _), Nat.sub_self]; rfl
  have ei : ((ws ++ [(r, obA g 10 (fun _ => none))]).set i (a, .inr (0, [.int (iI m), .ref r, .int (iI n)])))[i]? = some (a, .inr (0, [.int (iI m), .ref r, .int (iI n)])) := List.getElem?_set_self (by rw [List.length_append]; omega)
  have ex : ((ws ++ [(r, obA g 10 (fun _ => none))]).set i (a, .inr (0, [.int (iI m), .ref r, .int (iI n)])))[qk]? = some (x, .inr (kci kd, fs)) := by rw [List.getElem?_set_ne hik, List.getElem?_append_left hlx]; exact hx
  refine li_astore_n hC (x := r) (lv' := [(2, .ref r), (0, .ref a), (1, .ref x), (3, .int (iI n))]) hl (by decide) rfl dJx4a65c_add_72be8_10 (fun ls hl => ?_)
  refine li_aload_n hC hl 0 rfl dJx4a65c_add_72be8_11 ?_
  refine li_iload_n hC hl 3 rfl dJx4a65c_add_72be8_12 ?_
  refine li_aload_n hC hl 2 rfl dJx4a65c_add_72be8_13 ?_
  refine li_aastN hC hK hS ws.length ej ex hkd (z := n) ⟨by omega, by omega⟩ (by decide) rfl dJx4a65c_add_72be8_14 (fun H locs hS => ?_)
  have ei2 : (((ws ++ [(r, obA g 10 (fun _ => none))]).set i (a, .inr (0, [.int (iI m), .ref r, .int (iI n)]))).set ws.length (r, obA g 10 (va_up (fun _ => none) n.toNat (some x))))[i]? = some (a, .inr (0, [.int (iI m), .ref r, .int (iI n)])) := by rw [List.getElem?_set_ne (by omega)]; exact ei
  refine li_aload_n hC hl 1 rfl dJx4a65c_add_72be8_15 ?_
  refine li_iload_n hC hl 3 rfl dJx4a65c_add_72be8_16 ?_
  refine li_iconst hC dJx4a65c_add_72be8_17 ?_
  refine li_iadd hC dJx4a65c_add_72be8_18 ?_
  refine li_put hC hK hS ck_Jx4a65c i ei2 2 (by decide) fl_Jx4a65c_48 rfl rfl (v := .int (iI (n + 1))) rfl rfl (Nat.le_of_ble_eq_true rfl) rfl dJx4a65c_add_72be8_19 (fun H locs hS => ?_)
  exact hQ _ _ _ _ _ _ _ dJx4a65c_add_72be8_22 hS (by omega) (by omega) ⟨r, by
      subst hn
      rw [List.set_comm _ _ (show ws.length ≠ i by omega), List.set_set, List.set_append_left _ _ hl1]
      have e9 : ws.length = (ws.set i (a, .inr (0, [.int (iI m), .ref r, .int (iI (0 + 1))]))).length := by rw [List.length_set]
      rw [show ∀ (L : va_W) (n : Nat) (u v : Nat × va_E), n = L.length → (L ++ [u]).set n v = L ++ [v] from fun L n u v h => by rw [h]; simp]
      · rfl
      · exact e9⟩
set_option maxHeartbeats 4000000 in
set_option maxRecDepth 100000 in
theorem c_add0 (l : Launch) (g : GG) {ws : va_W} {i a x qk : Nat} {m n kd : Int} {fs : List Value} (hi : ws[i]? = some (a, .inr (0, [.int (iI m), .ref (g.2.1 3), .int (iI n)]))) (hn : n = 0) (hx : ws[qk]? = some (x, .inr (kci kd, fs))) (hkd : 0 ≤ kd ∧ kd ≤ 6) (hik : i ≠ qk) (sz0 : Nat) : MwrZ l g yJx4a65c_add_9ea2d cJx4a65c_add_9ea2d 2 5 1 10 [.ref a, .ref x] sz0 ws (fun v w => v = iI 1 ∧ ∃ r : Nat, w = (ws.set i (a, .inr (0, [.int (iI (m + 1)), .ref r, .int (iI 1)]))) ++ [(r, obA g 10 (va_up (fun _ => none) 0 (some x)))]) := by
  refine wr_startZ (own := RJx4a65c) (by decide) rfl (Nat.le_of_ble_eq_true rfl) ?_
  intro Pg Ev s Mi args below Mt Cd ls Q Aw hC hK hS hnm hl hQ
  have hl : lv_has ls 2 [(0, .ref a), (1, .ref x)] := hl
  refine li_aload_n hC hl 0 rfl dJx4a65c_add_9ea2d_0 ?_
  refine li_dup hC rfl dJx4a65c_add_9ea2d_1 ?_
  refine li_getS hC hK.1 ck_Jx4a65c (hS.1 i _ hi) 0 (by decide) fl_Jx4a65c_63 sf_Jx4a65c_modCount (v := .int (iI m)) rfl dJx4a65c_add_9ea2d_2 ?_
  refine li_iconst hC dJx4a65c_add_9ea2d_5 ?_
  refine li_iadd hC dJx4a65c_add_9ea2d_6 ?_
  refine li_putS hC hK hS ck_Jx4a65c i hi 0 (by decide) fl_Jx4a65c_63 sf_Jx4a65c_modCount rfl (v := .int (iI (m + 1))) rfl rfl (Nat.le_of_ble_eq_true rfl) rfl dJx4a65c_add_9ea2d_7 (fun H locs hS => ?_)
  have hl1 := (List.getElem?_eq_some_iff.mp hi).1
  have hS : St g Aw s.heap H locs (ws.set i (a, .inr (0, [.int (iI (m + 1)), .ref (g.2.1 3), .int (iI n)]))) := hS
  have hi1 : (ws.set i (a, .inr (0, [.int (iI (m + 1)), .ref (g.2.1 3), .int (iI n)])))[i]? = some (a, .inr (0, [.int (iI (m + 1)), .ref (g.2.1 3), .int (iI n)])) := List.getElem?_set_self hl1
  refine li_aload_n hC hl 0 rfl dJx4a65c_add_9ea2d_10 ?_
  refine li_aload_n hC hl 1 rfl dJx4a65c_add_9ea2d_11 ?_
  refine li_aload_n hC hl 0 rfl dJx4a65c_add_9ea2d_12 ?_
  refine li_get hC hK.1 ck_Jx4a65c (hS.1 i _ hi1) 1 (by decide) fl_Jx4a65c_9 rfl (v := .ref (g.2.1 3)) rfl dJx4a65c_add_9ea2d_13 ?_
  refine li_aload_n hC hl 0 rfl dJx4a65c_add_9ea2d_16 ?_
  refine li_get hC hK.1 ck_Jx4a65c (hS.1 i _ hi1) 2 (by decide) fl_Jx4a65c_48 rfl (v := .int (iI n)) rfl dJx4a65c_add_9ea2d_17 ?_
  refine wr_callVv hC (c_addIn0 l g hi1 hn (by rw [List.getElem?_set_ne hik]; exact hx) hkd hik _) mk_Jx4a65c_add_72be8 ml_Jx4a65c_131 (rr (by decide)) ⟨by simp only [rmC]; omega, by simp only [rmC]; omega⟩ hK hS (li_recv hK.1 ck_Jx4a65c (hS.1 i _ hi1)) rfl hl.1 rfl (Nat.le_of_ble_eq_true rfl) dJx4a65c_add_9ea2d_20 (fun w H locs hp hS => ?_)
  refine li_iconst hC dJx4a65c_add_9ea2d_23 ?_
  obtain ⟨r, hp⟩ := hp
  subst hp
  exact hQ _ _ _ _ _ _ _ _ dJx4a65c_add_9ea2d_24 hS (by omega) (by omega) (Or.inr rfl) ⟨rfl, r, by rw [List.set_set]⟩
set_option maxHeartbeats 4000000 in
set_option maxRecDepth 100000 in
theorem c_alc (l : Launch) (g : GG) {ws : va_W} {a : Nat} (sz0 : Nat) : MwrV l g yJxa1e45_init_da8c8 cJxa1e45_init_da8c8 1 1 0 0 [.ref a] sz0 ws (fun w => w = ws) := by
  refine wr_startV (own := RJxa1e45) (by decide) rfl (Nat.le_of_ble_eq_true rfl) ?_
  intro Pg Ev s Mi args below Mt Cd ls Q Aw hC hK hS hnm hl hQ
  have hl : lv_has ls 1 [(0, .ref a)] := hl
  refine li_aload_n hC hl 0 rfl dJxa1e45_init_da8c8_0 ?_
  refine li_objInit hC oi_Jxa1e45 hl.1 (by decide) ⟨by simp only [rmC]; omega, by simp only [rmC]; omega⟩ dJxa1e45_init_da8c8_1 ?_
  exact hQ _ _ _ _ _ _ _ dJxa1e45_init_da8c8_4 hS (by omega) (by omega) rfl
set_option maxHeartbeats 4000000 in
set_option maxRecDepth 100000 in
theorem c_abl (l : Launch) (g : GG) {ws : va_W} {i a : Nat} (hi : ws[i]? = some (a, .inr (0, [.int (iI 0), .null, .int (iI 0)]))) (sz0 : Nat) : MwrV l g yJxc12de_init_da8c8 cJxc12de_init_da8c8 1 2 0 0 [.ref a] sz0 ws (fun w => w = ws) := by
  refine wr_startV (own := RJxc12de) (by decide) rfl (Nat.le_of_ble_eq_true rfl) ?_
  intro Pg Ev s Mi args below Mt Cd ls Q Aw hC hK hS hnm hl hQ
  have hl : lv_has ls 1 [(0, .ref a)] := hl
  refine li_aload_n hC hl 0 rfl dJxc12de_init_da8c8_0 ?_
  refine wr_callIv hC (c_alc l g (a := a) _) ⟨⟨mi_Jxa1e45_init_da8c8, ini_Jxa1e45, mc_Jxa1e45_init_da8c8⟩, ⟨by decide +kernel, by decide +kernel, by decide +kernel⟩, by decide⟩ rfl ml_Jxc12de_1 (rr (by decide)) ⟨by simp only [rmC]; omega, by simp only [rmC]; omega⟩ hK hS rfl hl.1 rfl (Nat.le_of_ble_eq_true rfl) dJxc12de_init_da8c8_1 (fun w H locs hp hS => ?_)
  rw [show w = ws from hp] at hS
  refine li_aload_n hC hl 0 rfl dJxc12de_init_da8c8_4 ?_
  refine li_iconst hC dJxc12de_init_da8c8_5 ?_
  refine li_put hC hK hS ck_Jx4a65c i hi 0 (by decide) fl_Jxc12de_7 rfl rfl (v := .int (iI 0)) rfl rfl (Nat.le_of_ble_eq_true rfl) (setself hi) dJxc12de_init_da8c8_6 (fun H locs hS => ?_)
  exact hQ _ _ _ _ _ _ _ dJxc12de_init_da8c8_9 hS (by omega) (by omega) rfl
set_option maxHeartbeats 4000000 in
set_option maxRecDepth 100000 in
theorem c_Jx4a65c_init_da8c8 (l : Launch) (g : GG) {ws : va_W} {i a : Nat} (hi : ws[i]? = some (a, .inr (0, [.int (iI 0), .null, .int (iI 0)]))) {ws2 : va_W} (hw : ws.set i (a, .inr (0, [.int (iI 0), .ref (g.2.1 3), .int (iI 0)])) = ws2) (sz0 : Nat) : MwrV l g yJx4a65c_init_da8c8 cJx4a65c_init_da8c8 1 3 0 0 [.ref a] sz0 ws (fun w => w = ws2) := by
  refine wr_startV (own := RJx4a65c) (by decide) rfl (Nat.le_of_ble_eq_true rfl) ?_
  intro Pg Ev s Mi args below Mt Cd ls Q Aw hC hK hS hnm hl hQ
  have hl : lv_has ls 1 [(0, .ref a)] := hl
  refine li_aload_n hC hl 0 rfl dJx4a65c_init_da8c8_0 ?_
  refine wr_callIv hC (c_abl l g hi _) ⟨⟨mi_Jxc12de_init_da8c8, ini_Jxc12de, mc_Jxc12de_init_da8c8⟩, ⟨by decide +kernel, by decide +kernel, by decide +kernel⟩, by decide⟩ rfl ml_Jx4a65c_1 (rr (by decide)) ⟨by simp only [rmC]; omega, by simp only [rmC]; omega⟩ hK hS rfl hl.1 rfl (Nat.le_of_ble_eq_true rfl) dJx4a65c_init_da8c8_1 (fun w H locs hp hS => ?_)
  rw [show w = ws from hp] at hS
  refine li_aload_n hC hl 0 rfl dJx4a65c_init_da8c8_4 ?_
  refine li_gets hC hK.2.1.1 hS.2.2 fl_Jx4a65c_39 rfl dJx4a65c_init_da8c8_5 ?_
  refine li_put hC hK hS ck_Jx4a65c i hi 1 (by decide) fl_Jx4a65c_9 rfl rfl (v := .ref (g.2.1 3)) rfl rfl (Nat.le_of_ble_eq_true rfl) hw dJx4a65c_init_da8c8_8 (fun H locs hS => ?_)
  exact hQ _ _ _ _ _ _ _ dJx4a65c_init_da8c8_11 hS (by omega) (by omega) rfl
