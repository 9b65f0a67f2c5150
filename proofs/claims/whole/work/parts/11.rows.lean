theorem rg {z : Int} (h1 : -2147483648 ≤ z) (h2 : z ≤ 2147483647) : rng z := ⟨h1, h2⟩
def St (g : GG) (A : Nat → Prop) (H0 H : Heap) (locs : List Loc) (ws : va_W) : Prop := va_P g.1 vwCl ws H ∧ va_D A ws ∧ va_S A H0 H locs
def KW (g : GG) (A : Nat → Prop) (s : State) : Prop := KU g s ∧ EnvG g A s s.heap ∧ ∀ q : Nat, s.heap.size ≤ q → A q
theorem St.env {g : GG} {A : Nat → Prop} {s : State} {H : Heap} {locs : List Loc} {ws : va_W} (hS : St g A s.heap H locs ws) (hK : KW g A s) : EnvG g A s H := hK.2.1.kept (fun a h1 h2 => hS.2.2.2.1 a h1 h2)
theorem St.ro {g : GG} {A : Nat → Prop} {s : State} {H : Heap} {locs : List Loc} {ws : va_W} (hS : St g A s.heap H locs ws) (hK : KW g A s) : EnvG g NoA s H := (hS.env hK).narrow (fun _ h => h.elim)
theorem St.in {g : GG} {A : Nat → Prop} {s : State} {H : Heap} {locs : List Loc} {ws : va_W} (hS : St g A s.heap H locs ws) (hK : KW g A s) : ∀ q, va_A ws H.size q → A q := by
  intro q h
  rcases h with ⟨k, e, h⟩ | h
  · exact hS.2.1.2 k _ h
  · exact hK.2.2 q (Nat.le_trans hS.2.2.1 h)
abbrev MroI (l : Launch) (g : GG) (y : MethodName) (cc : ByteArray) (nL k : Nat) (av : List Value) (Pic : Heap → Prop) (v : Int32) : Prop := Met l y (wsA y cc nL (some .int)) (rmL k) (ro_P g av Pic) (vp_Si (fun r => r = v)) 0 0 (fun _ => False)
abbrev MroZ (l : Launch) (g : GG) (y : MethodName) (cc : ByteArray) (nL k : Nat) (av : List Value) (Pic : Heap → Prop) (v : Int32) : Prop := Met l y (wsA y cc nL (some .boolean)) (rmL k) (ro_P g av Pic) (vp_Si (fun r => r = v)) 0 0 (fun _ => False)
abbrev MroJ (l : Launch) (g : GG) (y : MethodName) (cc : ByteArray) (nL k : Nat) (av : List Value) (Pic : Heap → Prop) (v : Int64) : Prop := Met l y (wsA y cc nL (some .long)) (rmL k) (ro_P g av Pic) (vp_Sl (fun r => r = v)) 0 0 (fun _ => False)
abbrev MroQ (l : Launch) (g : GG) (y : MethodName) (cc : ByteArray) (nL k : Nat) (rt : FieldType) (av : List Value) (Pic : Heap → Prop) (v : Option Nat) : Prop := Met l y (wsA y cc nL (some rt)) (rmL k) (ro_P g av Pic) (va_Sq (fun r => r = v)) 0 0 (fun _ => False)
abbrev MwrI (l : Launch) (g : GG) (y : MethodName) (cc : ByteArray) (nL k mc ms : Nat) (av : List Value) (sz : Nat) (ws : va_W) (post : Int32 → va_W → Prop) : Prop := Met l y (wsA y cc nL (some .int)) (rmC k mc ms) (wr_P g av sz ws) (va_Qi post (wr_B g sz ws) (va_A ws sz)) mc ms (va_A ws sz)
abbrev MwrZ (l : Launch) (g : GG) (y : MethodName) (cc : ByteArray) (nL k mc ms : Nat) (av : List Value) (sz : Nat) (ws : va_W) (post : Int32 → va_W → Prop) : Prop := Met l y (wsA y cc nL (some .boolean)) (rmC k mc ms) (wr_P g av sz ws) (va_Qi post (wr_B g sz ws) (va_A ws sz)) mc ms (va_A ws sz)
abbrev MwrJ (l : Launch) (g : GG) (y : MethodName) (cc : ByteArray) (nL k mc ms : Nat) (av : List Value) (sz : Nat) (ws : va_W) (post : Int64 → va_W → Prop) : Prop := Met l y (wsA y cc nL (some .long)) (rmC k mc ms) (wr_P g av sz ws) (va_Ql post (wr_B g sz ws) (va_A ws sz)) mc ms (va_A ws sz)
abbrev MwrV (l : Launch) (g : GG) (y : MethodName) (cc : ByteArray) (nL k mc ms : Nat) (av : List Value) (sz : Nat) (ws : va_W) (post : va_W → Prop) : Prop := Met l y (wsA y cc nL none) (rmC k mc ms) (wr_P g av sz ws) (va_Qv post (wr_B g sz ws) (va_A ws sz)) mc ms (va_A ws sz)
abbrev MwrQ (l : Launch) (g : GG) (y : MethodName) (cc : ByteArray) (nL k mc ms : Nat) (rt : FieldType) (av : List Value) (sz : Nat) (ws : va_W) (post : Option Nat → va_W → Prop) : Prop := Met l y (wsA y cc nL (some rt)) (rmC k mc ms) (wr_P g av sz ws) (va_Qq post (wr_B g sz ws) (va_A ws sz)) mc ms (va_A ws sz)
section R4
variable {p : Program} {l : Launch} {e : Env} {R : Room} {s : State} {m : MethodId} {args : Array Value} {below : List Frame} {meth : Method} {c : Code} {H : Heap} {locs : List Loc} {cells slots : Nat} {Q : State → Prop}
variable {cc : ByteArray} {nL : Nat} {ret : Option FieldType} {own : String} {pc : Nat} {ls : Array Slot} {rest : List Value} {g : GG} {A : Nat → Prop} {ws ws' : va_W}
theorem ro_startI {l : Launch} {g : GG} {y : MethodName} {cc : ByteArray} {maxL k : Nat} {own : String} {av : List Value} {Pic : Heap → Prop} {v : Int32} (hy : plainName y.cls = true) (ho : y.cls = own) (hav : (lg_sl av).length ≤ maxL)
    (body : ∀ (p : Program) (e : Env) (s : State) (m : MethodId) (args : Array Value) (below : List Frame) (meth : Method) (c : Code) (ls : Array Slot) (Q : State → Prop), Cx p s m args meth c cc maxL (some .int) own → KU g s → EnvG g NoA s s.heap → Pic s.heap → lv_has ls maxL (lv_args 0 av) → (∀ (w : Int32) (pc : Nat) (ls : Array Slot), decode cc pc = .ok (.ireturn, 1) → w = v → W p l e (rmL k) s m args below meth c s.heap [] 0 0 Q (F0 m pc ls [.int w])) →
      W p l e (rmL k) s m args below meth c s.heap [] 0 0 Q (F0 m 0 ls [])) : MroI l g y cc maxL k  av Pic v := by
  refine ro_entry hy ho hav ?_
  intro p e s m args below meth c ls hC hK hE hP hl
  refine body p e s m args below meth c ls _ hC hK hE hP hl ?_
  intro w pc ls hd hw
  exact ro_iret hC hw hd
theorem ro_startZ {l : Launch} {g : GG} {y : MethodName} {cc : ByteArray} {maxL k : Nat} {own : String} {av : List Value} {Pic : Heap → Prop} {v : Int32} (hy : plainName y.cls = true) (ho : y.cls = own) (hav : (lg_sl av).length ≤ maxL)
    (body : ∀ (p : Program) (e : Env) (s : State) (m : MethodId) (args : Array Value) (below : List Frame) (meth : Method) (c : Code) (ls : Array Slot) (Q : State → Prop), Cx p s m args meth c cc maxL (some .boolean) own → KU g s → EnvG g NoA s s.heap → Pic s.heap → lv_has ls maxL (lv_args 0 av) → (∀ (z : Int) (pc : Nat) (ls : Array Slot), decode cc pc = .ok (.ireturn, 1) → (z = 0 ∨ z = 1) → iI z = v → W p l e (rmL k) s m args below meth c s.heap [] 0 0 Q (F0 m pc ls [.int (iI z)])) →
      W p l e (rmL k) s m args below meth c s.heap [] 0 0 Q (F0 m 0 ls [])) : MroZ l g y cc maxL k  av Pic v := by
  refine ro_entry hy ho hav ?_
  intro p e s m args below meth c ls hC hK hE hP hl
  refine body p e s m args below meth c ls _ hC hK hE hP hl ?_
  intro z pc ls hd h01 hw
  exact ro_zret hC h01 hw hd
theorem ro_startJ {l : Launch} {g : GG} {y : MethodName} {cc : ByteArray} {maxL k : Nat} {own : String} {av : List Value} {Pic : Heap → Prop} {v : Int64} (hy : plainName y.cls = true) (ho : y.cls = own) (hav : (lg_sl av).length ≤ maxL)
    (body : ∀ (p : Program) (e : Env) (s : State) (m : MethodId) (args : Array Value) (below : List Frame) (meth : Method) (c : Code) (ls : Array Slot) (Q : State → Prop), Cx p s m args meth c cc maxL (some .long) own → KU g s → EnvG g NoA s s.heap → Pic s.heap → lv_has ls maxL (lv_args 0 av) → (∀ (w : Int64) (pc : Nat) (ls : Array Slot), decode cc pc = .ok (.lreturn, 1) → w = v → W p l e (rmL k) s m args below meth c s.heap [] 0 0 Q (F0 m pc ls [.long w])) →
      W p l e (rmL k) s m args below meth c s.heap [] 0 0 Q (F0 m 0 ls [])) : MroJ l g y cc maxL k  av Pic v := by
  refine ro_entry hy ho hav ?_
  intro p e s m args below meth c ls hC hK hE hP hl
  refine body p e s m args below meth c ls _ hC hK hE hP hl ?_
  intro w pc ls hd hw
  exact ro_lret hC hw hd
theorem ro_startQ {l : Launch} {g : GG} {y : MethodName} {cc : ByteArray} {maxL k : Nat} {own : String} {av : List Value} {Pic : Heap → Prop} {v : Option Nat} {cn : String} (hy : plainName y.cls = true) (ho : y.cls = own) (hav : (lg_sl av).length ≤ maxL)
    (body : ∀ (p : Program) (e : Env) (s : State) (m : MethodId) (args : Array Value) (below : List Frame) (meth : Method) (c : Code) (ls : Array Slot) (Q : State → Prop), Cx p s m args meth c cc maxL (some (.object cn)) own → KU g s → EnvG g NoA s s.heap → Pic s.heap → lv_has ls maxL (lv_args 0 av) → (∀ (w : Option Nat) (pc : Nat) (ls : Array Slot), decode cc pc = .ok (.areturn, 1) → w = v → W p l e (rmL k) s m args below meth c s.heap [] 0 0 Q (F0 m pc ls [va_rf w])) →
      W p l e (rmL k) s m args below meth c s.heap [] 0 0 Q (F0 m 0 ls [])) : MroQ l g y cc maxL k (.object cn) av Pic v := by
  refine ro_entry hy ho hav ?_
  intro p e s m args below meth c ls hC hK hE hP hl
  refine body p e s m args below meth c ls _ hC hK hE hP hl ?_
  intro w pc ls hd hw
  exact W.aret hC.1 hC.2.1 hC.2.2.1 (Or.inl ⟨cn, rfl⟩) (va_rf_or w) (fun t ht _ => ⟨w, rfl, hw, ht⟩) (fun _ h => by cases h) hd hC.2.2.2.2.2.2
theorem wr_startI {l : Launch} {g : GG} {y : MethodName} {cc : ByteArray} {maxL k mc ms : Nat} {own : String} {av : List Value} {sz : Nat} {ws : va_W} {post : Int32 → va_W → Prop}  (hy : plainName y.cls = true) (ho : y.cls = own) (hav : (lg_sl av).length ≤ maxL)
    (body : ∀ (p : Program) (e : Env) (s : State) (m : MethodId) (args : Array Value) (below : List Frame) (meth : Method) (c : Code) (ls : Array Slot) (Q : State → Prop) (A : Nat → Prop), Cx p s m args meth c cc maxL (some .int) own → KW g A s → St g A s.heap s.heap [] ws → meth.name = y.name → lv_has ls maxL (lv_args 0 av) → (∀ (v : Int32) (pc : Nat) (ls : Array Slot) (H : Heap) (locs : List Loc) (cells slots : Nat) (w : va_W), decode cc pc = .ok (.ireturn, 1) → St g A s.heap H locs w → cells ≤ mc → slots ≤ ms → post v w → W p l e (rmC k mc ms) s m args below meth c H locs cells slots Q (F0 m pc ls [.int v])) →
      W p l e (rmC k mc ms) s m args below meth c s.heap [] 0 0 Q (F0 m 0 ls [])) : MwrI l g y cc maxL k mc ms  av sz ws post := by
  refine Met.ofW (cc := cc) (maxL := maxL) (ret := some .int) hy rfl ?_
  intro p e s m args below meth c s₁ B hml hv
  obtain ⟨rfl, hK, rfl, hE, hP, hD⟩ := hv
  have hts := atoms_spec (ws := wsA y cc maxL (some .int)) B.pre
  have hown : s.vm.findClass own = some m.cls := by rw [← ho]; exact findClass_of_methodNamed B.named
  have hnm := (name_of_methodNamed B.named B.method).1
  have hC : Cx p s m av.toArray meth c cc maxL (some .int) own := ⟨B.exec, B.bytes, B.returns, hml, hown, fun w hw => hts w (List.mem_cons_of_mem _ hw), B.notSynchronized⟩
  rw [lg_entry_eq]
  refine body p e s m _ below meth c _ _ (va_A ws s.heap.size) hC ⟨hK, hE, fun q h => Or.inr h⟩ ⟨hP, hD.self, va_S.rf⟩ hnm (lv_entry av hav) ?_
  intro v pc ls H locs cells slots w hd hS h1 h2 h3
  refine W.widen h1 h2 ?_
  exact W.iret hC.1 hC.2.1 hC.2.2.1 (fun t ht _ => ⟨⟨v, w, rfl, h3, ⟨by rw [ht]; exact hS.1, hS.2.1⟩⟩, hS.2.2.F ht⟩) hS.2.2.2.2 hd hC.2.2.2.2.2.2
theorem wr_startZ {l : Launch} {g : GG} {y : MethodName} {cc : ByteArray} {maxL k mc ms : Nat} {own : String} {av : List Value} {sz : Nat} {ws : va_W} {post : Int32 → va_W → Prop}  (hy : plainName y.cls = true) (ho : y.cls = own) (hav : (lg_sl av).length ≤ maxL)
    (body : ∀ (p : Program) (e : Env) (s : State) (m : MethodId) (args : Array Value) (below : List Frame) (meth : Method) (c : Code) (ls : Array Slot) (Q : State → Prop) (A : Nat → Prop), Cx p s m args meth c cc maxL (some .boolean) own → KW g A s → St g A s.heap s.heap [] ws → meth.name = y.name → lv_has ls maxL (lv_args 0 av) → (∀ (z : Int) (pc : Nat) (ls : Array Slot) (H : Heap) (locs : List Loc) (cells slots : Nat) (w : va_W), decode cc pc = .ok (.ireturn, 1) → St g A s.heap H locs w → cells ≤ mc → slots ≤ ms → (z = 0 ∨ z = 1) → post (iI z) w → W p l e (rmC k mc ms) s m args below meth c H locs cells slots Q (F0 m pc ls [.int (iI z)])) →
      W p l e (rmC k mc ms) s m args below meth c s.heap [] 0 0 Q (F0 m 0 ls [])) : MwrZ l g y cc maxL k mc ms  av sz ws post := by
  refine Met.ofW (cc := cc) (maxL := maxL) (ret := some .boolean) hy rfl ?_
  intro p e s m args below meth c s₁ B hml hv
  obtain ⟨rfl, hK, rfl, hE, hP, hD⟩ := hv
  have hts := atoms_spec (ws := wsA y cc maxL (some .boolean)) B.pre
  have hown : s.vm.findClass own = some m.cls := by rw [← ho]; exact findClass_of_methodNamed B.named
  have hnm := (name_of_methodNamed B.named B.method).1
  have hC : Cx p s m av.toArray meth c cc maxL (some .boolean) own := ⟨B.exec, B.bytes, B.returns, hml, hown, fun w hw => hts w (List.mem_cons_of_mem _ hw), B.notSynchronized⟩
  rw [lg_entry_eq]
  refine body p e s m _ below meth c _ _ (va_A ws s.heap.size) hC ⟨hK, hE, fun q h => Or.inr h⟩ ⟨hP, hD.self, va_S.rf⟩ hnm (lv_entry av hav) ?_
  intro z pc ls H locs cells slots w hd hS h1 h2 h01 h3
  refine W.widen h1 h2 ?_
  exact W.zret hC.1 hC.2.1 hC.2.2.1 (nar_01 h01) (fun t ht _ => ⟨⟨iI z, w, rfl, h3, ⟨by rw [ht]; exact hS.1, hS.2.1⟩⟩, hS.2.2.F ht⟩) hS.2.2.2.2 hd hC.2.2.2.2.2.2
theorem wr_startJ {l : Launch} {g : GG} {y : MethodName} {cc : ByteArray} {maxL k mc ms : Nat} {own : String} {av : List Value} {sz : Nat} {ws : va_W} {post : Int64 → va_W → Prop}  (hy : plainName y.cls = true) (ho : y.cls = own) (hav : (lg_sl av).length ≤ maxL)
    (body : ∀ (p : Program) (e : Env) (s : State) (m : MethodId) (args : Array Value) (below : List Frame) (meth : Method) (c : Code) (ls : Array Slot) (Q : State → Prop) (A : Nat → Prop), Cx p s m args meth c cc maxL (some .long) own → KW g A s → St g A s.heap s.heap [] ws → meth.name = y.name → lv_has ls maxL (lv_args 0 av) → (∀ (v : Int64) (pc : Nat) (ls : Array Slot) (H : Heap) (locs : List Loc) (cells slots : Nat) (w : va_W), decode cc pc = .ok (.lreturn, 1) → St g A s.heap H locs w → cells ≤ mc → slots ≤ ms → post v w → W p l e (rmC k mc ms) s m args below meth c H locs cells slots Q (F0 m pc ls [.long v])) →
      W p l e (rmC k mc ms) s m args below meth c s.heap [] 0 0 Q (F0 m 0 ls [])) : MwrJ l g y cc maxL k mc ms  av sz ws post := by
  refine Met.ofW (cc := cc) (maxL := maxL) (ret := some .long) hy rfl ?_
  intro p e s m args below meth c s₁ B hml hv
  obtain ⟨rfl, hK, rfl, hE, hP, hD⟩ := hv
  have hts := atoms_spec (ws := wsA y cc maxL (some .long)) B.pre
  have hown : s.vm.findClass own = some m.cls := by rw [← ho]; exact findClass_of_methodNamed B.named
  have hnm := (name_of_methodNamed B.named B.method).1
  have hC : Cx p s m av.toArray meth c cc maxL (some .long) own := ⟨B.exec, B.bytes, B.returns, hml, hown, fun w hw => hts w (List.mem_cons_of_mem _ hw), B.notSynchronized⟩
  rw [lg_entry_eq]
  refine body p e s m _ below meth c _ _ (va_A ws s.heap.size) hC ⟨hK, hE, fun q h => Or.inr h⟩ ⟨hP, hD.self, va_S.rf⟩ hnm (lv_entry av hav) ?_
  intro v pc ls H locs cells slots w hd hS h1 h2 h3
  refine W.widen h1 h2 ?_
  exact W.lret hC.1 hC.2.1 hC.2.2.1 (fun t ht _ => ⟨⟨v, w, rfl, h3, ⟨by rw [ht]; exact hS.1, hS.2.1⟩⟩, hS.2.2.F ht⟩) hS.2.2.2.2 hd hC.2.2.2.2.2.2
theorem wr_startV {l : Launch} {g : GG} {y : MethodName} {cc : ByteArray} {maxL k mc ms : Nat} {own : String} {av : List Value} {sz : Nat} {ws : va_W} {post : va_W → Prop}  (hy : plainName y.cls = true) (ho : y.cls = own) (hav : (lg_sl av).length ≤ maxL)
    (body : ∀ (p : Program) (e : Env) (s : State) (m : MethodId) (args : Array Value) (below : List Frame) (meth : Method) (c : Code) (ls : Array Slot) (Q : State → Prop) (A : Nat → Prop), Cx p s m args meth c cc maxL (none) own → KW g A s → St g A s.heap s.heap [] ws → meth.name = y.name → lv_has ls maxL (lv_args 0 av) → (∀  (pc : Nat) (ls : Array Slot) (H : Heap) (locs : List Loc) (cells slots : Nat) (w : va_W), decode cc pc = .ok (.return_, 1) → St g A s.heap H locs w → cells ≤ mc → slots ≤ ms → post w → W p l e (rmC k mc ms) s m args below meth c H locs cells slots Q (F0 m pc ls [])) →
      W p l e (rmC k mc ms) s m args below meth c s.heap [] 0 0 Q (F0 m 0 ls [])) : MwrV l g y cc maxL k mc ms  av sz ws post := by
  refine Met.ofW (cc := cc) (maxL := maxL) (ret := none) hy rfl ?_
  intro p e s m args below meth c s₁ B hml hv
  obtain ⟨rfl, hK, rfl, hE, hP, hD⟩ := hv
  have hts := atoms_spec (ws := wsA y cc maxL (none)) B.pre
  have hown : s.vm.findClass own = some m.cls := by rw [← ho]; exact findClass_of_methodNamed B.named
  have hnm := (name_of_methodNamed B.named B.method).1
  have hC : Cx p s m av.toArray meth c cc maxL (none) own := ⟨B.exec, B.bytes, B.returns, hml, hown, fun w hw => hts w (List.mem_cons_of_mem _ hw), B.notSynchronized⟩
  rw [lg_entry_eq]
  refine body p e s m _ below meth c _ _ (va_A ws s.heap.size) hC ⟨hK, hE, fun q h => Or.inr h⟩ ⟨hP, hD.self, va_S.rf⟩ hnm (lv_entry av hav) ?_
  intro  pc ls H locs cells slots w hd hS h1 h2 h3
  refine W.widen h1 h2 ?_
  exact W.vret hC.1 hC.2.1 hC.2.2.1 (fun t ht _ => ⟨⟨w, rfl, h3, ⟨by rw [ht]; exact hS.1, hS.2.1⟩⟩, hS.2.2.F ht⟩) hS.2.2.2.2 hd hC.2.2.2.2.2.2
theorem wr_startQ {l : Launch} {g : GG} {y : MethodName} {cc : ByteArray} {maxL k mc ms : Nat} {own : String} {av : List Value} {sz : Nat} {ws : va_W} {post : Option Nat → va_W → Prop} {cn : String} (hy : plainName y.cls = true) (ho : y.cls = own) (hav : (lg_sl av).length ≤ maxL)
    (body : ∀ (p : Program) (e : Env) (s : State) (m : MethodId) (args : Array Value) (below : List Frame) (meth : Method) (c : Code) (ls : Array Slot) (Q : State → Prop) (A : Nat → Prop), Cx p s m args meth c cc maxL (some (.object cn)) own → KW g A s → St g A s.heap s.heap [] ws → meth.name = y.name → lv_has ls maxL (lv_args 0 av) → (∀ (v : Option Nat) (pc : Nat) (ls : Array Slot) (H : Heap) (locs : List Loc) (cells slots : Nat) (w : va_W), decode cc pc = .ok (.areturn, 1) → St g A s.heap H locs w → cells ≤ mc → slots ≤ ms → post v w → W p l e (rmC k mc ms) s m args below meth c H locs cells slots Q (F0 m pc ls [va_rf v])) →
      W p l e (rmC k mc ms) s m args below meth c s.heap [] 0 0 Q (F0 m 0 ls [])) : MwrQ l g y cc maxL k mc ms (.object cn) av sz ws post := by
  refine Met.ofW (cc := cc) (maxL := maxL) (ret := some (.object cn)) hy rfl ?_
  intro p e s m args below meth c s₁ B hml hv
  obtain ⟨rfl, hK, rfl, hE, hP, hD⟩ := hv
  have hts := atoms_spec (ws := wsA y cc maxL (some (.object cn))) B.pre
  have hown : s.vm.findClass own = some m.cls := by rw [← ho]; exact findClass_of_methodNamed B.named
  have hnm := (name_of_methodNamed B.named B.method).1
  have hC : Cx p s m av.toArray meth c cc maxL (some (.object cn)) own := ⟨B.exec, B.bytes, B.returns, hml, hown, fun w hw => hts w (List.mem_cons_of_mem _ hw), B.notSynchronized⟩
  rw [lg_entry_eq]
  refine body p e s m _ below meth c _ _ (va_A ws s.heap.size) hC ⟨hK, hE, fun q h => Or.inr h⟩ ⟨hP, hD.self, va_S.rf⟩ hnm (lv_entry av hav) ?_
  intro v pc ls H locs cells slots w hd hS h1 h2 h3
  refine W.widen h1 h2 ?_
  exact W.aret hC.1 hC.2.1 hC.2.2.1 (Or.inl ⟨cn, rfl⟩) (va_rf_or v) (fun t ht _ => ⟨⟨v, w, rfl, h3, ⟨by rw [ht]; exact hS.1, hS.2.1⟩⟩, hS.2.2.F ht⟩) hS.2.2.2.2 hd hC.2.2.2.2.2.2
theorem li_put (hC : Cx p s m args meth c cc nL ret own) (hK : KW g A s) (hS : St g A s.heap H locs ws) {C : String} {T : u_T} {N ci : Nat} {ty : Nat → FieldType} (hk : COK ci C T N ty) (q : Nat) {a : Nat} {fs : List Value} (he : ws[q]? = some (a, .inr (ci, fs))) (k : Nat) (hkN : k < N) {ix : Nat} {ref : String} (hlink : Cond.fieldLink own ix ref (T k).2.1 (T k).2.2.1 ∈ allW) (href : (T k).1 = ref) (hfin : (T k).2.2.2 = false) {v : Value} (hn : narrow (ty k) v = v) (hfit : fits (ty k) v = true) (hlen : k < fs.length)  (hw : ws.set q (a, .inr (ci, fs.set k v)) = ws') (hdg : decode cc pc = .ok (.putfield ix, 3)) (kk : ∀ (H1 : Heap) (locs1 : List Loc), St g A s.heap H1 locs1 ws' → W p l e R s m args below meth c H1 locs1 cells slots Q (F0 m (pc + 3) ls (rest))) : W p l e R s m args below meth c H locs cells slots Q (F0 m (pc) ls (v :: .ref a :: rest)) := va_put (ci := ci) hC.1 hC.2.1 hC.2.2.2.2.2.1 hk.2.1 ty hk.2.2.1 hk.2.2.2 hC.2.2.2.2.1 hK.1.1 hS.1 hS.2.1 hS.2.2 q he hk.1 k hkN (hC.2.2.2.2.2.1 _ hlink) (by subst href; exact fun _ h9 => h9) hfin (hk.2.2.1 k hkN) hn hfit hlen hdg (fun H1 locs1 h1 h2 h3 => kk H1 locs1 (by subst hw; exact ⟨h1, h2, h3⟩))
theorem li_iast (hC : Cx p s m args meth c cc nL ret own) (hK : KW g A s) (hS : St g A s.heap H locs ws) (q : Nat) {a n : Nat} {f : Nat → Int} (he : ws[q]? = some (a, .inl (g.2.1 0, n, .inl (aI f)))) {z v : Int} (hz : 0 ≤ z ∧ z < n) (hn : n < 2147483648)  (hw : ws.set q (a, .inl (g.2.1 0, n, .inl (aI (va_up f z.toNat v)))) = ws') (hdg : decode cc pc = .ok (.iastore, 1)) (kk : ∀ (H1 : Heap) (locs1 : List Loc), St g A s.heap H1 locs1 ws' → W p l e R s m args below meth c H1 locs1 cells slots Q (F0 m (pc + 1) ls (rest))) : W p l e R s m args below meth c H locs cells slots Q (F0 m (pc) ls (.int (iI v) :: .int (iI z) :: .ref a :: rest)) := by
  refine va_iast hC.1 hC.2.1 hK.1.1 hS.1 hS.2.1 hS.2.2 q 0 he rfl (iI_in hz hn) hdg (fun H1 locs1 h1 h2 h3 => ?_)
  rw [iI_clamp hz.1 (by omega), aI_upd] at h1 h2
  exact kk H1 locs1 (by subst hw; exact ⟨h1, h2, h3⟩)
theorem li_zast (hC : Cx p s m args meth c cc nL ret own) (hK : KW g A s) (hS : St g A s.heap H locs ws) (q : Nat) {a n : Nat} {f : Nat → Int} (he : ws[q]? = some (a, .inl (g.2.1 1, n, .inl (aI f)))) {z v : Int} (hz : 0 ≤ z ∧ z < n) (hn : n < 2147483648) (h01 : v = 0 ∨ v = 1) (hw : ws.set q (a, .inl (g.2.1 1, n, .inl (aI (va_up f z.toNat v)))) = ws') (hdg : decode cc pc = .ok (.bastore, 1)) (kk : ∀ (H1 : Heap) (locs1 : List Loc), St g A s.heap H1 locs1 ws' → W p l e R s m args below meth c H1 locs1 cells slots Q (F0 m (pc + 1) ls (rest))) : W p l e R s m args below meth c H locs cells slots Q (F0 m (pc) ls (.int (iI v) :: .int (iI z) :: .ref a :: rest)) := by
  refine va_zast hC.1 hC.2.1 hK.1.1 hS.1 hS.2.1 hS.2.2 q 1 he rfl (iI_in hz hn) hdg (fun H1 locs1 h1 h2 h3 => ?_)
  rw [iI_clamp hz.1 (by omega), narZ_01 h01, aI_upd] at h1 h2
  exact kk H1 locs1 (by subst hw; exact ⟨h1, h2, h3⟩)
theorem wr_callVi (hC : Cx p s m args meth c cc nL ret own) {C : String} {b : Nat} {y : MethodName} {bytes : ByteArray} {maxL : Nat} {k mc ms : Nat} {ix n : Nat} {As st0 : List Value} {post : Int32 → va_W → Prop} (hM : MwrI l g y bytes maxL k mc ms (.ref b :: As) H.size ws post) (hy : MOK C y bytes maxL (some .int) n) (hlink : Cond.methodLink own ix y ∈ allW) (hR : RR k R) (hcs : cells + mc ≤ R.cells ∧ slots + ms ≤ R.slots) (hK : KW g A s) (hS : St g A s.heap H locs ws) (hrecv : ∃ cell : Cell, H[b]? = some cell ∧ cell.vm.isStatics = false ∧ s.vm.findClass C = some cell.cls) (hn : As.length = n) (hsz : ls.size = nL) (hst : st0 = As.reverse ++ .ref b :: rest) (hW : (rest.map fun v => v.category).sum ≤ 8) (hdg : decode cc pc = .ok (.invokevirtual ix, 3)) (kk : ∀ (v : Int32) (w : va_W) (H1 : Heap) (locs1 : List Loc), post v w → St g A s.heap H1 locs1 w → W p l e R s m args below meth c H1 locs1 (cells + mc) (slots + ms) Q (F0 m (pc + 3) ls (.int v :: rest))) : W p l e R s m args below meth c H locs cells slots Q (F0 m (pc) ls (st0)) := by
  subst hst
  have hmx := hy.2.2
  have hG : GoodIn allW (wsV own ix C y (wsA y bytes maxL (some .int))) := by
    intro w hw
    simp only [wsV, wsA, List.cons_append, List.nil_append, List.mem_cons] at hw
    rcases hw with rfl | rfl | rfl | rfl | rfl | hw
    · exact ⟨hlink, allW_good _ hlink⟩
    · exact ⟨hy.1.1, allW_good _ hy.1.1⟩
    · exact ⟨hy.1.2.1, allW_good _ hy.1.2.1⟩
    · exact ⟨hy.1.2.2.1, allW_good _ hy.1.2.2.1⟩
    · exact ⟨hy.1.2.2.2, allW_good _ hy.1.2.2.2⟩
    · exact ⟨hw, allW_good _ hw⟩
  refine va_calli (A0 := A) (H0 := s.heap) (post := post) (B := wr_B g H.size ws) (A1 := va_A ws H.size) (va_runV (C := C) (cc := cc) (nL := nL) (Ts := allW) (own := own) (b := b) (As := As) (rest := rest) (index := ix) (n := n) (g := F0 m pc ls (As.reverse ++ .ref b :: rest)) ⟨hC.1, hC.2.1, hC.2.2.2.1, hC.2.2.2.2.1, hC.2.2.2.2.2.1⟩ hM (cwV n hC.2.2.2.2.2.1 hG rfl rfl rfl hy.2.1 ⟨hR.1, by have h2 := hR.2; show 8 + (maxL + 11) + 40 * k ≤ _; omega⟩) ⟨wr_blind, hrecv, fun U hU hW => ⟨rfl, hK.1.warm hW, by rw [hU], by rw [hU]; exact ((hS.env hK).narrow (hS.in hK)).moved hW.alike, by rw [hU]; exact hS.1, hS.2.1.weaken (fun _ _ _ _ => trivial)⟩⟩ rfl hn hsz rfl (lv_room hW) hdg hcs) hS.2.2 (fun q _ h => hS.in hK q h) (hS.in hK) (fun v w t H1 locs1 ht hvm hpost hB hz1 hk1 hS2 => ?_)
  subst ht
  exact kk v w _ locs1 hpost ⟨hB.1, hB.2.weaken (fun _ _ _ h => hS.in hK _ h), hS2⟩
theorem wr_callSi (hC : Cx p s m args meth c cc nL ret own) {y : MethodName} {bytes : ByteArray} {maxL : Nat} {k mc ms : Nat} {ix n : Nat} {As st0 : List Value} {post : Int32 → va_W → Prop} (hM : MwrI l g y bytes maxL k mc ms As H.size ws post) (hy : MOS y bytes maxL (some .int) n) (hlink : Cond.methodLink own ix y ∈ allW) (hR : RR k R) (hcs : cells + mc ≤ R.cells ∧ slots + ms ≤ R.slots) (hK : KW g A s) (hS : St g A s.heap H locs ws)  (hn : As.length = n) (hsz : ls.size = nL) (hst : st0 = As.reverse ++ rest) (hW : (rest.map fun v => v.category).sum ≤ 8) (hdg : decode cc pc = .ok (.invokestatic ix, 3)) (kk : ∀ (v : Int32) (w : va_W) (H1 : Heap) (locs1 : List Loc), post v w → St g A s.heap H1 locs1 w → W p l e R s m args below meth c H1 locs1 (cells + mc) (slots + ms) Q (F0 m (pc + 3) ls (.int v :: rest))) : W p l e R s m args below meth c H locs cells slots Q (F0 m (pc) ls (st0)) := by
  subst hst
  have hmx := hy.2.2
  have hG : GoodIn allW (va_wsS own ix y (wsA y bytes maxL (some .int))) := by
    intro w hw
    simp only [va_wsS, wsA, List.cons_append, List.nil_append, List.mem_cons] at hw
    rcases hw with rfl | rfl | rfl | rfl | hw
    · exact ⟨hlink, allW_good _ hlink⟩
    · exact ⟨hy.1.1, allW_good _ hy.1.1⟩
    · exact ⟨hy.1.2.1, allW_good _ hy.1.2.1⟩
    · exact ⟨hy.1.2.2, allW_good _ hy.1.2.2⟩
    · exact ⟨hw, allW_good _ hw⟩
  refine va_calli (A0 := A) (H0 := s.heap) (post := post) (B := wr_B g H.size ws) (A1 := va_A ws H.size) (va_runS (cc := cc) (nL := nL) (Ts := allW) (own := own) (As := As) (rest := rest) (index := ix) (n := n) (g := F0 m pc ls (As.reverse ++ rest)) ⟨hC.1, hC.2.1, hC.2.2.2.1, hC.2.2.2.2.1, hC.2.2.2.2.2.1⟩ hM (va_cwS n hC.2.2.2.2.2.1 hG rfl rfl rfl hy.2.1 ⟨hR.1, by have h2 := hR.2; show 8 + (maxL + 11) + 40 * k ≤ _; omega⟩) ⟨wr_blind, fun U hU hW => ⟨rfl, hK.1.warm hW, by rw [hU], by rw [hU]; exact ((hS.env hK).narrow (hS.in hK)).moved hW.alike, by rw [hU]; exact hS.1, hS.2.1.weaken (fun _ _ _ _ => trivial)⟩⟩ rfl hn hsz rfl (lv_room hW) hdg hcs) hS.2.2 (fun q _ h => hS.in hK q h) (hS.in hK) (fun v w t H1 locs1 ht hvm hpost hB hz1 hk1 hS2 => ?_)
  subst ht
  exact kk v w _ locs1 hpost ⟨hB.1, hB.2.weaken (fun _ _ _ h => hS.in hK _ h), hS2⟩
theorem wr_callVz (hC : Cx p s m args meth c cc nL ret own) {C : String} {b : Nat} {y : MethodName} {bytes : ByteArray} {maxL : Nat} {k mc ms : Nat} {ix n : Nat} {As st0 : List Value} {post : Int32 → va_W → Prop} (hM : MwrZ l g y bytes maxL k mc ms (.ref b :: As) H.size ws post) (hy : MOK C y bytes maxL (some .boolean) n) (hlink : Cond.methodLink own ix y ∈ allW) (hR : RR k R) (hcs : cells + mc ≤ R.cells ∧ slots + ms ≤ R.slots) (hK : KW g A s) (hS : St g A s.heap H locs ws) (hrecv : ∃ cell : Cell, H[b]? = some cell ∧ cell.vm.isStatics = false ∧ s.vm.findClass C = some cell.cls) (hn : As.length = n) (hsz : ls.size = nL) (hst : st0 = As.reverse ++ .ref b :: rest) (hW : (rest.map fun v => v.category).sum ≤ 8) (hdg : decode cc pc = .ok (.invokevirtual ix, 3)) (kk : ∀ (v : Int32) (w : va_W) (H1 : Heap) (locs1 : List Loc), post v w → St g A s.heap H1 locs1 w → W p l e R s m args below meth c H1 locs1 (cells + mc) (slots + ms) Q (F0 m (pc + 3) ls (.int v :: rest))) : W p l e R s m args below meth c H locs cells slots Q (F0 m (pc) ls (st0)) := by
  subst hst
  have hmx := hy.2.2
  have hG : GoodIn allW (wsV own ix C y (wsA y bytes maxL (some .boolean))) := by
    intro w hw
    simp only [wsV, wsA, List.cons_append, List.nil_append, List.mem_cons] at hw
    rcases hw with rfl | rfl | rfl | rfl | rfl | hw
    · exact ⟨hlink, allW_good _ hlink⟩
    · exact ⟨hy.1.1, allW_good _ hy.1.1⟩
    · exact ⟨hy.1.2.1, allW_good _ hy.1.2.1⟩
    · exact ⟨hy.1.2.2.1, allW_good _ hy.1.2.2.1⟩
    · exact ⟨hy.1.2.2.2, allW_good _ hy.1.2.2.2⟩
    · exact ⟨hw, allW_good _ hw⟩
  refine va_calli (A0 := A) (H0 := s.heap) (post := post) (B := wr_B g H.size ws) (A1 := va_A ws H.size) (va_runV (C := C) (cc := cc) (nL := nL) (Ts := allW) (own := own) (b := b) (As := As) (rest := rest) (index := ix) (n := n) (g := F0 m pc ls (As.reverse ++ .ref b :: rest)) ⟨hC.1, hC.2.1, hC.2.2.2.1, hC.2.2.2.2.1, hC.2.2.2.2.2.1⟩ hM (cwV n hC.2.2.2.2.2.1 hG rfl rfl rfl hy.2.1 ⟨hR.1, by have h2 := hR.2; show 8 + (maxL + 11) + 40 * k ≤ _; omega⟩) ⟨wr_blind, hrecv, fun U hU hW => ⟨rfl, hK.1.warm hW, by rw [hU], by rw [hU]; exact ((hS.env hK).narrow (hS.in hK)).moved hW.alike, by rw [hU]; exact hS.1, hS.2.1.weaken (fun _ _ _ _ => trivial)⟩⟩ rfl hn hsz rfl (lv_room hW) hdg hcs) hS.2.2 (fun q _ h => hS.in hK q h) (hS.in hK) (fun v w t H1 locs1 ht hvm hpost hB hz1 hk1 hS2 => ?_)
  subst ht
  exact kk v w _ locs1 hpost ⟨hB.1, hB.2.weaken (fun _ _ _ h => hS.in hK _ h), hS2⟩
theorem wr_callSz (hC : Cx p s m args meth c cc nL ret own) {y : MethodName} {bytes : ByteArray} {maxL : Nat} {k mc ms : Nat} {ix n : Nat} {As st0 : List Value} {post : Int32 → va_W → Prop} (hM : MwrZ l g y bytes maxL k mc ms As H.size ws post) (hy : MOS y bytes maxL (some .boolean) n) (hlink : Cond.methodLink own ix y ∈ allW) (hR : RR k R) (hcs : cells + mc ≤ R.cells ∧ slots + ms ≤ R.slots) (hK : KW g A s) (hS : St g A s.heap H locs ws)  (hn : As.length = n) (hsz : ls.size = nL) (hst : st0 = As.reverse ++ rest) (hW : (rest.map fun v => v.category).sum ≤ 8) (hdg : decode cc pc = .ok (.invokestatic ix, 3)) (kk : ∀ (v : Int32) (w : va_W) (H1 : Heap) (locs1 : List Loc), post v w → St g A s.heap H1 locs1 w → W p l e R s m args below meth c H1 locs1 (cells + mc) (slots + ms) Q (F0 m (pc + 3) ls (.int v :: rest))) : W p l e R s m args below meth c H locs cells slots Q (F0 m (pc) ls (st0)) := by
  subst hst
  have hmx := hy.2.2
  have hG : GoodIn allW (va_wsS own ix y (wsA y bytes maxL (some .boolean))) := by
    intro w hw
    simp only [va_wsS, wsA, List.cons_append, List.nil_append, List.mem_cons] at hw
    rcases hw with rfl | rfl | rfl | rfl | hw
    · exact ⟨hlink, allW_good _ hlink⟩
    · exact ⟨hy.1.1, allW_good _ hy.1.1⟩
    · exact ⟨hy.1.2.1, allW_good _ hy.1.2.1⟩
    · exact ⟨hy.1.2.2, allW_good _ hy.1.2.2⟩
    · exact ⟨hw, allW_good _ hw⟩
  refine va_calli (A0 := A) (H0 := s.heap) (post := post) (B := wr_B g H.size ws) (A1 := va_A ws H.size) (va_runS (cc := cc) (nL := nL) (Ts := allW) (own := own) (As := As) (rest := rest) (index := ix) (n := n) (g := F0 m pc ls (As.reverse ++ rest)) ⟨hC.1, hC.2.1, hC.2.2.2.1, hC.2.2.2.2.1, hC.2.2.2.2.2.1⟩ hM (va_cwS n hC.2.2.2.2.2.1 hG rfl rfl rfl hy.2.1 ⟨hR.1, by have h2 := hR.2; show 8 + (maxL + 11) + 40 * k ≤ _; omega⟩) ⟨wr_blind, fun U hU hW => ⟨rfl, hK.1.warm hW, by rw [hU], by rw [hU]; exact ((hS.env hK).narrow (hS.in hK)).moved hW.alike, by rw [hU]; exact hS.1, hS.2.1.weaken (fun _ _ _ _ => trivial)⟩⟩ rfl hn hsz rfl (lv_room hW) hdg hcs) hS.2.2 (fun q _ h => hS.in hK q h) (hS.in hK) (fun v w t H1 locs1 ht hvm hpost hB hz1 hk1 hS2 => ?_)
  subst ht
  exact kk v w _ locs1 hpost ⟨hB.1, hB.2.weaken (fun _ _ _ h => hS.in hK _ h), hS2⟩
theorem wr_callVl (hC : Cx p s m args meth c cc nL ret own) {C : String} {b : Nat} {y : MethodName} {bytes : ByteArray} {maxL : Nat} {k mc ms : Nat} {ix n : Nat} {As st0 : List Value} {post : Int64 → va_W → Prop} (hM : MwrJ l g y bytes maxL k mc ms (.ref b :: As) H.size ws post) (hy : MOK C y bytes maxL (some .long) n) (hlink : Cond.methodLink own ix y ∈ allW) (hR : RR k R) (hcs : cells + mc ≤ R.cells ∧ slots + ms ≤ R.slots) (hK : KW g A s) (hS : St g A s.heap H locs ws) (hrecv : ∃ cell : Cell, H[b]? = some cell ∧ cell.vm.isStatics = false ∧ s.vm.findClass C = some cell.cls) (hn : As.length = n) (hsz : ls.size = nL) (hst : st0 = As.reverse ++ .ref b :: rest) (hW : (rest.map fun v => v.category).sum ≤ 8) (hdg : decode cc pc = .ok (.invokevirtual ix, 3)) (kk : ∀ (v : Int64) (w : va_W) (H1 : Heap) (locs1 : List Loc), post v w → St g A s.heap H1 locs1 w → W p l e R s m args below meth c H1 locs1 (cells + mc) (slots + ms) Q (F0 m (pc + 3) ls (.long v :: rest))) : W p l e R s m args below meth c H locs cells slots Q (F0 m (pc) ls (st0)) := by
  subst hst
  have hmx := hy.2.2
  have hG : GoodIn allW (wsV own ix C y (wsA y bytes maxL (some .long))) := by
    intro w hw
    simp only [wsV, wsA, List.cons_append, List.nil_append, List.mem_cons] at hw
    rcases hw with rfl | rfl | rfl | rfl | rfl | hw
    · exact ⟨hlink, allW_good _ hlink⟩
    · exact ⟨hy.1.1, allW_good _ hy.1.1⟩
    · exact ⟨hy.1.2.1, allW_good _ hy.1.2.1⟩
    · exact ⟨hy.1.2.2.1, allW_good _ hy.1.2.2.1⟩
    · exact ⟨hy.1.2.2.2, allW_good _ hy.1.2.2.2⟩
    · exact ⟨hw, allW_good _ hw⟩
  refine va_calll (A0 := A) (H0 := s.heap) (post := post) (B := wr_B g H.size ws) (A1 := va_A ws H.size) (va_runV (C := C) (cc := cc) (nL := nL) (Ts := allW) (own := own) (b := b) (As := As) (rest := rest) (index := ix) (n := n) (g := F0 m pc ls (As.reverse ++ .ref b :: rest)) ⟨hC.1, hC.2.1, hC.2.2.2.1, hC.2.2.2.2.1, hC.2.2.2.2.2.1⟩ hM (cwV n hC.2.2.2.2.2.1 hG rfl rfl rfl hy.2.1 ⟨hR.1, by have h2 := hR.2; show 8 + (maxL + 11) + 40 * k ≤ _; omega⟩) ⟨wr_blind, hrecv, fun U hU hW => ⟨rfl, hK.1.warm hW, by rw [hU], by rw [hU]; exact ((hS.env hK).narrow (hS.in hK)).moved hW.alike, by rw [hU]; exact hS.1, hS.2.1.weaken (fun _ _ _ _ => trivial)⟩⟩ rfl hn hsz rfl (lv_room hW) hdg hcs) hS.2.2 (fun q _ h => hS.in hK q h) (hS.in hK) (fun v w t H1 locs1 ht hvm hpost hB hz1 hk1 hS2 => ?_)
  subst ht
  exact kk v w _ locs1 hpost ⟨hB.1, hB.2.weaken (fun _ _ _ h => hS.in hK _ h), hS2⟩
theorem wr_callSl (hC : Cx p s m args meth c cc nL ret own) {y : MethodName} {bytes : ByteArray} {maxL : Nat} {k mc ms : Nat} {ix n : Nat} {As st0 : List Value} {post : Int64 → va_W → Prop} (hM : MwrJ l g y bytes maxL k mc ms As H.size ws post) (hy : MOS y bytes maxL (some .long) n) (hlink : Cond.methodLink own ix y ∈ allW) (hR : RR k R) (hcs : cells + mc ≤ R.cells ∧ slots + ms ≤ R.slots) (hK : KW g A s) (hS : St g A s.heap H locs ws)  (hn : As.length = n) (hsz : ls.size = nL) (hst : st0 = As.reverse ++ rest) (hW : (rest.map fun v => v.category).sum ≤ 8) (hdg : decode cc pc = .ok (.invokestatic ix, 3)) (kk : ∀ (v : Int64) (w : va_W) (H1 : Heap) (locs1 : List Loc), post v w → St g A s.heap H1 locs1 w → W p l e R s m args below meth c H1 locs1 (cells + mc) (slots + ms) Q (F0 m (pc + 3) ls (.long v :: rest))) : W p l e R s m args below meth c H locs cells slots Q (F0 m (pc) ls (st0)) := by
  subst hst
  have hmx := hy.2.2
  have hG : GoodIn allW (va_wsS own ix y (wsA y bytes maxL (some .long))) := by
    intro w hw
    simp only [va_wsS, wsA, List.cons_append, List.nil_append, List.mem_cons] at hw
    rcases hw with rfl | rfl | rfl | rfl | hw
    · exact ⟨hlink, allW_good _ hlink⟩
    · exact ⟨hy.1.1, allW_good _ hy.1.1⟩
    · exact ⟨hy.1.2.1, allW_good _ hy.1.2.1⟩
    · exact ⟨hy.1.2.2, allW_good _ hy.1.2.2⟩
    · exact ⟨hw, allW_good _ hw⟩
  refine va_calll (A0 := A) (H0 := s.heap) (post := post) (B := wr_B g H.size ws) (A1 := va_A ws H.size) (va_runS (cc := cc) (nL := nL) (Ts := allW) (own := own) (As := As) (rest := rest) (index := ix) (n := n) (g := F0 m pc ls (As.reverse ++ rest)) ⟨hC.1, hC.2.1, hC.2.2.2.1, hC.2.2.2.2.1, hC.2.2.2.2.2.1⟩ hM (va_cwS n hC.2.2.2.2.2.1 hG rfl rfl rfl hy.2.1 ⟨hR.1, by have h2 := hR.2; show 8 + (maxL + 11) + 40 * k ≤ _; omega⟩) ⟨wr_blind, fun U hU hW => ⟨rfl, hK.1.warm hW, by rw [hU], by rw [hU]; exact ((hS.env hK).narrow (hS.in hK)).moved hW.alike, by rw [hU]; exact hS.1, hS.2.1.weaken (fun _ _ _ _ => trivial)⟩⟩ rfl hn hsz rfl (lv_room hW) hdg hcs) hS.2.2 (fun q _ h => hS.in hK q h) (hS.in hK) (fun v w t H1 locs1 ht hvm hpost hB hz1 hk1 hS2 => ?_)
  subst ht
  exact kk v w _ locs1 hpost ⟨hB.1, hB.2.weaken (fun _ _ _ h => hS.in hK _ h), hS2⟩
theorem wr_callVv (hC : Cx p s m args meth c cc nL ret own) {C : String} {b : Nat} {y : MethodName} {bytes : ByteArray} {maxL : Nat} {k mc ms : Nat} {ix n : Nat} {As st0 : List Value} {post : va_W → Prop} (hM : MwrV l g y bytes maxL k mc ms (.ref b :: As) H.size ws post) (hy : MOK C y bytes maxL (none) n) (hlink : Cond.methodLink own ix y ∈ allW) (hR : RR k R) (hcs : cells + mc ≤ R.cells ∧ slots + ms ≤ R.slots) (hK : KW g A s) (hS : St g A s.heap H locs ws) (hrecv : ∃ cell : Cell, H[b]? = some cell ∧ cell.vm.isStatics = false ∧ s.vm.findClass C = some cell.cls) (hn : As.length = n) (hsz : ls.size = nL) (hst : st0 = As.reverse ++ .ref b :: rest) (hW : (rest.map fun v => v.category).sum ≤ 8) (hdg : decode cc pc = .ok (.invokevirtual ix, 3)) (kk : ∀ (w : va_W) (H1 : Heap) (locs1 : List Loc), post w → St g A s.heap H1 locs1 w → W p l e R s m args below meth c H1 locs1 (cells + mc) (slots + ms) Q (F0 m (pc + 3) ls (rest))) : W p l e R s m args below meth c H locs cells slots Q (F0 m (pc) ls (st0)) := by
  subst hst
  have hmx := hy.2.2
  have hG : GoodIn allW (wsV own ix C y (wsA y bytes maxL (none))) := by
    intro w hw
    simp only [wsV, wsA, List.cons_append, List.nil_append, List.mem_cons] at hw
    rcases hw with rfl | rfl | rfl | rfl | rfl | hw
    · exact ⟨hlink, allW_good _ hlink⟩
    · exact ⟨hy.1.1, allW_good _ hy.1.1⟩
    · exact ⟨hy.1.2.1, allW_good _ hy.1.2.1⟩
    · exact ⟨hy.1.2.2.1, allW_good _ hy.1.2.2.1⟩
    · exact ⟨hy.1.2.2.2, allW_good _ hy.1.2.2.2⟩
    · exact ⟨hw, allW_good _ hw⟩
  refine va_callv (A0 := A) (H0 := s.heap) (post := post) (B := wr_B g H.size ws) (A1 := va_A ws H.size) (va_runV (C := C) (cc := cc) (nL := nL) (Ts := allW) (own := own) (b := b) (As := As) (rest := rest) (index := ix) (n := n) (g := F0 m pc ls (As.reverse ++ .ref b :: rest)) ⟨hC.1, hC.2.1, hC.2.2.2.1, hC.2.2.2.2.1, hC.2.2.2.2.2.1⟩ hM (cwV n hC.2.2.2.2.2.1 hG rfl rfl rfl hy.2.1 ⟨hR.1, by have h2 := hR.2; show 8 + (maxL + 11) + 40 * k ≤ _; omega⟩) ⟨wr_blind, hrecv, fun U hU hW => ⟨rfl, hK.1.warm hW, by rw [hU], by rw [hU]; exact ((hS.env hK).narrow (hS.in hK)).moved hW.alike, by rw [hU]; exact hS.1, hS.2.1.weaken (fun _ _ _ _ => trivial)⟩⟩ rfl hn hsz rfl (lv_room hW) hdg hcs) hS.2.2 (fun q _ h => hS.in hK q h) (hS.in hK) (fun w t H1 locs1 ht hvm hpost hB hz1 hk1 hS2 => ?_)
  subst ht
  exact kk w _ locs1 hpost ⟨hB.1, hB.2.weaken (fun _ _ _ h => hS.in hK _ h), hS2⟩
theorem wr_callSv (hC : Cx p s m args meth c cc nL ret own) {y : MethodName} {bytes : ByteArray} {maxL : Nat} {k mc ms : Nat} {ix n : Nat} {As st0 : List Value} {post : va_W → Prop} (hM : MwrV l g y bytes maxL k mc ms As H.size ws post) (hy : MOS y bytes maxL (none) n) (hlink : Cond.methodLink own ix y ∈ allW) (hR : RR k R) (hcs : cells + mc ≤ R.cells ∧ slots + ms ≤ R.slots) (hK : KW g A s) (hS : St g A s.heap H locs ws)  (hn : As.length = n) (hsz : ls.size = nL) (hst : st0 = As.reverse ++ rest) (hW : (rest.map fun v => v.category).sum ≤ 8) (hdg : decode cc pc = .ok (.invokestatic ix, 3)) (kk : ∀ (w : va_W) (H1 : Heap) (locs1 : List Loc), post w → St g A s.heap H1 locs1 w → W p l e R s m args below meth c H1 locs1 (cells + mc) (slots + ms) Q (F0 m (pc + 3) ls (rest))) : W p l e R s m args below meth c H locs cells slots Q (F0 m (pc) ls (st0)) := by
  subst hst
  have hmx := hy.2.2
  have hG : GoodIn allW (va_wsS own ix y (wsA y bytes maxL (none))) := by
    intro w hw
    simp only [va_wsS, wsA, List.cons_append, List.nil_append, List.mem_cons] at hw
    rcases hw with rfl | rfl | rfl | rfl | hw
    · exact ⟨hlink, allW_good _ hlink⟩
    · exact ⟨hy.1.1, allW_good _ hy.1.1⟩
    · exact ⟨hy.1.2.1, allW_good _ hy.1.2.1⟩
    · exact ⟨hy.1.2.2, allW_good _ hy.1.2.2⟩
    · exact ⟨hw, allW_good _ hw⟩
  refine va_callv (A0 := A) (H0 := s.heap) (post := post) (B := wr_B g H.size ws) (A1 := va_A ws H.size) (va_runS (cc := cc) (nL := nL) (Ts := allW) (own := own) (As := As) (rest := rest) (index := ix) (n := n) (g := F0 m pc ls (As.reverse ++ rest)) ⟨hC.1, hC.2.1, hC.2.2.2.1, hC.2.2.2.2.1, hC.2.2.2.2.2.1⟩ hM (va_cwS n hC.2.2.2.2.2.1 hG rfl rfl rfl hy.2.1 ⟨hR.1, by have h2 := hR.2; show 8 + (maxL + 11) + 40 * k ≤ _; omega⟩) ⟨wr_blind, fun U hU hW => ⟨rfl, hK.1.warm hW, by rw [hU], by rw [hU]; exact ((hS.env hK).narrow (hS.in hK)).moved hW.alike, by rw [hU]; exact hS.1, hS.2.1.weaken (fun _ _ _ _ => trivial)⟩⟩ rfl hn hsz rfl (lv_room hW) hdg hcs) hS.2.2 (fun q _ h => hS.in hK q h) (hS.in hK) (fun w t H1 locs1 ht hvm hpost hB hz1 hk1 hS2 => ?_)
  subst ht
  exact kk w _ locs1 hpost ⟨hB.1, hB.2.weaken (fun _ _ _ h => hS.in hK _ h), hS2⟩
theorem wr_callIv (hC : Cx p s m args meth c cc nL ret own) {b : Nat} {y : MethodName} {bytes : ByteArray} {maxL : Nat} {k mc ms : Nat} {ix n : Nat} {As st0 : List Value} {post : va_W → Prop} (hM : MwrV l g y bytes maxL k mc ms (.ref b :: As) H.size ws post) (hy : (Cond.instanceMethod y ∈ allW ∧ Cond.initialized y.cls ∈ allW ∧ Cond.code y bytes maxL none ∈ allW) ∧ (y.cls ≠ "java/lang/invoke/MethodHandle" ∧ y.cls ≠ "java/lang/invoke/VarHandle" ∧ (parseMethodDescriptor y.desc).map (fun d => d.parameters.length) = some n) ∧ maxL ≤ 21) (hyn : y.name = "<init>") (hlink : Cond.methodLink own ix y ∈ allW) (hR : RR k R) (hcs : cells + mc ≤ R.cells ∧ slots + ms ≤ R.slots) (hK : KW g A s) (hS : St g A s.heap H locs ws)  (hn : As.length = n) (hsz : ls.size = nL) (hst : st0 = As.reverse ++ .ref b :: rest) (hW : (rest.map fun v => v.category).sum ≤ 8) (hdg : decode cc pc = .ok (.invokespecial ix, 3)) (kk : ∀ (w : va_W) (H1 : Heap) (locs1 : List Loc), post w → St g A s.heap H1 locs1 w → W p l e R s m args below meth c H1 locs1 (cells + mc) (slots + ms) Q (F0 m (pc + 3) ls (rest))) : W p l e R s m args below meth c H locs cells slots Q (F0 m (pc) ls (st0)) := by
  subst hst
  have hmx := hy.2.2
  have hG : GoodIn allW (wsA y bytes maxL (none)) := by
    intro w hw
    simp only [wsA, List.mem_cons] at hw
    rcases hw with rfl | hw
    · exact ⟨hy.1.2.2, allW_good _ hy.1.2.2⟩
    · exact ⟨hw, allW_good _ hw⟩
  refine va_callv (A0 := A) (H0 := s.heap) (post := post) (B := wr_B g H.size ws) (A1 := va_A ws H.size) (va_runI (cc := cc) (nL := nL) (Ts := allW) (own := own) (b := b) (As := As) (rest := rest) (index := ix) (n := n) (g := F0 m pc ls (As.reverse ++ .ref b :: rest)) ⟨hC.1, hC.2.1, hC.2.2.2.1, hC.2.2.2.2.1, hC.2.2.2.2.2.1⟩ hM (cwI n hC.2.2.2.2.2.1 hG rfl rfl rfl (hC.2.2.2.2.2.1 _ hy.1.2.1) (hC.2.2.2.2.2.1 _ hlink) (hC.2.2.2.2.2.1 _ hy.1.1) hyn hy.2.1 ⟨hR.1, by have h2 := hR.2; show 8 + (maxL + 11) + 40 * k ≤ _; omega⟩) ⟨wr_blind, fun U hU hW => ⟨rfl, hK.1.warm hW, by rw [hU], by rw [hU]; exact ((hS.env hK).narrow (hS.in hK)).moved hW.alike, by rw [hU]; exact hS.1, hS.2.1.weaken (fun _ _ _ _ => trivial)⟩⟩ rfl hn hsz rfl (lv_room hW) hdg hcs) hS.2.2 (fun q _ h => hS.in hK q h) (hS.in hK) (fun w t H1 locs1 ht hvm hpost hB hz1 hk1 hS2 => ?_)
  subst ht
  exact kk w _ locs1 hpost ⟨hB.1, hB.2.weaken (fun _ _ _ h => hS.in hK _ h), hS2⟩
theorem wr_callVq (hC : Cx p s m args meth c cc nL ret own) {C : String} {b : Nat} {y : MethodName} {bytes : ByteArray} {maxL : Nat} {k mc ms : Nat} {ix n : Nat} {As st0 : List Value} {rt : FieldType} {post : Option Nat → va_W → Prop} (hM : MwrQ l g y bytes maxL k mc ms rt (.ref b :: As) H.size ws post) (hy : MOK C y bytes maxL (some rt) n) (hlink : Cond.methodLink own ix y ∈ allW) (hR : RR k R) (hcs : cells + mc ≤ R.cells ∧ slots + ms ≤ R.slots) (hK : KW g A s) (hS : St g A s.heap H locs ws) (hrecv : ∃ cell : Cell, H[b]? = some cell ∧ cell.vm.isStatics = false ∧ s.vm.findClass C = some cell.cls) (hn : As.length = n) (hsz : ls.size = nL) (hst : st0 = As.reverse ++ .ref b :: rest) (hW : (rest.map fun v => v.category).sum ≤ 8) (hdg : decode cc pc = .ok (.invokevirtual ix, 3)) (kk : ∀ (v : Option Nat) (w : va_W) (H1 : Heap) (locs1 : List Loc), post v w → St g A s.heap H1 locs1 w → W p l e R s m args below meth c H1 locs1 (cells + mc) (slots + ms) Q (F0 m (pc + 3) ls (va_rf v :: rest))) : W p l e R s m args below meth c H locs cells slots Q (F0 m (pc) ls (st0)) := by
  subst hst
  have hmx := hy.2.2
  have hG : GoodIn allW (wsV own ix C y (wsA y bytes maxL (some rt))) := by
    intro w hw
    simp only [wsV, wsA, List.cons_append, List.nil_append, List.mem_cons] at hw
    rcases hw with rfl | rfl | rfl | rfl | rfl | hw
    · exact ⟨hlink, allW_good _ hlink⟩
    · exact ⟨hy.1.1, allW_good _ hy.1.1⟩
    · exact ⟨hy.1.2.1, allW_good _ hy.1.2.1⟩
    · exact ⟨hy.1.2.2.1, allW_good _ hy.1.2.2.1⟩
    · exact ⟨hy.1.2.2.2, allW_good _ hy.1.2.2.2⟩
    · exact ⟨hw, allW_good _ hw⟩
  refine va_callq (A0 := A) (H0 := s.heap) (post := post) (B := wr_B g H.size ws) (A1 := va_A ws H.size) (va_runV (C := C) (cc := cc) (nL := nL) (Ts := allW) (own := own) (b := b) (As := As) (rest := rest) (index := ix) (n := n) (g := F0 m pc ls (As.reverse ++ .ref b :: rest)) ⟨hC.1, hC.2.1, hC.2.2.2.1, hC.2.2.2.2.1, hC.2.2.2.2.2.1⟩ hM (cwV n hC.2.2.2.2.2.1 hG rfl rfl rfl hy.2.1 ⟨hR.1, by have h2 := hR.2; show 8 + (maxL + 11) + 40 * k ≤ _; omega⟩) ⟨wr_blind, hrecv, fun U hU hW => ⟨rfl, hK.1.warm hW, by rw [hU], by rw [hU]; exact ((hS.env hK).narrow (hS.in hK)).moved hW.alike, by rw [hU]; exact hS.1, hS.2.1.weaken (fun _ _ _ _ => trivial)⟩⟩ rfl hn hsz rfl (lv_room hW) hdg hcs) hS.2.2 (fun q _ h => hS.in hK q h) (hS.in hK) (fun v w t H1 locs1 ht hvm hpost hB hz1 hk1 hS2 => ?_)
  subst ht
  exact kk v w _ locs1 hpost ⟨hB.1, hB.2.weaken (fun _ _ _ h => hS.in hK _ h), hS2⟩
theorem wr_callSq (hC : Cx p s m args meth c cc nL ret own) {y : MethodName} {bytes : ByteArray} {maxL : Nat} {k mc ms : Nat} {ix n : Nat} {As st0 : List Value} {rt : FieldType} {post : Option Nat → va_W → Prop} (hM : MwrQ l g y bytes maxL k mc ms rt As H.size ws post) (hy : MOS y bytes maxL (some rt) n) (hlink : Cond.methodLink own ix y ∈ allW) (hR : RR k R) (hcs : cells + mc ≤ R.cells ∧ slots + ms ≤ R.slots) (hK : KW g A s) (hS : St g A s.heap H locs ws)  (hn : As.length = n) (hsz : ls.size = nL) (hst : st0 = As.reverse ++ rest) (hW : (rest.map fun v => v.category).sum ≤ 8) (hdg : decode cc pc = .ok (.invokestatic ix, 3)) (kk : ∀ (v : Option Nat) (w : va_W) (H1 : Heap) (locs1 : List Loc), post v w → St g A s.heap H1 locs1 w → W p l e R s m args below meth c H1 locs1 (cells + mc) (slots + ms) Q (F0 m (pc + 3) ls (va_rf v :: rest))) : W p l e R s m args below meth c H locs cells slots Q (F0 m (pc) ls (st0)) := by
  subst hst
  have hmx := hy.2.2
  have hG : GoodIn allW (va_wsS own ix y (wsA y bytes maxL (some rt))) := by
    intro w hw
    simp only [va_wsS, wsA, List.cons_append, List.nil_append, List.mem_cons] at hw
    rcases hw with rfl | rfl | rfl | rfl | hw
    · exact ⟨hlink, allW_good _ hlink⟩
    · exact ⟨hy.1.1, allW_good _ hy.1.1⟩
    · exact ⟨hy.1.2.1, allW_good _ hy.1.2.1⟩
    · exact ⟨hy.1.2.2, allW_good _ hy.1.2.2⟩
    · exact ⟨hw, allW_good _ hw⟩
  refine va_callq (A0 := A) (H0 := s.heap) (post := post) (B := wr_B g H.size ws) (A1 := va_A ws H.size) (va_runS (cc := cc) (nL := nL) (Ts := allW) (own := own) (As := As) (rest := rest) (index := ix) (n := n) (g := F0 m pc ls (As.reverse ++ rest)) ⟨hC.1, hC.2.1, hC.2.2.2.1, hC.2.2.2.2.1, hC.2.2.2.2.2.1⟩ hM (va_cwS n hC.2.2.2.2.2.1 hG rfl rfl rfl hy.2.1 ⟨hR.1, by have h2 := hR.2; show 8 + (maxL + 11) + 40 * k ≤ _; omega⟩) ⟨wr_blind, fun U hU hW => ⟨rfl, hK.1.warm hW, by rw [hU], by rw [hU]; exact ((hS.env hK).narrow (hS.in hK)).moved hW.alike, by rw [hU]; exact hS.1, hS.2.1.weaken (fun _ _ _ _ => trivial)⟩⟩ rfl hn hsz rfl (lv_room hW) hdg hcs) hS.2.2 (fun q _ h => hS.in hK q h) (hS.in hK) (fun v w t H1 locs1 ht hvm hpost hB hz1 hk1 hS2 => ?_)
  subst ht
  exact kk v w _ locs1 hpost ⟨hB.1, hB.2.weaken (fun _ _ _ h => hS.in hK _ h), hS2⟩
end R4
