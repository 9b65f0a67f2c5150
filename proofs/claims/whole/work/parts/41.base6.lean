section R7
variable {p : Program} {l : Launch} {e : Env} {R : Room} {s : State} {m : MethodId} {args : Array Value} {below : List Frame} {meth : Method} {c : Code} {H : Heap} {locs : List Loc} {cells slots : Nat} {Q : State → Prop}
variable {cc : ByteArray} {nL : Nat} {ret : Option FieldType} {own : String} {pc : Nat} {ls : Array Slot} {rest : List Value} {g : GG} {A : Nat → Prop} {ws ws' : va_W}
theorem li_newaI (hC : Cx p s m args meth c cc nL ret own) (hK : KW g A s) (hS : St g A s.heap H locs ws) {z : Int} {N : Nat} (hz : z = (N : Int)) (hN : N ≤ 1000) (hcells : cells + 1 ≤ R.cells) (hslots : slots + N ≤ R.slots) (hdg : decode cc pc = .ok (.newarray .int, 2))
    (kk : ∀ (q : Nat) (H1 : Heap), St g A s.heap H1 locs (ws ++ [(q, .inl (g.2.1 0, N, .inl (aI (fun _ => 0))))]) → W p l e R s m args below meth c H1 locs (cells + 1) (slots + N) Q (F0 m (pc + 2) ls (.ref q :: rest))) : W p l e R s m args below meth c H locs cells slots Q (F0 m pc ls (.int (iI z) :: rest)) := by
  subst hz
  have hn0 : ¬ iI (N : Int) < 0 := by
    have q := iI_lt (a := (N : Int)) (b := 0) ⟨by omega, by omega⟩ rng_0
    rw [iI_0] at q
    exact fun h => absurd (q.mp h) (by omega)
  refine va_newa (atype := .int) hC.1 hC.2.1 (hC.2.2.2.2.2.1 _ ac_int) (ty := .int) rfl hK.1.1 hS.1 hS.2.1 hS.2.2 hK.2.2 (a0 := (N, .inl (aI (fun _ => 0)))) (fun cA => ?_) hn0 (by rw [iI_clamp (by omega) (by omega)]; omega) (by show N * 4 ≤ _; omega) hcells hslots hdg (fun q cA H1 hK1 h1 h2 h3 => ?_)
  · rw [vp_cell_i]
    rfl
  · have e1 : s.vm.findClass ("[" ++ FieldType.toString .int) = some cA := (hK1.2 3 (cA, .int) rfl).2
    have e2 : s.vm.findClass ("[" ++ FieldType.toString .int) = some (g.2.1 0) := (hK.1.1.2 0 (g.2.1 0, .int) rfl).2
    have e : cA = g.2.1 0 := Option.some.inj (e1.symm.trans e2)
    subst e
    exact kk q H1 ⟨h1, h2, h3⟩
theorem li_newaZ (hC : Cx p s m args meth c cc nL ret own) (hK : KW g A s) (hS : St g A s.heap H locs ws) {z : Int} {N : Nat} (hz : z = (N : Int)) (hN : N ≤ 1000) (hcells : cells + 1 ≤ R.cells) (hslots : slots + N ≤ R.slots) (hdg : decode cc pc = .ok (.newarray .boolean, 2))
    (kk : ∀ (q : Nat) (H1 : Heap), St g A s.heap H1 locs (ws ++ [(q, .inl (g.2.1 1, N, .inl (aI (fun _ => 0))))]) → W p l e R s m args below meth c H1 locs (cells + 1) (slots + N) Q (F0 m (pc + 2) ls (.ref q :: rest))) : W p l e R s m args below meth c H locs cells slots Q (F0 m pc ls (.int (iI z) :: rest)) := by
  subst hz
  have hn0 : ¬ iI (N : Int) < 0 := by
    have q := iI_lt (a := (N : Int)) (b := 0) ⟨by omega, by omega⟩ rng_0
    rw [iI_0] at q
    exact fun h => absurd (q.mp h) (by omega)
  refine va_newa (atype := .boolean) hC.1 hC.2.1 (hC.2.2.2.2.2.1 _ ac_boolean) (ty := .boolean) rfl hK.1.1 hS.1 hS.2.1 hS.2.2 hK.2.2 (a0 := (N, .inl (aI (fun _ => 0)))) (fun cA => ?_) hn0 (by rw [iI_clamp (by omega) (by omega)]; omega) (by show N * 1 ≤ _; omega) hcells hslots hdg (fun q cA H1 hK1 h1 h2 h3 => ?_)
  · rw [vp_cell_i]
    rfl
  · have e1 : s.vm.findClass ("[" ++ FieldType.toString .boolean) = some cA := (hK1.2 3 (cA, .boolean) rfl).2
    have e2 : s.vm.findClass ("[" ++ FieldType.toString .boolean) = some (g.2.1 1) := (hK.1.1.2 1 (g.2.1 1, .boolean) rfl).2
    have e : cA = g.2.1 1 := Option.some.inj (e1.symm.trans e2)
    subst e
    exact kk q H1 ⟨h1, h2, h3⟩
theorem li_objInit (hC : Cx p s m args meth c cc nL ret own) {ix a : Nat} (hlink : Cond.methodLink own ix Lib.objectInit ∈ allW) (hsz : ls.size = nL) (hW : (rest.map fun v => v.category).sum ≤ 8) (hR : 1 ≤ R.frames ∧ 20 ≤ R.locals) (hdg : decode cc pc = .ok (.invokespecial ix, 3)) (kk : W p l e R s m args below meth c H locs cells slots Q (F0 m (pc + 3) ls rest)) : W p l e R s m args below meth c H locs cells slots Q (F0 m pc ls (.ref a :: rest)) :=
  W.objInit hC.1 hC.2.1 hC.2.2.2.2.1 (hC.2.2.2.2.2.1 _ hlink) (hC.2.2.2.2.2.1 _ oi_i) (hC.2.2.2.2.2.1 _ oi_c) rfl (hsz.trans hC.2.2.2.1.symm) rfl hdg hR.1 (by show 2 * 0 + _ + 12 ≤ _; omega) kk
theorem li_new (hC : Cx p s m args meth c cc nL ret own) (hK : KW g A s) (hS : St g A s.heap H locs ws) {C : String} {T : u_T} {N ci ix : Nat} {ty : Nat → FieldType} (hk : COK ci C T N ty) (hcl : Cond.classLink own ix C ∈ allW) (hit : Cond.instantiable C N ∈ allW) (hini : Cond.initialized C ∈ allW) {fs : List Value} (hfs : ∀ j, j < N → defaultValue (ty j) = vp_V fs j) (hcells : cells + 1 ≤ R.cells) (hslots : slots + N ≤ R.slots) (hdg : decode cc pc = .ok (.new ix, 3))
    (kk : ∀ (q : Nat) (H1 : Heap), St g A s.heap H1 locs (ws ++ [(q, .inr (ci, fs))]) → W p l e R s m args below meth c H1 locs (cells + 1) (slots + N) Q (F0 m (pc + 3) ls (.ref q :: rest))) : W p l e R s m args below meth c H locs cells slots Q (F0 m pc ls rest) :=
  va_new hC.1 hC.2.1 hC.2.2.2.2.2.1 hk.2.1 ty hk.2.2.1 hC.2.2.2.2.1 (hC.2.2.2.2.2.1 _ hcl) (hC.2.2.2.2.2.1 _ hit) (hC.2.2.2.2.2.1 _ hini) hK.1.1 hS.1 hS.2.1 hS.2.2 hK.2.2 hk.1 hfs hcells hslots hdg (fun q H1 h1 h2 h3 => kk q H1 ⟨h1, h2, h3⟩)
theorem li_putF (hC : Cx p s m args meth c cc nL ret own) (hK : KW g A s) (hS : St g A s.heap H locs ws) {C : String} {T : u_T} {N ci : Nat} {ty : Nat → FieldType} (hk : COK ci C T N ty) (q : Nat) {a : Nat} {fs : List Value} (he : ws[q]? = some (a, .inr (ci, fs))) (k : Nat) (hkN : k < N) {ix : Nat} {ref : String} (hlink : Cond.fieldLink own ix ref (T k).2.1 (T k).2.2.1 ∈ allW) (href : (T k).1 = ref) (hfin : (T k).2.2.2 = true) {v : Value} (hn : narrow (ty k) v = v) (hfit : fits (ty k) v = true) (hlen : k < fs.length) (hin : meth.name = "<init>") (hdecl : (T k).1 = own) (hw : ws.set q (a, .inr (ci, fs.set k v)) = ws') (hdg : decode cc pc = .ok (.putfield ix, 3)) (kk : ∀ (H1 : Heap) (locs1 : List Loc), St g A s.heap H1 locs1 ws' → W p l e R s m args below meth c H1 locs1 cells slots Q (F0 m (pc + 3) ls (rest))) : W p l e R s m args below meth c H locs cells slots Q (F0 m (pc) ls (v :: .ref a :: rest)) := va_putF (ci := ci) hC.1 hC.2.1 hC.2.2.2.2.2.1 hk.2.1 ty hk.2.2.1 hk.2.2.2 hC.2.2.2.2.1 hK.1.1 hS.1 hS.2.1 hS.2.2 q he hk.1 k hkN (hC.2.2.2.2.2.1 _ hlink) (by subst href; exact fun _ h9 => h9) hfin hin hdecl (hk.2.2.1 k hkN) hn hfit hlen hdg (fun H1 locs1 h1 h2 h3 => kk H1 locs1 (by subst hw; exact ⟨h1, h2, h3⟩))
end R7
