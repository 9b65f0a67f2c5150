/-! WORDS AND CONTEXTS -/
def allW : List Cond := lw_tbl.filter goodWord
theorem memA {w : Cond} (i : Nat) (h : tables_1[i]? = some w) (hg : goodWord w = true) : w ∈ allW :=
  List.mem_filter.mpr ⟨List.mem_append_right _ (List.mem_of_getElem? h), hg⟩
theorem memS {y : MethodName} {n : Nat} (i : Nat) (h : lw_privs[i]? = some (y, n)) (hg : goodWord (Cond.selects y.cls y y) = true) : Cond.selects y.cls y y ∈ allW :=
  List.mem_filter.mpr ⟨List.mem_append_left _ (List.mem_map.mpr ⟨(y, n), List.mem_of_getElem? h, rfl⟩), hg⟩
theorem allW_good : ∀ w ∈ allW, ((w.onTables && w.keeps) = true ∨ ∃ ty, w = .arrayClass ty) := fun _ h => good_of_word (List.mem_filter.mp h).2
theorem allW_tbl : ∀ w ∈ allW, w ∈ lw_tbl := fun _ h => (List.mem_filter.mp h).1
def wsA (y : MethodName) (cc : ByteArray) (nL : Nat) (ret : Option FieldType) : List Cond := .code y cc nL ret :: allW
abbrev GG : Type := va_G × (Nat → Nat) × (Nat → Nat) × (Nat → Nat)
abbrev cyI (g : GG) : ClassId := g.2.1 0
abbrev cyZ (g : GG) : ClassId := g.2.1 1
abbrev cyO (g : GG) : ClassId := g.2.1 2
abbrev tys3 (g : GG) : List (ClassId × FieldType) := [(g.2.1 0, .int), (g.2.1 1, .boolean), (g.2.1 2, .object "java/lang/Object")]
def nestW : List Cond := [.methodLinkNest "NamesNoTouch" 22 ⟨"NamesNoTouch$Sheet", "<init>", "()V"⟩ "NamesNoTouch", .methodLinkNest "NamesNoTouch$Sheet" 136 ⟨"NamesNoTouch", "hasBit", "(II)Z"⟩ "NamesNoTouch", .methodLinkNest "NamesNoTouch$Search" 130 ⟨"NamesNoTouch", "hasBit", "(II)Z"⟩ "NamesNoTouch"]
def ncL : List (String × String) := [("NamesNoTouch$Name", "NamesNoTouch$Large"), ("NamesNoTouch$Name", "NamesNoTouch$Coastal"), ("NamesNoTouch$Name", "NamesNoTouch$Shy"), ("NamesNoTouch$Name", "NamesNoTouch$City"), ("NamesNoTouch$Name", "NamesNoTouch$Harbour"), ("NamesNoTouch$Name", "NamesNoTouch$Told"), ("NamesNoTouch$Large", "NamesNoTouch$Coastal"), ("NamesNoTouch$Large", "NamesNoTouch$Shy"), ("NamesNoTouch$Large", "NamesNoTouch$City"), ("NamesNoTouch$Large", "NamesNoTouch$Harbour"), ("NamesNoTouch$Large", "NamesNoTouch$Told"), ("NamesNoTouch$Coastal", "NamesNoTouch$Large"), ("NamesNoTouch$Coastal", "NamesNoTouch$Shy"), ("NamesNoTouch$Coastal", "NamesNoTouch$City"), ("NamesNoTouch$Coastal", "NamesNoTouch$Harbour"), ("NamesNoTouch$Coastal", "NamesNoTouch$Told"), ("NamesNoTouch$Shy", "NamesNoTouch$Large"), ("NamesNoTouch$Shy", "NamesNoTouch$Coastal"), ("NamesNoTouch$Shy", "NamesNoTouch$City"), ("NamesNoTouch$Shy", "NamesNoTouch$Harbour"), ("NamesNoTouch$Shy", "NamesNoTouch$Told"), ("NamesNoTouch$City", "NamesNoTouch$Coastal"), ("NamesNoTouch$City", "NamesNoTouch$Shy"), ("NamesNoTouch$City", "NamesNoTouch$Harbour"), ("NamesNoTouch$City", "NamesNoTouch$Told"), ("NamesNoTouch$Harbour", "NamesNoTouch$Large"), ("NamesNoTouch$Harbour", "NamesNoTouch$Shy"), ("NamesNoTouch$Harbour", "NamesNoTouch$City"), ("NamesNoTouch$Harbour", "NamesNoTouch$Told"), ("NamesNoTouch$Told", "NamesNoTouch$Large"), ("NamesNoTouch$Told", "NamesNoTouch$Coastal"), ("NamesNoTouch$Told", "NamesNoTouch$City"), ("NamesNoTouch$Told", "NamesNoTouch$Harbour")]
/-- who is not of a kind -/
def ncP (U : State) : Prop := ∀ q ∈ ncL, va_Nc q.1 q.2 U
def caL : List (String × String) := [("NamesNoTouch$City", "NamesNoTouch$Name"), ("NamesNoTouch$Coastal", "NamesNoTouch$Name"), ("NamesNoTouch$Harbour", "NamesNoTouch$Name"), ("NamesNoTouch$Large", "NamesNoTouch$Name"), ("NamesNoTouch$Shy", "NamesNoTouch$Name"), ("NamesNoTouch$Told", "NamesNoTouch$Name"), ("NamesNoTouch$City", "NamesNoTouch$Large"), ("NamesNoTouch$Harbour", "NamesNoTouch$Coastal"), ("NamesNoTouch$Told", "NamesNoTouch$Shy"), ("NamesNoTouch$City", "java/lang/Object"), ("NamesNoTouch$Coastal", "java/lang/Object"), ("NamesNoTouch$Harbour", "java/lang/Object"), ("NamesNoTouch$Large", "java/lang/Object"), ("NamesNoTouch$Shy", "java/lang/Object"), ("NamesNoTouch$Told", "java/lang/Object"), ("NamesNoTouch$Name", "java/lang/Object")]
/-- who is of a kind, too -/
def caP (U : State) : Prop := va_AO "java/lang/Object" U ∧ ∀ q ∈ caL, va_Nw (.castable q.1 q.2) U
def nestP (U : State) : Prop := va_Nw (.methodLinkNest "NamesNoTouch" 22 ⟨"NamesNoTouch$Sheet", "<init>", "()V"⟩ "NamesNoTouch") U ∧ va_Nw (.methodLinkNest "NamesNoTouch$Sheet" 136 ⟨"NamesNoTouch", "hasBit", "(II)Z"⟩ "NamesNoTouch") U ∧ va_Nw (.methodLinkNest "NamesNoTouch$Search" 130 ⟨"NamesNoTouch", "hasBit", "(II)Z"⟩ "NamesNoTouch") U ∧ ncP U ∧ caP U
/-- the texts: 0 love, 1 bore, 2 wide, 3 river, 4 nkvpxl, 5 <=> -/
def sLen : List Nat := [5, 5, 5, 6, 6, 3]
def sByt : List (List Int32) := [[108, 111, 118, 101, 32], [98, 111, 114, 101, 32], [119, 105, 100, 101, 32], [114, 105, 118, 101, 114, 32], [110, 107, 118, 112, 120, 108], [60, 61, 62]]
def strP (g : GG) (U : State) : Prop :=
  (vk_R "NamesNoTouch$Reader" 55 "love " (g.2.2.1 0) U ∧ vk_R "NamesNoTouch$Reader" 57 "bore " (g.2.2.1 1) U ∧ vk_R "NamesNoTouch$Reader" 75 "wide " (g.2.2.1 2) U ∧ vk_R "NamesNoTouch$Reader" 77 "river " (g.2.2.1 3) U ∧ vk_R "NamesNoTouch$Reader" 100 "nkvpxl" (g.2.2.1 4) U ∧ vk_R "NamesNoTouch$Reader" 106 "<=>" (g.2.2.1 5) U) ∧
  (vk_R "NamesNoTouchModel" 128 "love " (g.2.2.1 0) U ∧ vk_R "NamesNoTouchModel" 133 "bore " (g.2.2.1 1) U ∧ vk_R "NamesNoTouchModel" 120 "wide " (g.2.2.1 2) U ∧ vk_R "NamesNoTouchModel" 126 "river " (g.2.2.1 3) U ∧ vk_R "NamesNoTouchModel" 102 "nkvpxl" (g.2.2.1 4) U ∧ vk_R "NamesNoTouchModel" 108 "<=>" (g.2.2.1 5) U)
/-- what the machine knows of the classes -/
def KU (g : GG) (U : State) : Prop := va_K g.1 vwCl (tys3 g) U ∧ nestP U ∧ strP g U
/-- what lies outside: statics, texts -/
def EnvG (g : GG) (A : Nat → Prop) (U : State) (H : Heap) : Prop :=
  va_Z "java/util/ArrayList" "DEFAULTCAPACITY_EMPTY_ELEMENTDATA" "[Ljava/lang/Object;" (.ref (g.2.1 3)) A U H ∧
  va_T (.object "java/lang/Object") (g.2.1 3) 0 (fun _ => .null) A U H ∧
  va_Z "java/lang/String" "COMPACT_STRINGS" "Z" (.int 1) A U H ∧
  va_Zq "jdk/internal/util/Preconditions" "SIOOBE_FORMATTER" "Ljava/util/function/BiFunction;" A U H ∧
  vk_S 6 sLen sByt g.2.2.1 g.2.2.2 A U H
theorem EnvG.moved {g : GG} {A : Nat → Prop} {u U : State} {H : Heap} (hvm : u.vm.Alike U.vm) (h : EnvG g A u H) : EnvG g A U H :=
  ⟨h.1.moved hvm, h.2.1.moved hvm, h.2.2.1.moved hvm, h.2.2.2.1.moved hvm, h.2.2.2.2.moved hvm⟩
theorem EnvG.kept {g : GG} {A : Nat → Prop} {U : State} {H H1 : Heap} (h : EnvG g A U H) (hq : ∀ a : Nat, a < H.size → ¬ A a → H1[a]? = H[a]?) : EnvG g A U H1 :=
  ⟨h.1.kept hq, h.2.1.kept hq, h.2.2.1.kept hq, h.2.2.2.1.kept hq, h.2.2.2.2.kept hq⟩
theorem EnvG.narrow {g : GG} {A B : Nat → Prop} {U : State} {H : Heap} (h : EnvG g A U H) (hAB : ∀ q, B q → A q) : EnvG g B U H :=
  ⟨h.1.narrow hAB, h.2.1.narrow hAB, h.2.2.1.narrow hAB, h.2.2.2.1.narrow hAB, h.2.2.2.2.narrow hAB⟩
theorem strP.warm {g : GG} {s U : State} (hW : s.WarmedH U.vm) (h : strP g s) : strP g U := by
  obtain ⟨⟨a0, a1, a2, a3, a4, a5⟩, b0, b1, b2, b3, b4, b5⟩ := h
  exact ⟨⟨a0.warm hW, a1.warm hW, a2.warm hW, a3.warm hW, a4.warm hW, a5.warm hW⟩, b0.warm hW, b1.warm hW, b2.warm hW, b3.warm hW, b4.warm hW, b5.warm hW⟩
theorem strP.same {g : GG} {u U : State} (hv : U.vm = u.vm) (h : strP g u) : strP g U := by
  obtain ⟨⟨a0, a1, a2, a3, a4, a5⟩, b0, b1, b2, b3, b4, b5⟩ := h
  exact ⟨⟨a0.same hv, a1.same hv, a2.same hv, a3.same hv, a4.same hv, a5.same hv⟩, b0.same hv, b1.same hv, b2.same hv, b3.same hv, b4.same hv, b5.same hv⟩
theorem nestP.warm {s U : State} (hW : s.WarmedH U.vm) (h : nestP s) : nestP U := ⟨va_Nw.warmM hW h.1, va_Nw.warmM hW h.2.1, va_Nw.warmM hW h.2.2.1, fun q hq => va_Nc.moved hW.alike (h.2.2.2.1 q hq), va_AO.moved hW.alike h.2.2.2.2.1, fun q hq => va_Nw.warmC hW (h.2.2.2.2.2 q hq)⟩
theorem nestP.same {u U : State} (hv : u.vm = U.vm) (h : nestP u) : nestP U := ⟨va_Nw.same rfl hv h.1, va_Nw.same rfl hv h.2.1, va_Nw.same rfl hv h.2.2.1, fun q hq => va_Nc.moved (u := u) (U := U) (by rw [hv]; exact Vm.Alike.refl U.vm) (h.2.2.2.1 q hq), va_AO.moved (u := u) (U := U) (by rw [hv]; exact Vm.Alike.refl U.vm) h.2.2.2.2.1, fun q hq => va_Nw.same rfl hv (h.2.2.2.2.2 q hq)⟩
theorem KU.warm {g : GG} {s U : State} (hW : s.WarmedH U.vm) (h : KU g s) : KU g U := ⟨va_K.moved hW.alike h.1, nestP.warm hW h.2.1, strP.warm hW h.2.2⟩
theorem KU.same {g : GG} {u U : State} (hv : u.vm = U.vm) (h : KU g u) : KU g U := by
  refine ⟨va_K.moved (u := u) (U := U) (by rw [hv]; exact Vm.Alike.refl U.vm) h.1, nestP.same hv h.2.1, strP.same hv.symm h.2.2⟩
abbrev NoA : Nat → Prop := fun _ => False
/-- what a method that only reads asks: classes, statics, a picture of the heap -/
def ro_P (g : GG) (av : List Value) (Pic : Heap → Prop) : Array Value → State → Prop := va_Pc av (fun U => KU g U ∧ EnvG g NoA U U.heap ∧ Pic U.heap)
theorem ro_blind {g : GG} {av : List Value} {Pic : Heap → Prop} : FrameBlind (ro_P g av Pic) := by
  intro a U gf mk h
  obtain ⟨h1, h2, h3, h4⟩ := h
  exact ⟨h1, KU.same (u := U) (U := U.calling gf mk a) rfl h2, EnvG.moved (u := U) (U := U.calling gf mk a) (Vm.Alike.refl U.vm) h3, h4⟩
/-- what a method that writes asks -/
def wr_P (g : GG) (av : List Value) (sz : Nat) (ws : va_W) : Array Value → State → Prop := va_Pc av (fun U => KU g U ∧ U.heap.size = sz ∧ EnvG g (va_A ws sz) U U.heap ∧ va_P g.1 vwCl ws U.heap ∧ va_D (fun _ => True) ws)
theorem wr_blind {g : GG} {av : List Value} {sz : Nat} {ws : va_W} : FrameBlind (wr_P g av sz ws) := by
  intro a U gf mk h
  obtain ⟨h1, h2, h3, h4, h5, h6⟩ := h
  exact ⟨h1, KU.same (u := U) (U := U.calling gf mk a) rfl h2, h3, EnvG.moved (u := U) (U := U.calling gf mk a) (Vm.Alike.refl U.vm) h4, h5, h6⟩
def wr_B (g : GG) (sz : Nat) (ws : va_W) : va_W → State → Prop := fun w t => va_P g.1 vwCl w t.heap ∧ va_D (va_A ws sz) w
def rmC (k c n : Nat) : Room := { frames := k, cells := c, slots := n, locals := 40 * k }
abbrev rmL (k : Nat) : Room := rmC k 0 0
def RR (k : Nat) (R : Room) : Prop := k + 1 ≤ R.frames ∧ 40 * k + 40 ≤ R.locals
theorem rr {k k' a b : Nat} (h : k + 1 ≤ k') : RR k (rmC k' a b) := ⟨h, by show 40 * k + 40 ≤ 40 * k'; omega⟩
/-- a method of a class of ours: its words -/
def MOK (C : String) (y : MethodName) (bytes : ByteArray) (maxL : Nat) (rt : Option FieldType) (n : Nat) : Prop :=
  (Cond.instanceMethod y ∈ allW ∧ Cond.selects C y y ∈ allW ∧ Cond.initialized C ∈ allW ∧ Cond.code y bytes maxL rt ∈ allW) ∧ (y.cls = C ∧ y.cls ≠ "java/lang/invoke/MethodHandle" ∧ y.cls ≠ "java/lang/invoke/VarHandle" ∧ (parseMethodDescriptor y.desc).map (fun d => d.parameters.length) = some n) ∧ maxL ≤ 21
def MOS (y : MethodName) (bytes : ByteArray) (maxL : Nat) (rt : Option FieldType) (n : Nat) : Prop :=
  (Cond.static y ∈ allW ∧ Cond.initialized y.cls ∈ allW ∧ Cond.code y bytes maxL rt ∈ allW) ∧ (y.cls ≠ "java/lang/invoke/MethodHandle" ∧ y.cls ≠ "java/lang/invoke/VarHandle" ∧ (parseMethodDescriptor y.desc).map (fun d => d.parameters.length) = some n) ∧ maxL ≤ 21
/-- a class of ours: its place, its fields' words, types, names -/
def COK (ci : Nat) (C : String) (T : u_T) (N : Nat) (ty : Nat → FieldType) : Prop := vwCl[ci]? = some (C, T, N) ∧ (∀ w ∈ u_ws C T N, w ∈ allW) ∧ (∀ k, k < N → parseFieldDescriptor (T k).2.2.1 = some (ty k)) ∧ (∀ a, a < N → ∀ b, b < N → a ≠ b → (T a).2.1 ≠ (T b).2.1)
/-- where a method stands: machine, code, class, words -/
def Cx (p : Program) (s : State) (m : MethodId) (args : Array Value) (meth : Method) (c : Code) (cc : ByteArray) (nL : Nat) (ret : Option FieldType) (own : String) : Prop := p.tables.exec = Jvm.exec ∧ c.code = cc ∧ meth.sig.returnType = ret ∧ c.maxLocals = nL ∧ s.vm.findClass own = some m.cls ∧ (∀ w ∈ allW, w.before args s = true) ∧ meth.locks = false
theorem P1 {g : GG} {q : Nat × va_E} {H : Heap} (h : va_at g.1 vwCl q H) : va_P g.1 vwCl [q] H := by
  intro k r hk
  match k, hk with
  | 0, hk => cases hk; exact h
  | k + 1, hk => simp at hk
theorem li_recv {g : GG} {s : State} {H : Heap} {a ci : Nat} {fs : List Value} {C : String} {T : u_T} {N : Nat} {ty : Nat → FieldType} (hK : KU g s) (hk : COK ci C T N ty) (ho : va_at g.1 vwCl (a, .inr (ci, fs)) H) : ∃ cell : Cell, H[a]? = some cell ∧ cell.vm.isStatics = false ∧ s.vm.findClass C = some cell.cls :=
  va_recv (q := (C, T, N)) (q0 := 0) hK.1 (P1 ho) hk.1 rfl
theorem ro_entry {l : Launch} {g : GG} {y : MethodName} {cc : ByteArray} {maxL : Nat} {ret : Option FieldType} {own : String} {rm : Room} {av : List Value} {Pic : Heap → Prop} {Qc : Array Value → State → Outcome → State → Prop}
    (hy : plainName y.cls = true) (ho : y.cls = own) (hav : (lg_sl av).length ≤ maxL)
    (body : ∀ (p : Program) (e : Jvm.Env) (s : State) (m : MethodId) (args : Array Value) (below : List Frame) (meth : Method) (c : Code) (ls : Array Slot), Cx p s m args meth c cc maxL ret own → KU g s → EnvG g NoA s s.heap → Pic s.heap → lv_has ls maxL (lv_args 0 av) →
      W p l e rm s m args below meth c s.heap [] 0 0 (MQ below Qc args s 0 0 (fun _ => False)) (F0 m 0 ls [])) :
    Met l y (wsA y cc maxL ret) rm (ro_P g av Pic) Qc 0 0 (fun _ => False) := by
  refine Met.ofW (cc := cc) (maxL := maxL) (ret := ret) hy rfl ?_
  intro p e s m args below meth c s₁ B hml hv
  obtain ⟨rfl, hK, hE, hP⟩ := hv
  have hts := atoms_spec (ws := wsA y cc maxL ret) B.pre
  have hown : s.vm.findClass own = some m.cls := by rw [← ho]; exact findClass_of_methodNamed B.named
  rw [lg_entry_eq]
  exact body p e s m _ below meth c _ ⟨B.exec, B.bytes, B.returns, hml, hown, fun w hw => hts w (List.mem_cons_of_mem _ hw), B.notSynchronized⟩ hK hE hP (lv_entry av hav)
