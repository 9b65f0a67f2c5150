def ro_Sv : Array Value → State → Outcome → State → Prop := fun _ st o t => o = .returned none ∧ t.heap = st.heap
abbrev MroV (l : Launch) (g : GG) (y : MethodName) (cc : ByteArray) (nL k : Nat) (av : List Value) (Pic : Heap → Prop) : Prop := Met l y (wsA y cc nL none) (rmL k) (ro_P g av Pic) ro_Sv 0 0 (fun _ => False)
abbrev MroN (l : Launch) (g : GG) (y : MethodName) (cc : ByteArray) (nL k : Nat) (ty : FieldType) (av : List Value) (Pic : Heap → Prop) (v : Int32) : Prop := Met l y (wsA y cc nL (some ty)) (rmL k) (ro_P g av Pic) (vp_Si (fun r => r = v)) 0 0 (fun _ => False)
/-- a text's bytes -/
def chS (i : Nat) (k : Nat) : Int := ((sByt.getD i []).getD k 0).toInt
theorem chS_ok : ∀ i, i < 6 → ∀ k, k < sLen.getD i 0 → (0 ≤ chS i k ∧ chS i k ≤ 127) ∧ (sByt.getD i []).getD k 0 = iI (chS i k) := by decide +kernel
theorem sLen_ok : ∀ i, i < 6 → sLen.getD i 0 < 7 := by decide +kernel
theorem nar_c : ∀ z : Nat, z < 128 → narrow .char (.int (iI (z : Int))) = .int (iI (z : Int)) := by decide +kernel
theorem i2c_c : ∀ z : Nat, z < 128 → (iand (z : Int) 255 = (z : Int)) ∧ ((iI (z : Int)).toUInt32 % 65536).toInt32 = iI (z : Int) := by decide +kernel
theorem and255 {z : Int} (h : 0 ≤ z ∧ z ≤ 127) : iand z 255 = z := by
  have q := (i2c_c z.toNat (by omega)).1
  rw [Int.toNat_of_nonneg h.1] at q
  exact q
theorem narc {z : Int} (h : 0 ≤ z ∧ z ≤ 127) : narrow .char (.int (iI z)) = .int (iI z) := by
  have q := nar_c z.toNat (by omega)
  rw [Int.toNat_of_nonneg h.1] at q
  exact q
section R6
variable {p : Program} {l : Launch} {e : Env} {R : Room} {s : State} {m : MethodId} {args : Array Value} {below : List Frame} {meth : Method} {c : Code} {H : Heap} {locs : List Loc} {cells slots : Nat} {Q : State → Prop}
variable {cc : ByteArray} {nL : Nat} {ret : Option FieldType} {own : String} {pc : Nat} {ls : Array Slot} {rest st0 : List Value} {g : GG} {A : Nat → Prop} {ws ws' : va_W} {a : Array Value}
theorem ro_csv (hr : CallRun p l e R s m args below meth c H locs cells slots 0 0 (F0 m pc ls st0) rest (ro_Sv a) (fun _ => False))
    (kk : W p l e R s m args below meth c H locs cells slots Q (F0 m (pc + 3) ls rest)) : W p l e R s m args below meth c H locs cells slots Q (F0 m pc ls st0) := by
  intro T hT X
  obtain ⟨v, st₀, t, T', L, h0, X', hL, e1, ⟨hv, hh⟩, st⟩ := hr T hT X
  cases hv
  obtain ⟨t2, a1, b1⟩ := kk T' (by rw [e1, hh, h0]) (Stand.forget X' (fun q h => (hL q h).elim))
  exact ⟨t2, st t2 a1, b1⟩
theorem ro_callSv (hC : Cx p s m args meth c cc nL ret own) {y : MethodName} {bytes : ByteArray} {maxL : Nat} {rt : Option FieldType} {k : Nat} {Pic : Heap → Prop} {ix n : Nat} {As st0 : List Value} (hM : Met l y (wsA y bytes maxL rt) (rmL k) (ro_P g As Pic) ro_Sv 0 0 (fun _ => False)) (hy : MOS y bytes maxL rt n) (hlink : Cond.methodLink own ix y ∈ allW) (hR : RR k R) (hcs : cells ≤ R.cells ∧ slots ≤ R.slots) (hK : KU g s) (hE : EnvG g NoA s H) (hPic : Pic H) (hn : As.length = n) (hsz : ls.size = nL) (hst : st0 = As.reverse ++ rest) (hW : (rest.map fun v => v.category).sum ≤ 8) (hdg : decode cc pc = .ok (.invokestatic ix, 3)) (kk : W p l e R s m args below meth c H locs cells slots Q (F0 m (pc + 3) ls rest)) : W p l e R s m args below meth c H locs cells slots Q (F0 m (pc) ls (st0)) := by
  subst hst
  have hG : GoodIn allW (va_wsS own ix y (wsA y bytes maxL rt)) := by
    intro w hw
    simp only [va_wsS, wsA, List.cons_append, List.nil_append, List.mem_cons] at hw
    rcases hw with rfl | rfl | rfl | rfl | hw
    · exact ⟨hlink, allW_good _ hlink⟩
    · exact ⟨hy.1.1, allW_good _ hy.1.1⟩
    · exact ⟨hy.1.2.1, allW_good _ hy.1.2.1⟩
    · exact ⟨hy.1.2.2, allW_good _ hy.1.2.2⟩
    · exact ⟨hw, allW_good _ hw⟩
  have hmx := hy.2.2
  refine ro_csv (W.runS (cc := cc) (nL := nL) (Ts := allW) (own := own) (As := As) (rest := rest) (index := ix) (n := n) (g := F0 m pc ls (As.reverse ++ rest)) ⟨hC.1, hC.2.1, hC.2.2.2.1, hC.2.2.2.2.1, hC.2.2.2.2.2.1⟩ hM (va_cwS n hC.2.2.2.2.2.1 hG rfl rfl rfl hy.2.1 ⟨hR.1, by have h2 := hR.2; show 8 + (maxL + 11) + 40 * k ≤ _; omega⟩) ⟨ro_blind, fun U hU hW => ⟨rfl, hK.warm hW, by rw [hU]; exact hE.moved hW.alike, by rw [hU]; exact hPic⟩⟩ rfl hn hsz rfl (lv_room hW) hdg hcs) kk

theorem ro_vret (hC : Cx p s m args meth c cc nL none own) (hdg : decode cc pc = .ok (.return_, 1)) : W p l e R s m args below meth c s.heap [] 0 0 (MQ below ro_Sv args s 0 0 (fun _ => False)) (F0 m pc ls []) := W.vret hC.1 hC.2.1 hC.2.2.1 (fun t ht _ => ⟨rfl, ht⟩) (fun _ h => by cases h) hdg hC.2.2.2.2.2.2
theorem ro_nret {ty : FieldType} (hC : Cx p s m args meth c cc nL (some ty) own) {post : Int32 → Prop} {v : Int32} (hn : narrow ty (.int v) = .int v) (hp : post v) (hdg : decode cc pc = .ok (.ireturn, 1)) : W p l e R s m args below meth c s.heap [] 0 0 (MQ below (vp_Si post) args s 0 0 (fun _ => False)) (F0 m pc ls [.int v]) := W.zret hC.1 hC.2.1 hC.2.2.1 hn (fun t ht _ => ⟨v, rfl, hp, ht⟩) (fun _ h => by cases h) hdg hC.2.2.2.2.2.2
theorem li_gets (hC : Cx p s m args meth c cc nL ret own) {C n d ref : String} {v : Value} {ix : Nat} (hZ : va_Z C n d v A s s.heap) (hS : va_S A s.heap H locs) (hlink : Cond.fieldLink own ix ref n d ∈ allW) (href : C = ref) (hdg : decode cc pc = .ok (.getstatic ix, 3)) (kk : W p l e R s m args below meth c H locs cells slots Q (F0 m (pc + 3) ls (v :: rest))) : W p l e R s m args below meth c H locs cells slots Q (F0 m pc ls rest) :=
  va_gets hC.1 hC.2.1 hZ hS hC.2.2.2.2.1 (hC.2.2.2.2.2.1 _ hlink) (by subst href; exact fun _ h => h) hdg kk
theorem li_getof (hC : Cx p s m args meth c cc nL ret own) {o n d ref : String} {v : Value} {q ix : Nat} (hE : va_OF o n d v q A s s.heap) (hS : va_S A s.heap H locs) (hlink : Cond.fieldLink own ix ref n d ∈ allW) (href : o = ref) (hdg : decode cc pc = .ok (.getfield ix, 3)) (kk : W p l e R s m args below meth c H locs cells slots Q (F0 m (pc + 3) ls (v :: rest))) : W p l e R s m args below meth c H locs cells slots Q (F0 m pc ls (.ref q :: rest)) :=
  vk_getf hC.1 hC.2.1 hE hS hC.2.2.2.2.1 (hC.2.2.2.2.2.1 _ hlink) (by subst href; exact fun _ h => h) hdg kk
theorem li_tlen (hC : Cx p s m args meth c cc nL ret own) {ty : FieldType} {t N : Nat} {f : Nat → Value} (hT : va_T ty t N f A s s.heap) (hS : va_S A s.heap H locs) (hdg : decode cc pc = .ok (.arraylength, 1)) (kk : W p l e R s m args below meth c H locs cells slots Q (F0 m (pc + 1) ls (.int (iI (N : Int)) :: rest))) : W p l e R s m args below meth c H locs cells slots Q (F0 m pc ls (.ref t :: rest)) :=
  va_tlen hC.1 hC.2.1 hT hS (iI_nat N).symm hdg kk
theorem li_tb (hC : Cx p s m args meth c cc nL ret own) {t N : Nat} {f : Nat → Value} (hT : va_T .byte t N f A s s.heap) (hS : va_S A s.heap H locs) {z : Int} (hz : 0 ≤ z ∧ z < N) (hN : N < 2147483648) {v : Value} (hv : f z.toNat = v) (hdg : decode cc pc = .ok (.baload, 1)) (kk : W p l e R s m args below meth c H locs cells slots Q (F0 m (pc + 1) ls (v :: rest))) : W p l e R s m args below meth c H locs cells slots Q (F0 m pc ls (.int (iI z) :: .ref t :: rest)) :=
  va_tb hC.1 hC.2.1 hT hS (iI_in hz hN) (by rw [iI_clamp hz.1 (by omega)]; exact hv) hdg kk
theorem li_ldcS (hC : Cx p s m args meth c cc nL ret own) {tx : String} {ix q : Nat} (hZ : vk_R own ix tx q s) (hdg : decode cc pc = .ok (.ldc ix, 2)) (kk : W p l e R s m args below meth c H locs cells slots Q (F0 m (pc + 2) ls (.ref q :: rest))) : W p l e R s m args below meth c H locs cells slots Q (F0 m pc ls rest) :=
  va_ldcS hC.1 hC.2.1 hC.2.2.2.2.1 hZ hdg kk
theorem li_i2c (hC : Cx p s m args meth c cc nL ret own) {z : Int} (hz : 0 ≤ z ∧ z ≤ 127) (hdg : decode cc pc = .ok (.i2c, 1)) (kk : W p l e R s m args below meth c H locs cells slots Q (F0 m (pc + 1) ls (.int (iI z) :: rest))) : W p l e R s m args below meth c H locs cells slots Q (F0 m pc ls (.int (iI z) :: rest)) :=
  lv_i2c hC.1 hC.2.1 hdg (by
    have q := (i2c_c z.toNat (by omega)).2
    rw [Int.toNat_of_nonneg hz.1] at q
    exact q) kk
/-- any value that is a reference or null, loaded -/
theorem li_aloadV (hC : Cx p s m args meth c cc nL ret own) {lv : List (Nat × Value)} (hl : lv_has ls nL lv) {i : Fin 4} {v : Value} (j : Nat) (h : lv[j]? = some ((i : Nat), v)) (hv : v = .null ∨ ∃ t : Nat, v = .ref t) (hdg : decode cc pc = .ok (.aload_n i, 1)) (kk : W p l e R s m args below meth c H locs cells slots Q (F0 m (pc + 1) ls (v :: rest))) : W p l e R s m args below meth c H locs cells slots Q (F0 m pc ls rest) := by
  rcases hv with rfl | ⟨t, rfl⟩
  · exact li_aload_nN hC hl j h hdg kk
  · exact li_aload_n hC hl j h hdg kk
theorem str_recv {i : Nat} (hE : EnvG g A s s.heap) (hi : i < 6) (hS : va_S A s.heap H locs) : ∃ cell : Cell, H[g.2.2.1 i]? = some cell ∧ cell.vm.isStatics = false ∧ s.vm.findClass "java/lang/String" = some cell.cls := vk_recv hE.2.2.2.2 hi hS
end R6
