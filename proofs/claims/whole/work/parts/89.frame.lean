/-! THE LAW: what the frame of a call is -/
theorem st_P {g : GG} {A : Nat → Prop} {H0 H : Heap} {locs : List Loc} {ws : va_W} (h : St g A H0 H locs ws) : va_P g.1 vwCl ws H := h.1
theorem app_l {w1 w2 : va_W} {k : Nat} {q : Nat × va_E} (h : w1[k]? = some q) : (w1 ++ w2)[k]? = some q := by
  rw [List.getElem?_append_left (List.getElem?_eq_some_iff.mp h).1]
  exact h
theorem app_r {w1 w2 : va_W} {k : Nat} {q : Nat × va_E} (h : w2[k]? = some q) : (w1 ++ w2)[w1.length + k]? = some q := by
  rw [pre_at]
  exact h
theorem app_c {w1 w2 : va_W} {k : Nat} {q : Nat × va_E} (h : (w1 ++ w2)[k]? = some q) : (k < w1.length ∧ w1[k]? = some q) ∨ (w1.length ≤ k ∧ w2[k - w1.length]? = some q) := by
  by_cases hl : k < w1.length
  · rw [List.getElem?_append_left hl] at h; exact Or.inl ⟨hl, h⟩
  · rw [List.getElem?_append_right (Nat.not_lt.mp hl)] at h; exact Or.inr ⟨Nat.not_lt.mp hl, h⟩
theorem st_l {g : GG} {A : Nat → Prop} {H0 H : Heap} {locs : List Loc} {w1 w2 : va_W} (h : St g A H0 H locs (w1 ++ w2)) : St g A H0 H locs w1 :=
  ⟨fun k q hk => h.1 k q (app_l hk), ⟨fun i j p q hi hj e => h.2.1.1 i j p q (app_l hi) (app_l hj) e, fun k q hk => h.2.1.2 k q (app_l hk)⟩, h.2.2⟩
theorem st_r {g : GG} {A : Nat → Prop} {H0 H : Heap} {locs : List Loc} {w1 w2 : va_W} (h : St g A H0 H locs (w1 ++ w2)) : St g A H0 H locs w2 :=
  ⟨fun k q hk => h.1 _ q (app_r hk), ⟨fun i j p q hi hj e => by have := h.2.1.1 _ _ p q (app_r (w1 := w1) hi) (app_r hj) e; omega, fun k q hk => h.2.1.2 _ q (app_r hk)⟩, h.2.2⟩
theorem st_ne {g : GG} {A : Nat → Prop} {H0 H : Heap} {locs : List Loc} {w1 w2 : va_W} (h : St g A H0 H locs (w1 ++ w2)) : ∀ (i j : Nat) (p q : Nat × va_E), w1[i]? = some p → w2[j]? = some q → p.1 ≠ q.1 := by
  intro i j p q hi hj e
  have h1 := h.2.1.1 _ _ p q (app_l hi) (app_r hj) e
  have h2 := (List.getElem?_eq_some_iff.mp hi).1
  omega
theorem st_app {g : GG} {A : Nat → Prop} {H0 H : Heap} {locs : List Loc} {w1 w2 : va_W} (h1 : St g A H0 H locs w1) (h2 : St g A H0 H locs w2) (hx : ∀ (i j : Nat) (p q : Nat × va_E), w1[i]? = some p → w2[j]? = some q → p.1 ≠ q.1) : St g A H0 H locs (w1 ++ w2) :=
  ⟨h1.1.app h2.1, h1.2.1.app h2.2.1 hx, h1.2.2⟩
theorem st_swap {g : GG} {A : Nat → Prop} {H0 H : Heap} {locs : List Loc} {w1 w2 : va_W} (h : St g A H0 H locs (w1 ++ w2)) : St g A H0 H locs (w2 ++ w1) :=
  st_app (st_r h) (st_l h) (fun i j p q hi hj e => st_ne h j i q p hj hi e.symm)
theorem fr_join {g : GG} {A : Nat → Prop} {H0 H H1 : Heap} {locs locs1 : List Loc} {wc fr w1 : va_W} (h : St g A H0 H locs (wc ++ fr)) (hA : ∀ q, H0.size ≤ q → A q) (hk : ∀ q : Nat, q < H.size → ¬ va_A wc H.size q → H1[q]? = H[q]?) (hP1 : va_P g.1 vwCl w1 H1) (hD1 : va_D (va_A wc H.size) w1) (hS : va_S A H0 H1 locs1) (hin : ∀ q, va_A wc H.size q → A q) : St g A H0 H1 locs1 (w1 ++ fr) := by
  have hlt : ∀ (k : Nat) (q : Nat × va_E), fr[k]? = some q → q.1 < H.size := by
    intro k q hq
    have hat := (st_r h).1 k q hq
    obtain ⟨a, ae⟩ := q
    cases ae with
    | inl x =>
      have hat2 : H[a]? = some (vp_cell x.1 x.2) := hat
      exact (Array.getElem?_eq_some_iff.mp hat2).1
    | inr x =>
      obtain ⟨r, -, hob⟩ := hat
      obtain ⟨cell, hc, -⟩ := hob
      exact (Array.getElem?_eq_some_iff.mp hc).1
  have hnot : ∀ (k : Nat) (q : Nat × va_E), fr[k]? = some q → ¬ va_A wc H.size q.1 := by
    intro k q hq h9
    rcases h9 with ⟨j, e, hj⟩ | h9
    · exact st_ne h j k (q.1, e) q hj hq rfl
    · have := hlt k q hq; omega
  have hPf : va_P g.1 vwCl fr H1 := by
    intro k q hq
    have hat := (st_r h).1 k q hq
    have he : H1[q.1]? = H[q.1]? := hk q.1 (hlt k q hq) (hnot k q hq)
    obtain ⟨a, ae⟩ := q
    cases ae with
    | inl x =>
      show H1[a]? = some (vp_cell x.1 x.2)
      rw [he]
      exact hat
    | inr x =>
      obtain ⟨r, hr, hob⟩ := hat
      exact ⟨r, hr, hob.kept he⟩
  refine ⟨hP1.app hPf, (hD1.weaken (fun _ _ _ hq => hin _ hq)).app (st_r h).2.1 (fun i j p q hi hj e => ?_), hS⟩
  exact hnot j q hj (by rw [← e]; exact hD1.2 i p hi)
section FR
variable {p : Program} {l : Launch} {e : Env} {R : Room} {s : State} {m : MethodId} {args : Array Value} {below : List Frame} {meth : Method} {c : Code} {H : Heap} {locs : List Loc} {cells slots : Nat} {Q : State → Prop}
variable {cc : ByteArray} {nL : Nat} {ret : Option FieldType} {own : String} {pc : Nat} {ls : Array Slot} {rest : List Value} {g : GG} {A : Nat → Prop} {ws ws' : va_W}
theorem fr_callVi {fr : va_W} (hC : Cx p s m args meth c cc nL ret own) {C : String} {b : Nat} {y : MethodName} {bytes : ByteArray} {maxL : Nat} {k mc ms : Nat} {ix n : Nat} {As st0 : List Value} {post : Int32 → va_W → Prop} (hM : MwrI l g y bytes maxL k mc ms (.ref b :: As) H.size ws post) (hy : MOK C y bytes maxL (some .int) n) (hlink : Cond.methodLink own ix y ∈ allW) (hR : RR k R) (hcs : cells + mc ≤ R.cells ∧ slots + ms ≤ R.slots) (hK : KW g A s) (hS1 : St g A s.heap H locs (ws ++ fr)) (hrecv : ∃ cell : Cell, H[b]? = some cell ∧ cell.vm.isStatics = false ∧ s.vm.findClass C = some cell.cls) (hn : As.length = n) (hsz : ls.size = nL) (hst : st0 = As.reverse ++ .ref b :: rest) (hW : (rest.map fun v => v.category).sum ≤ 8) (hdg : decode cc pc = .ok (.invokevirtual ix, 3)) (kk : ∀ (v : Int32) (w : va_W) (H1 : Heap) (locs1 : List Loc), post v w → St g A s.heap H1 locs1 (w ++ fr) → W p l e R s m args below meth c H1 locs1 (cells + mc) (slots + ms) Q (F0 m (pc + 3) ls (.int v :: rest))) : W p l e R s m args below meth c H locs cells slots Q (F0 m (pc) ls (st0)) := by
  subst hst
  have hS := st_l hS1
  have hmx := hy.2.2
  have hG : GoodIn allW (wsV own ix C y (wsA y bytes maxL (some .int))) := by
    intro w hw
    simp only [wsV, wsA, List.cons_append, List.nil_append, List.mem_cons] at hw
    rcases hw with rfl | rfl | rfl | rfl | rfl | hw
    · exact ⟨hlink, allW_good _ hlink⟩
    · exact ⟨hy.1.1, allW_good _ hy.1.1⟩
    · exact ⟨hy.1.2.1, allW_good _ hy.1.2.1⟩
    · exact ⟨hy.1.2.2.1, allW_good _ hy.1.2.2.1⟩
    · exact ⟨hy.1.2.2.2, allW_good _ hy.1.2.2.2⟩
    · exact ⟨hw, allW_good _ hw⟩
  refine va_calli (A0 := A) (H0 := s.heap) (post := post) (B := wr_B g H.size ws) (A1 := va_A ws H.size) (va_runV (C := C) (cc := cc) (nL := nL) (Ts := allW) (own := own) (b := b) (As := As) (rest := rest) (index := ix) (n := n) (g := F0 m pc ls (As.reverse ++ .ref b :: rest)) ⟨hC.1, hC.2.1, hC.2.2.2.1, hC.2.2.2.2.1, hC.2.2.2.2.2.1⟩ hM (cwV n hC.2.2.2.2.2.1 hG rfl rfl rfl hy.2.1 ⟨hR.1, by have h2 := hR.2; show 8 + (maxL + 11) + 40 * k ≤ _; omega⟩) ⟨wr_blind, hrecv, fun U hU hW => ⟨rfl, hK.1.warm hW, by rw [hU], by rw [hU]; exact ((hS.env hK).narrow (hS.in hK)).moved hW.alike, by rw [hU]; exact hS.1, hS.2.1.weaken (fun _ _ _ _ => trivial)⟩⟩ rfl hn hsz rfl (lv_room hW) hdg hcs) hS.2.2 (fun q _ h => hS.in hK q h) (hS.in hK) (fun v w t H1 locs1 ht hvm hpost hB hz1 hk1 hS2 => ?_)
  subst ht
  exact kk v w _ locs1 hpost (fr_join hS1 hK.2.2 hk1 hB.1 hB.2 hS2 (fun q h => hS.in hK q h))
theorem fr_callVl {fr : va_W} (hC : Cx p s m args meth c cc nL ret own) {C : String} {b : Nat} {y : MethodName} {bytes : ByteArray} {maxL : Nat} {k mc ms : Nat} {ix n : Nat} {As st0 : List Value} {post : Int64 → va_W → Prop} (hM : MwrJ l g y bytes maxL k mc ms (.ref b :: As) H.size ws post) (hy : MOK C y bytes maxL (some .long) n) (hlink : Cond.methodLink own ix y ∈ allW) (hR : RR k R) (hcs : cells + mc ≤ R.cells ∧ slots + ms ≤ R.slots) (hK : KW g A s) (hS1 : St g A s.heap H locs (ws ++ fr)) (hrecv : ∃ cell : Cell, H[b]? = some cell ∧ cell.vm.isStatics = false ∧ s.vm.findClass C = some cell.cls) (hn : As.length = n) (hsz : ls.size = nL) (hst : st0 = As.reverse ++ .ref b :: rest) (hW : (rest.map fun v => v.category).sum ≤ 8) (hdg : decode cc pc = .ok (.invokevirtual ix, 3)) (kk : ∀ (v : Int64) (w : va_W) (H1 : Heap) (locs1 : List Loc), post v w → St g A s.heap H1 locs1 (w ++ fr) → W p l e R s m args below meth c H1 locs1 (cells + mc) (slots + ms) Q (F0 m (pc + 3) ls (.long v :: rest))) : W p l e R s m args below meth c H locs cells slots Q (F0 m (pc) ls (st0)) := by
  subst hst
  have hS := st_l hS1
  have hmx := hy.2.2
  have hG : GoodIn allW (wsV own ix C y (wsA y bytes maxL (some .long))) := by
    intro w hw
    simp only [wsV, wsA, List.cons_append, List.nil_append, List.mem_cons] at hw
    rcases hw with rfl | rfl | rfl | rfl | rfl | hw
    · exact ⟨hlink, allW_good _ hlink⟩
    · exact ⟨hy.1.1, allW_good _ hy.1.1⟩
    · exact ⟨hy.1.2.1, allW_good _ hy.1.2.1⟩
    · exact ⟨hy.1.2.2.1, allW_good _ hy.1.2.2.1⟩
    · exact ⟨hy.1.2.2.2, allW_good _ hy.1.2.2.2⟩
    · exact ⟨hw, allW_good _ hw⟩
  refine va_calll (A0 := A) (H0 := s.heap) (post := post) (B := wr_B g H.size ws) (A1 := va_A ws H.size) (va_runV (C := C) (cc := cc) (nL := nL) (Ts := allW) (own := own) (b := b) (As := As) (rest := rest) (index := ix) (n := n) (g := F0 m pc ls (As.reverse ++ .ref b :: rest)) ⟨hC.1, hC.2.1, hC.2.2.2.1, hC.2.2.2.2.1, hC.2.2.2.2.2.1⟩ hM (cwV n hC.2.2.2.2.2.1 hG rfl rfl rfl hy.2.1 ⟨hR.1, by have h2 := hR.2; show 8 + (maxL + 11) + 40 * k ≤ _; omega⟩) ⟨wr_blind, hrecv, fun U hU hW => ⟨rfl, hK.1.warm hW, by rw [hU], by rw [hU]; exact ((hS.env hK).narrow (hS.in hK)).moved hW.alike, by rw [hU]; exact hS.1, hS.2.1.weaken (fun _ _ _ _ => trivial)⟩⟩ rfl hn hsz rfl (lv_room hW) hdg hcs) hS.2.2 (fun q _ h => hS.in hK q h) (hS.in hK) (fun v w t H1 locs1 ht hvm hpost hB hz1 hk1 hS2 => ?_)
  subst ht
  exact kk v w _ locs1 hpost (fr_join hS1 hK.2.2 hk1 hB.1 hB.2 hS2 (fun q h => hS.in hK q h))
theorem fr_callIv {fr : va_W} (hC : Cx p s m args meth c cc nL ret own) {b : Nat} {y : MethodName} {bytes : ByteArray} {maxL : Nat} {k mc ms : Nat} {ix n : Nat} {As st0 : List Value} {post : va_W → Prop} (hM : MwrV l g y bytes maxL k mc ms (.ref b :: As) H.size ws post) (hy : (Cond.instanceMethod y ∈ allW ∧ Cond.initialized y.cls ∈ allW ∧ Cond.code y bytes maxL none ∈ allW) ∧ (y.cls ≠ "java/lang/invoke/MethodHandle" ∧ y.cls ≠ "java/lang/invoke/VarHandle" ∧ (parseMethodDescriptor y.desc).map (fun d => d.parameters.length) = some n) ∧ maxL ≤ 21) (hyn : y.name = "<init>") (hlink : Cond.methodLink own ix y ∈ allW) (hR : RR k R) (hcs : cells + mc ≤ R.cells ∧ slots + ms ≤ R.slots) (hK : KW g A s) (hS1 : St g A s.heap H locs (ws ++ fr))  (hn : As.length = n) (hsz : ls.size = nL) (hst : st0 = As.reverse ++ .ref b :: rest) (hW : (rest.map fun v => v.category).sum ≤ 8) (hdg : decode cc pc = .ok (.invokespecial ix, 3)) (kk : ∀ (w : va_W) (H1 : Heap) (locs1 : List Loc), post w → St g A s.heap H1 locs1 (w ++ fr) → W p l e R s m args below meth c H1 locs1 (cells + mc) (slots + ms) Q (F0 m (pc + 3) ls (rest))) : W p l e R s m args below meth c H locs cells slots Q (F0 m (pc) ls (st0)) := by
  subst hst
  have hS := st_l hS1
  have hmx := hy.2.2
  have hG : GoodIn allW (wsA y bytes maxL (none)) := by
    intro w hw
    simp only [wsA, List.mem_cons] at hw
    rcases hw with rfl | hw
    · exact ⟨hy.1.2.2, allW_good _ hy.1.2.2⟩
    · exact ⟨hw, allW_good _ hw⟩
  refine va_callv (A0 := A) (H0 := s.heap) (post := post) (B := wr_B g H.size ws) (A1 := va_A ws H.size) (va_runI (cc := cc) (nL := nL) (Ts := allW) (own := own) (b := b) (As := As) (rest := rest) (index := ix) (n := n) (g := F0 m pc ls (As.reverse ++ .ref b :: rest)) ⟨hC.1, hC.2.1, hC.2.2.2.1, hC.2.2.2.2.1, hC.2.2.2.2.2.1⟩ hM (cwI n hC.2.2.2.2.2.1 hG rfl rfl rfl (hC.2.2.2.2.2.1 _ hy.1.2.1) (hC.2.2.2.2.2.1 _ hlink) (hC.2.2.2.2.2.1 _ hy.1.1) hyn hy.2.1 ⟨hR.1, by have h2 := hR.2; show 8 + (maxL + 11) + 40 * k ≤ _; omega⟩) ⟨wr_blind, fun U hU hW => ⟨rfl, hK.1.warm hW, by rw [hU], by rw [hU]; exact ((hS.env hK).narrow (hS.in hK)).moved hW.alike, by rw [hU]; exact hS.1, hS.2.1.weaken (fun _ _ _ _ => trivial)⟩⟩ rfl hn hsz rfl (lv_room hW) hdg hcs) hS.2.2 (fun q _ h => hS.in hK q h) (hS.in hK) (fun w t H1 locs1 ht hvm hpost hB hz1 hk1 hS2 => ?_)
  subst ht
  exact kk w _ locs1 hpost (fr_join hS1 hK.2.2 hk1 hB.1 hB.2 hS2 (fun q h => hS.in hK q h))
theorem li_same (hC : Cx p s m args meth c cc nL ret own) {v : Int32} {off : Int} {tgt : Nat} (ht : (pc : Int) + off = (tgt : Int)) (hdg : decode cc pc = .ok (.if_icmp .eq off, 3)) (kt : W p l e R s m args below meth c H locs cells slots Q (F0 m (tgt) ls (rest))) : W p l e R s m args below meth c H locs cells slots Q (F0 m (pc) ls (.int v :: .int v :: rest)) := by
  rw [← iI_of v]
  exact li_icmp_eq hC ht (rng_of v) (rng_of v) hdg (fun _ => kt) (fun h => absurd rfl h)
theorem li_sameJ (hC : Cx p s m args meth c cc nL ret own) {v : Int64} {off : Int} {tgt : Nat} (ht : ((pc + 1 : Nat) : Int) + off = (tgt : Int)) (hdg : decode cc pc = .ok (.lcmp, 1)) (hdg2 : decode cc (pc + 1) = .ok (.ifCond .eq off, 3)) (kt : W p l e R s m args below meth c H locs cells slots Q (F0 m (tgt) ls (rest))) : W p l e R s m args below meth c H locs cells slots Q (F0 m (pc) ls (.long v :: .long v :: rest)) := by
  rw [← jI_of v]
  have hr : rngL v.toInt := ⟨v.le_toInt, by have := v.toInt_lt; omega⟩
  refine li_lcmp hC hr hr hdg ?_
  have e := (cmpS_f v.toInt v.toInt).2.1.mpr rfl
  rw [e]
  exact li_if_eq hC ht rng_0 hdg2 (fun _ => kt) (fun h => absurd rfl h)
def xI (xs : Nat → Int32) (k : Int) : Int := (xs k.toNat).toInt
theorem xI_rng (xs : Nat → Int32) (k : Int) : rng (xI xs k) := rng_of _
theorem li_sld (hC : Cx p s m args meth c cc nL ret own) {b L : Nat} {xs : Nat → Int32} (hX : va_X b L xs s s.heap) (hbl : b < s.heap.size) (hbA : ¬ A b) (hS : va_S A s.heap H locs) {z : Int} (hz : 0 ≤ z ∧ z < L) (hL : L ≤ 3072) (hdg : decode cc pc = .ok (.iaload, 1)) (kk : W p l e R s m args below meth c H locs cells slots Q (F0 m (pc + 1) ls (.int (iI (xI xs z)) :: rest))) : W p l e R s m args below meth c H locs cells slots Q (F0 m pc ls (.int (iI z) :: .ref b :: rest)) := by
  refine va_sld hC.1 hC.2.1 hX hbl hbA hS (iI_in hz (by omega)) hdg ?_
  rw [iI_clamp hz.1 (by omega)]
  unfold xI at kk
  rw [iI_of] at kk
  exact kk
theorem li_slen (hC : Cx p s m args meth c cc nL ret own) {b L : Nat} {xs : Nat → Int32} (hX : va_X b L xs s s.heap) (hbl : b < s.heap.size) (hbA : ¬ A b) (hS : va_S A s.heap H locs) (hdg : decode cc pc = .ok (.arraylength, 1)) (kk : W p l e R s m args below meth c H locs cells slots Q (F0 m (pc + 1) ls (.int (iI (L : Int)) :: rest))) : W p l e R s m args below meth c H locs cells slots Q (F0 m pc ls (.ref b :: rest)) := by
  refine va_slen hC.1 hC.2.1 hX hbl hbA hS hdg ?_
  rw [iI_nat] at kk
  exact kk
end FR
