/-! a dot more -/
section DU
variable {S : Nat → Int} {kind v lt c r : Int}
theorem dotU_out (h0 : 0 ≤ S 0 ∧ S 0 < 7) {j : Nat} (h : j ≠ 0 ∧ (j : Int) ≠ 7 + S 0 ∧ (j : Int) ≠ 14 + S 0 ∧ (j : Int) ≠ 21 + S 0 ∧ (j : Int) ≠ 28 + S 0 ∧ (j : Int) ≠ 35 + S 0 ∧ (j : Int) ≠ 42 + S 0 ∧ ¬ (49 + 4 * S 0 ≤ j ∧ (j : Int) ≤ 52 + 4 * S 0)) : dotUp S kind v lt c r j = S j := by
  unfold dotUp
  rw [up_ne _ _ (by omega), up_ne _ _ (by omega), up_ne _ _ (by omega), up_ne _ _ (by omega), up_ne _ _ (by omega), up_ne _ _ (by omega), up_ne _ _ (by omega), up_ne _ _ (by omega), up_ne _ _ (by omega), up_ne _ _ (by omega), up_ne _ _ (by omega)]
theorem dotU_0 : dotUp S kind v lt c r 0 = S 0 + 1 := by
  unfold dotUp
  exact up_same _ _ _
theorem dotU_1 (h0 : 0 ≤ S 0 ∧ S 0 < 7) : dotUp S kind v lt c r (7 + S 0).toNat = kind ∧ dotUp S kind v lt c r (14 + S 0).toNat = v ∧ dotUp S kind v lt c r (21 + S 0).toNat = lt ∧ dotUp S kind v lt c r (28 + S 0).toNat = c ∧ dotUp S kind v lt c r (35 + S 0).toNat = r ∧ dotUp S kind v lt c r (42 + S 0).toNat = 4 := by
  unfold dotUp
  refine ⟨?_, ?_, ?_, ?_, ?_, ?_⟩
  · rw [up_ne _ _ (by omega), up_ne _ _ (by omega), up_ne _ _ (by omega), up_ne _ _ (by omega), up_ne _ _ (by omega), up_ne _ _ (by omega), up_ne _ _ (by omega), up_ne _ _ (by omega), up_ne _ _ (by omega), up_ne _ _ (by omega), up_same]
  · rw [up_ne _ _ (by omega), up_ne _ _ (by omega), up_ne _ _ (by omega), up_ne _ _ (by omega), up_ne _ _ (by omega), up_ne _ _ (by omega), up_ne _ _ (by omega), up_ne _ _ (by omega), up_ne _ _ (by omega), up_same]
  · rw [up_ne _ _ (by omega), up_ne _ _ (by omega), up_ne _ _ (by omega), up_ne _ _ (by omega), up_ne _ _ (by omega), up_ne _ _ (by omega), up_ne _ _ (by omega), up_ne _ _ (by omega), up_same]
  · rw [up_ne _ _ (by omega), up_ne _ _ (by omega), up_ne _ _ (by omega), up_ne _ _ (by omega), up_ne _ _ (by omega), up_ne _ _ (by omega), up_ne _ _ (by omega), up_same]
  · rw [up_ne _ _ (by omega), up_ne _ _ (by omega), up_ne _ _ (by omega), up_ne _ _ (by omega), up_ne _ _ (by omega), up_ne _ _ (by omega), up_same]
  · rw [up_ne _ _ (by omega), up_ne _ _ (by omega), up_ne _ _ (by omega), up_ne _ _ (by omega), up_ne _ _ (by omega), up_same]
theorem dotU_r (h0 : 0 ≤ S 0 ∧ S 0 < 7) {p : Int} (hp : 0 ≤ p ∧ p ≤ 3) : dotUp S kind v lt c r (49 + 4 * S 0 + p).toNat = 0 := by
  unfold dotUp
  rcases (show p = 0 ∨ p = 1 ∨ p = 2 ∨ p = 3 by omega) with rfl | rfl | rfl | rfl
  · rw [up_ne _ _ (by omega), up_ne _ _ (by omega), up_ne _ _ (by omega), up_ne _ _ (by omega), up_same]
  · rw [up_ne _ _ (by omega), up_ne _ _ (by omega), up_ne _ _ (by omega), show (49 + 4 * S 0 + 1).toNat = (49 + 4 * S 0 + (0 + 1)).toNat by omega, up_same]
  · rw [up_ne _ _ (by omega), up_ne _ _ (by omega), show (49 + 4 * S 0 + 2).toNat = (49 + 4 * S 0 + (0 + 1 + 1)).toNat by omega, up_same]
  · rw [up_ne _ _ (by omega), show (49 + 4 * S 0 + 3).toNat = (49 + 4 * S 0 + (0 + 1 + 1 + 1)).toNat by omega, up_same]
theorem dotU_I (hI : InvD S) (h0 : S 0 < 7) (hk : 0 ≤ kind ∧ kind ≤ 6) (hv : 0 ≤ v ∧ v ≤ 9) (hl : 1 ≤ lt ∧ lt ≤ 9) (hc : 0 ≤ c ∧ c ≤ 29) (hr : 0 ≤ r ∧ r ≤ 11) : InvD (dotUp S kind v lt c r) := by
  have hD := hI.1
  obtain ⟨e1, e2, e3, e4, e5, e6⟩ := dotU_1 (S := S) (kind := kind) (v := v) (lt := lt) (c := c) (r := r) ⟨hD.1, h0⟩
  refine ⟨by rw [dotU_0]; omega, fun n g0 g1 => ?_⟩
  rw [dotU_0] at g1
  rcases (show n < S 0 ∨ n = S 0 by omega) with q | q
  · have i := hI.2 n g0 q
    rw [dotU_out ⟨hD.1, h0⟩ (j := (7 + n).toNat) (by omega), dotU_out ⟨hD.1, h0⟩ (j := (14 + n).toNat) (by omega), dotU_out ⟨hD.1, h0⟩ (j := (21 + n).toNat) (by omega), dotU_out ⟨hD.1, h0⟩ (j := (28 + n).toNat) (by omega), dotU_out ⟨hD.1, h0⟩ (j := (35 + n).toNat) (by omega), dotU_out ⟨hD.1, h0⟩ (j := (42 + n).toNat) (by omega)]
    refine ⟨i.1, i.2.1, i.2.2.1, i.2.2.2.1, i.2.2.2.2.1, i.2.2.2.2.2.1, fun p p0 p1 => ?_⟩
    rw [dotU_out ⟨hD.1, h0⟩ (j := (49 + 4 * n + p).toNat) (by omega)]
    exact i.2.2.2.2.2.2 p p0 p1
  · rw [q, e1, e2, e3, e4, e5, e6]
    refine ⟨hk, hv, hl, hc, hr, by omega, fun p p0 p1 => ?_⟩
    rw [dotU_r ⟨hD.1, h0⟩ ⟨p0, p1⟩]
    omega
end DU
theorem set_last {α : Type} (l : List α) (a b : α) : (l ++ [a]).set l.length b = l ++ [b] := by
  rw [List.set_append_right _ _ (Nat.le_refl _), Nat.sub_self]
  rfl
abbrev nmc (tr : Nat) (kd i v lt c r : Int) : va_E := .inr (kci kd, nmV tr i v lt c r)
def nm0 : List Value := [.null, .int (iI 0), .int (iI 0), .int (iI 0), .int (iI 0), .int (iI 0)]
abbrev nmn (kd : Int) : va_E := .inr (kci kd, nm0)
theorem nmp_dot {tr : Nat} {tl t : va_W} {S : Nat → Int} {nm : Nat → Nat} {q kq : Nat} {kind v lt c r : Int} (h : NmP tr tl S nm) (hk : TlK tl t) (h0 : 0 ≤ S 0 ∧ S 0 < 7) (hq : t[kq]? = some (q, .inr (kci kind, nmV tr (S 0) v lt c r))) : NmP tr t (dotUp S kind v lt c r) (va_up nm (S 0).toNat q) := by
  intro i g0 g1
  rw [dotU_0] at g1
  rcases (show i < S 0 ∨ i = S 0 by omega) with e | e
  · obtain ⟨k, hh⟩ := h i g0 e
    refine ⟨k, ?_⟩
    rw [hk k _ _ hh, up_ne _ _ (by omega)]
    unfold nmE
    rw [dotU_out h0 (j := (7 + i).toNat) (by omega), dotU_out h0 (j := (14 + i).toNat) (by omega), dotU_out h0 (j := (21 + i).toNat) (by omega), dotU_out h0 (j := (28 + i).toNat) (by omega), dotU_out h0 (j := (35 + i).toNat) (by omega)]
  · obtain ⟨e1, e2, e3, e4, e5, e6⟩ := dotU_1 (S := S) (kind := kind) (v := v) (lt := lt) (c := c) (r := r) h0
    refine ⟨kq, ?_⟩
    subst e
    rw [hq, up_same]
    unfold nmE
    rw [e1, e2, e3, e4, e5]
section R14
variable {p : Program} {l : Launch} {e : Env} {R : Room} {s : State} {m : MethodId} {args : Array Value} {below : List Frame} {meth : Method} {c : Code} {H : Heap} {locs : List Loc} {cells slots : Nat} {Q : State → Prop}
variable {cc : ByteArray} {nL : Nat} {ret : Option FieldType} {own : String} {pc : Nat} {ls : Array Slot} {rest : List Value} {g : GG} {A : Nat → Prop} {ws ws' : va_W}
theorem li_putN0 (hC : Cx p s m args meth c cc nL ret RX4) (hK : KW g A s) (hS : St g A s.heap H locs ws) (q : Nat) {a : Nat} {kd : Int} {fs : List Value} (hkd : 0 ≤ kd ∧ kd ≤ 6) (he : ws[q]? = some (a, .inr (kci kd, fs))) {ix : Nat} (hlink : Cond.fieldLink RX4 ix "NamesNoTouch$Name" "trail" "LNamesNoTouch$Row;" ∈ allW) {x : Nat} (hlen : 0 < fs.length) (hin : meth.name = "<init>") (hw : ws.set q (a, .inr (kci kd, fs.set 0 (.ref x))) = ws') (hdg : decode cc pc = .ok (.putfield ix, 3)) (kk : ∀ (H1 : Heap) (locs1 : List Loc), St g A s.heap H1 locs1 ws' → W p l e R s m args below meth c H1 locs1 cells slots Q (F0 m (pc + 3) ls (rest))) : W p l e R s m args below meth c H locs cells slots Q (F0 m (pc) ls (.ref x :: .ref a :: rest)) := by
  rcases kd_cases hkd with rfl | rfl | rfl | rfl | rfl | rfl | rfl
  · exact li_putF hC hK hS ck_X4 q he 0 (by decide) hlink rfl rfl rfl rfl hlen hin rfl hw hdg kk
  · exact li_putF hC hK hS ck_X3 q he 0 (by decide) hlink rfl rfl rfl rfl hlen hin rfl hw hdg kk
  · exact li_putF hC hK hS ck_X1 q he 0 (by decide) hlink rfl rfl rfl rfl hlen hin rfl hw hdg kk
  · exact li_putF hC hK hS ck_X9 q he 0 (by decide) hlink rfl rfl rfl rfl hlen hin rfl hw hdg kk
  · exact li_putF hC hK hS ck_X0 q he 0 (by decide) hlink rfl rfl rfl rfl hlen hin rfl hw hdg kk
  · exact li_putF hC hK hS ck_X2 q he 0 (by decide) hlink rfl rfl rfl rfl hlen hin rfl hw hdg kk
  · exact li_putF hC hK hS ck_X10 q he 0 (by decide) hlink rfl rfl rfl rfl hlen hin rfl hw hdg kk
theorem li_putN1 (hC : Cx p s m args meth c cc nL ret RX4) (hK : KW g A s) (hS : St g A s.heap H locs ws) (q : Nat) {a : Nat} {kd : Int} {fs : List Value} (hkd : 0 ≤ kd ∧ kd ≤ 6) (he : ws[q]? = some (a, .inr (kci kd, fs))) {ix : Nat} (hlink : Cond.fieldLink RX4 ix "NamesNoTouch$Name" "number" "I" ∈ allW) {v : Int} (hlen : 1 < fs.length) (hin : meth.name = "<init>") (hw : ws.set q (a, .inr (kci kd, fs.set 1 (.int (iI v)))) = ws') (hdg : decode cc pc = .ok (.putfield ix, 3)) (kk : ∀ (H1 : Heap) (locs1 : List Loc), St g A s.heap H1 locs1 ws' → W p l e R s m args below meth c H1 locs1 cells slots Q (F0 m (pc + 3) ls (rest))) : W p l e R s m args below meth c H locs cells slots Q (F0 m (pc) ls (.int (iI v) :: .ref a :: rest)) := by
  rcases kd_cases hkd with rfl | rfl | rfl | rfl | rfl | rfl | rfl
  · exact li_putF hC hK hS ck_X4 q he 1 (by decide) hlink rfl rfl rfl rfl hlen hin rfl hw hdg kk
  · exact li_putF hC hK hS ck_X3 q he 1 (by decide) hlink rfl rfl rfl rfl hlen hin rfl hw hdg kk
  · exact li_putF hC hK hS ck_X1 q he 1 (by decide) hlink rfl rfl rfl rfl hlen hin rfl hw hdg kk
  · exact li_putF hC hK hS ck_X9 q he 1 (by decide) hlink rfl rfl rfl rfl hlen hin rfl hw hdg kk
  · exact li_putF hC hK hS ck_X0 q he 1 (by decide) hlink rfl rfl rfl rfl hlen hin rfl hw hdg kk
  · exact li_putF hC hK hS ck_X2 q he 1 (by decide) hlink rfl rfl rfl rfl hlen hin rfl hw hdg kk
  · exact li_putF hC hK hS ck_X10 q he 1 (by decide) hlink rfl rfl rfl rfl hlen hin rfl hw hdg kk
theorem li_putN2 (hC : Cx p s m args meth c cc nL ret RX4) (hK : KW g A s) (hS : St g A s.heap H locs ws) (q : Nat) {a : Nat} {kd : Int} {fs : List Value} (hkd : 0 ≤ kd ∧ kd ≤ 6) (he : ws[q]? = some (a, .inr (kci kd, fs))) {ix : Nat} (hlink : Cond.fieldLink RX4 ix "NamesNoTouch$Name" "v" "I" ∈ allW) {v : Int} (hlen : 2 < fs.length) (hin : meth.name = "<init>") (hw : ws.set q (a, .inr (kci kd, fs.set 2 (.int (iI v)))) = ws') (hdg : decode cc pc = .ok (.putfield ix, 3)) (kk : ∀ (H1 : Heap) (locs1 : List Loc), St g A s.heap H1 locs1 ws' → W p l e R s m args below meth c H1 locs1 cells slots Q (F0 m (pc + 3) ls (rest))) : W p l e R s m args below meth c H locs cells slots Q (F0 m (pc) ls (.int (iI v) :: .ref a :: rest)) := by
  rcases kd_cases hkd with rfl | rfl | rfl | rfl | rfl | rfl | rfl
  · exact li_putF hC hK hS ck_X4 q he 2 (by decide) hlink rfl rfl rfl rfl hlen hin rfl hw hdg kk
  · exact li_putF hC hK hS ck_X3 q he 2 (by decide) hlink rfl rfl rfl rfl hlen hin rfl hw hdg kk
  · exact li_putF hC hK hS ck_X1 q he 2 (by decide) hlink rfl rfl rfl rfl hlen hin rfl hw hdg kk
  · exact li_putF hC hK hS ck_X9 q he 2 (by decide) hlink rfl rfl rfl rfl hlen hin rfl hw hdg kk
  · exact li_putF hC hK hS ck_X0 q he 2 (by decide) hlink rfl rfl rfl rfl hlen hin rfl hw hdg kk
  · exact li_putF hC hK hS ck_X2 q he 2 (by decide) hlink rfl rfl rfl rfl hlen hin rfl hw hdg kk
  · exact li_putF hC hK hS ck_X10 q he 2 (by decide) hlink rfl rfl rfl rfl hlen hin rfl hw hdg kk
theorem li_putN3 (hC : Cx p s m args meth c cc nL ret RX4) (hK : KW g A s) (hS : St g A s.heap H locs ws) (q : Nat) {a : Nat} {kd : Int} {fs : List Value} (hkd : 0 ≤ kd ∧ kd ≤ 6) (he : ws[q]? = some (a, .inr (kci kd, fs))) {ix : Nat} (hlink : Cond.fieldLink RX4 ix "NamesNoTouch$Name" "letters" "I" ∈ allW) {v : Int} (hlen : 3 < fs.length) (hin : meth.name = "<init>") (hw : ws.set q (a, .inr (kci kd, fs.set 3 (.int (iI v)))) = ws') (hdg : decode cc pc = .ok (.putfield ix, 3)) (kk : ∀ (H1 : Heap) (locs1 : List Loc), St g A s.heap H1 locs1 ws' → W p l e R s m args below meth c H1 locs1 cells slots Q (F0 m (pc + 3) ls (rest))) : W p l e R s m args below meth c H locs cells slots Q (F0 m (pc) ls (.int (iI v) :: .ref a :: rest)) := by
  rcases kd_cases hkd with rfl | rfl | rfl | rfl | rfl | rfl | rfl
  · exact li_putF hC hK hS ck_X4 q he 3 (by decide) hlink rfl rfl rfl rfl hlen hin rfl hw hdg kk
  · exact li_putF hC hK hS ck_X3 q he 3 (by decide) hlink rfl rfl rfl rfl hlen hin rfl hw hdg kk
  · exact li_putF hC hK hS ck_X1 q he 3 (by decide) hlink rfl rfl rfl rfl hlen hin rfl hw hdg kk
  · exact li_putF hC hK hS ck_X9 q he 3 (by decide) hlink rfl rfl rfl rfl hlen hin rfl hw hdg kk
  · exact li_putF hC hK hS ck_X0 q he 3 (by decide) hlink rfl rfl rfl rfl hlen hin rfl hw hdg kk
  · exact li_putF hC hK hS ck_X2 q he 3 (by decide) hlink rfl rfl rfl rfl hlen hin rfl hw hdg kk
  · exact li_putF hC hK hS ck_X10 q he 3 (by decide) hlink rfl rfl rfl rfl hlen hin rfl hw hdg kk
theorem li_putN4 (hC : Cx p s m args meth c cc nL ret RX4) (hK : KW g A s) (hS : St g A s.heap H locs ws) (q : Nat) {a : Nat} {kd : Int} {fs : List Value} (hkd : 0 ≤ kd ∧ kd ≤ 6) (he : ws[q]? = some (a, .inr (kci kd, fs))) {ix : Nat} (hlink : Cond.fieldLink RX4 ix "NamesNoTouch$Name" "column" "I" ∈ allW) {v : Int} (hlen : 4 < fs.length) (hin : meth.name = "<init>") (hw : ws.set q (a, .inr (kci kd, fs.set 4 (.int (iI v)))) = ws') (hdg : decode cc pc = .ok (.putfield ix, 3)) (kk : ∀ (H1 : Heap) (locs1 : List Loc), St g A s.heap H1 locs1 ws' → W p l e R s m args below meth c H1 locs1 cells slots Q (F0 m (pc + 3) ls (rest))) : W p l e R s m args below meth c H locs cells slots Q (F0 m (pc) ls (.int (iI v) :: .ref a :: rest)) := by
  rcases kd_cases hkd with rfl | rfl | rfl | rfl | rfl | rfl | rfl
  · exact li_putF hC hK hS ck_X4 q he 4 (by decide) hlink rfl rfl rfl rfl hlen hin rfl hw hdg kk
  · exact li_putF hC hK hS ck_X3 q he 4 (by decide) hlink rfl rfl rfl rfl hlen hin rfl hw hdg kk
  · exact li_putF hC hK hS ck_X1 q he 4 (by decide) hlink rfl rfl rfl rfl hlen hin rfl hw hdg kk
  · exact li_putF hC hK hS ck_X9 q he 4 (by decide) hlink rfl rfl rfl rfl hlen hin rfl hw hdg kk
  · exact li_putF hC hK hS ck_X0 q he 4 (by decide) hlink rfl rfl rfl rfl hlen hin rfl hw hdg kk
  · exact li_putF hC hK hS ck_X2 q he 4 (by decide) hlink rfl rfl rfl rfl hlen hin rfl hw hdg kk
  · exact li_putF hC hK hS ck_X10 q he 4 (by decide) hlink rfl rfl rfl rfl hlen hin rfl hw hdg kk
theorem li_putN5 (hC : Cx p s m args meth c cc nL ret RX4) (hK : KW g A s) (hS : St g A s.heap H locs ws) (q : Nat) {a : Nat} {kd : Int} {fs : List Value} (hkd : 0 ≤ kd ∧ kd ≤ 6) (he : ws[q]? = some (a, .inr (kci kd, fs))) {ix : Nat} (hlink : Cond.fieldLink RX4 ix "NamesNoTouch$Name" "line" "I" ∈ allW) {v : Int} (hlen : 5 < fs.length) (hin : meth.name = "<init>") (hw : ws.set q (a, .inr (kci kd, fs.set 5 (.int (iI v)))) = ws') (hdg : decode cc pc = .ok (.putfield ix, 3)) (kk : ∀ (H1 : Heap) (locs1 : List Loc), St g A s.heap H1 locs1 ws' → W p l e R s m args below meth c H1 locs1 cells slots Q (F0 m (pc + 3) ls (rest))) : W p l e R s m args below meth c H locs cells slots Q (F0 m (pc) ls (.int (iI v) :: .ref a :: rest)) := by
  rcases kd_cases hkd with rfl | rfl | rfl | rfl | rfl | rfl | rfl
  · exact li_putF hC hK hS ck_X4 q he 5 (by decide) hlink rfl rfl rfl rfl hlen hin rfl hw hdg kk
  · exact li_putF hC hK hS ck_X3 q he 5 (by decide) hlink rfl rfl rfl rfl hlen hin rfl hw hdg kk
  · exact li_putF hC hK hS ck_X1 q he 5 (by decide) hlink rfl rfl rfl rfl hlen hin rfl hw hdg kk
  · exact li_putF hC hK hS ck_X9 q he 5 (by decide) hlink rfl rfl rfl rfl hlen hin rfl hw hdg kk
  · exact li_putF hC hK hS ck_X0 q he 5 (by decide) hlink rfl rfl rfl rfl hlen hin rfl hw hdg kk
  · exact li_putF hC hK hS ck_X2 q he 5 (by decide) hlink rfl rfl rfl rfl hlen hin rfl hw hdg kk
  · exact li_putF hC hK hS ck_X10 q he 5 (by decide) hlink rfl rfl rfl rfl hlen hin rfl hw hdg kk
end R14
