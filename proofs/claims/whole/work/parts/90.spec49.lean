/-! THE LAW: the class and the reference, side by side -/
def LI (g : GG) (ad : Nat → Nat) (F : Nat → Int) (A : Nat → Nat → Int) (E : Nat → Nat) (tl : va_W) (S : Nat → Int) (nm : Nat → Nat) (T : Nat → Int) (nt nd : Nat → Nat) (F2 : Nat → Int) (A2 : Nat → Nat → Int) : Prop :=
  ShW g ad F A E tl S nm ∧ Inv S ∧ (F 66 = 0 ∨ F 66 = 1) ∧ F2 3 = F 66 ∧ (F 66 = 1 → TkW g ad F A E tl T nt ∧ Inv T ∧ A2 2 = T) ∧ LsP g tl (E 1) (F 78) nd ∧ (0 ≤ F 78 ∧ F 78 ≤ 7) ∧ (E 1 = E 0 → E 1 = g.2.1 3) ∧ tEq (F 1, A 2) (F2 24, A2 23) ∧ (0 ≤ F 1 ∧ F 1 ≤ 8)
def LawW (g : GG) (x hm : Nat) (w : va_W) : Prop := ∃ (ad : Nat → Nat) (F : Nat → Int) (A : Nat → Nat → Int) (E : Nat → Nat) (tl : va_W) (S : Nat → Int) (nm : Nat → Nat) (T : Nat → Int) (nt nd : Nat → Nat) (ar : Nat → Nat) (F2 : Nat → Int) (A2 : Nat → Nat → Int), ad 0 = x ∧ w = CW g ad F A E tl ++ RW g hm ar F2 A2 ∧ A2 1 = S ∧ LI g ad F A E tl S nm T nt nd F2 A2
section LW
variable {g : GG} {ad : Nat → Nat} {F F' : Nat → Int} {A A' : Nat → Nat → Int} {E : Nat → Nat} {tl t : va_W} {S S' : Nat → Int} {nm nm2 : Nat → Nat} {T : Nat → Int} {nt nd : Nat → Nat} {F2 F3 : Nat → Int} {A2 A3 : Nat → Nat → Int}
theorem lw_ref (h : LI g ad F A E tl S nm T nt nd F2 A2) (h3 : F3 3 = F2 3) (h24 : F3 24 = F2 24) (a2 : A3 2 = A2 2) (a23 : A3 23 = A2 23) : LI g ad F A E tl S nm T nt nd F3 A3 := by
  obtain ⟨a, b, c, d, e, f, i, j, k, n⟩ := h
  refine ⟨a, b, c, by rw [h3]; exact d, fun h6 => ?_, f, i, j, by rw [h24, a23]; exact k, n⟩
  rw [a2]
  exact e h6
theorem lw_step (h : LI g ad F A E tl S nm T nt nd F2 A2) (kp : KpS F F' A A') (hs : ShW g ad F' A' E tl S' nm) (hv : Inv S') : LI g ad F' A' E tl S' nm T nt nd F2 A2 := by
  obtain ⟨a, b, c, d, e, f, i, j, k, n⟩ := h
  have e66 := kp.1 66 (by omega)
  have e78 := kp.1 78 (by omega)
  have e1 := kp.1 1 (by omega)
  have a2 := kp.2 2 (by omega)
  refine ⟨hs, hv, by rw [e66]; exact c, by rw [e66]; exact d, fun h6 => ?_, by rw [e78]; exact f, by rw [e78]; exact i, j, by rw [e1, a2]; exact k, by rw [e1]; exact n⟩
  rw [e66] at h6
  obtain ⟨q1, q2⟩ := e h6
  exact ⟨kp.tk q1, q2⟩
theorem lw_act (h : LI g ad F A E tl S nm T nt nd F2 A2) (n act : Int) {k1 k2 k3 : Int} : LI g ad (va_up F 1 (actT S n act (A 2)).1) (va_up A 2 (actT S n act (A 2)).2) E tl S nm T nt nd (va_up (va_up (va_up (va_up F2 24 (actT S n act (A2 23)).1) 25 k1) 26 k2) 27 k3) (va_up A2 23 (actT S n act (A2 23)).2) := by
  obtain ⟨a, b, c, d, e, f, i, j, k, n0⟩ := h
  have q := actT_eq S n act (A 2) (A2 23)
  have r := actT_1 S n act (A 2)
  exact ⟨a, b, c, d, e, f, i, j, q, r⟩
theorem tk_move {r2 : Nat} (h : TkW g ad F A E tl T nt) (hk : TlK tl t) (hl : ∀ (D : Int) (nt : Nat → Nat), LsP g tl (E 1) D nt → LsP g t (E 1) D nt) : TkW g ad F A (va_up E 0 r2) t T nt := by
  obtain ⟨a, b, ⟨c1, c2, c3⟩, d⟩ := h
  exact ⟨a, b, ⟨c1, hl _ _ c2, nmp_k c3 hk⟩, d⟩
theorem lw_dot {r2 : Nat} (h : LI g ad F A E tl S nm T nt nd F2 A2) (kp : KpS F F' A A') (hk : TlK tl t) (hs : ShW g ad F' A' (va_up E 0 r2) t S' nm2) (hne : r2 = E 1 → r2 = g.2.1 3) (hl : ∀ (D : Int) (nt : Nat → Nat), LsP g tl (E 1) D nt → LsP g t (E 1) D nt) (hv : Inv S') : LI g ad F' A' (va_up E 0 r2) t S' nm2 T nt nd F2 A2 := by
  obtain ⟨a, b, c, d, e, f, i, j, k, n⟩ := h
  have e66 := kp.1 66 (by omega)
  have e78 := kp.1 78 (by omega)
  have e1 := kp.1 1 (by omega)
  have a2 := kp.2 2 (by omega)
  refine ⟨hs, hv, by rw [e66]; exact c, by rw [e66]; exact d, fun h6 => ?_, by rw [e78]; exact hl _ _ f, by rw [e78]; exact i, fun h9 => ?_, by rw [e1, a2]; exact k, by rw [e1]; exact n⟩
  · rw [e66] at h6
    obtain ⟨q1, q2⟩ := e h6
    exact ⟨tk_move (kp.tk q1) hk hl, q2⟩
  · have h9 : E 1 = r2 := h9
    show E 1 = g.2.1 3
    rw [h9]
    exact hne h9.symm
theorem lw_image {r : Nat} (h : LI g ad F A E tl S nm T nt nd F2 A2) (h66 : F' 66 = 1) (h1 : F' 1 = F 1) (h2 : A' 2 = A 2) (hs : ShW g ad F' A' (va_up E 1 r) t S nm) (ht : TkW g ad F' A' (va_up E 1 r) t S nm) (hr : r = E 0 → r = g.2.1 3) : LI g ad F' A' (va_up E 1 r) t S nm S nm nm (va_up F2 3 1) (va_up A2 2 S) := by
  obtain ⟨a, b, c, d, e, f, i, j, k, n⟩ := h
  have q := ht.2.2.1
  have hD := b.1.1
  refine ⟨hs, b, Or.inr h66, by rw [h66]; rfl, fun _ => ⟨ht, b, rfl⟩, ?_, by rw [q.1]; exact hD, hr, by rw [h1, h2]; exact k, by rw [h1]; exact n⟩
  rw [show F' 78 = S 0 from q.1]
  exact q.2.1
theorem lw_undo {r : Nat} (h : LI g ad F A E tl S nm T nt nd F2 A2) (h6 : F 66 = 1) (h66 : F' 66 = F 66) (h1 : F' 1 = F 1) (h2 : A' 2 = A 2) (hs : ShW g ad F' A' (va_up E 0 r) t T nt) (ht : TkW g ad F' A' (va_up E 0 r) t T nt) (hr : r = E 1 → r = g.2.1 3) : LI g ad F' A' (va_up E 0 r) t T nt T nt nt F2 (va_up A2 1 (A2 2)) := by
  obtain ⟨a, b, c, d, e, f, i, j, k, n⟩ := h
  obtain ⟨q1, q2, q3⟩ := e h6
  have q := ht.2.2.1
  have hD := q2.1.1
  refine ⟨hs, q2, by rw [h66]; exact c, by rw [h66]; exact d, fun _ => ⟨ht, q2, q3⟩, ?_, by rw [q.1]; exact hD, fun h9 => ?_, by rw [h1, h2]; exact k, by rw [h1]; exact n⟩
  · rw [show F' 78 = T 0 from q.1]
    exact q.2.1
  · have h9 : E 1 = r := h9
    show E 1 = g.2.1 3
    rw [h9]
    exact hr h9.symm
theorem look_ex (Q : Int → Prop) : ∀ n : Nat, ∃ r : Int, firstLook Q n r
  | 0 => ⟨-5, Or.inl ⟨rfl, allB_0 Q⟩⟩
  | n + 1 => by
    obtain ⟨r, hr⟩ := look_ex Q n
    rcases hr with ⟨h1, h2⟩ | ⟨h1, h2, h3⟩
    · by_cases q : Q n
      · exact ⟨-5, Or.inl ⟨rfl, by
          have e := (allB_s (P := Q) (k := (n : Int)) (by omega)).mpr ⟨h2, q⟩
          rw [show (((n + 1 : Nat)) : Int) = (n : Int) + 1 by omega]
          exact e⟩⟩
      · exact ⟨n, Or.inr ⟨by omega, by omega, h2, q⟩⟩
    · exact ⟨r, Or.inr ⟨h1, by omega, h3⟩⟩
end LW
/-- one arm of the law's switch, from pc to the loop's step -/
def LawCase (l : Launch) (g : GG) (x hm b L : Nat) (xs : Nat → Int32) (pc : Nat) : Prop := ∀ (p : Program) (e : Env) (s : State) (m : MethodId) (args : Array Value) (below : List Frame) (meth : Method) (c : Code) (Q : State → Prop) (Aw : Nat → Prop) (i : Int) (w : va_W) (H : Heap) (locs : List Loc) (ls : Array Slot) (cells slots : Nat),
  Cx p s m args meth c cL_law 4 ret RL → KW g Aw s → va_X b L xs s s.heap → b < s.heap.size → ¬ Aw b → L ≤ 3072 → (0 ≤ i ∧ i + 6 ≤ L) → (cells ≤ 5000 ∧ slots ≤ 100000) → LawW g x hm w → St g Aw s.heap H locs w → lv_has ls 4 [(0, .ref b), (1, .ref x), (2, .ref hm), (3, .int (iI i))] →
  (∀ (w : va_W) (H : Heap) (locs : List Loc) (ls : Array Slot) (c1 s1 : Nat), LawW g x hm w → St g Aw s.heap H locs w → lv_has ls 4 [(0, .ref b), (1, .ref x), (2, .ref hm), (3, .int (iI i))] → c1 ≤ cells + 2 → s1 ≤ slots + 16 → W p l e room_1 s m args below meth c H locs c1 s1 Q (F0 m 1154 ls [])) →
  W p l e room_1 s m args below meth c H locs cells slots Q (F0 m pc ls [])
