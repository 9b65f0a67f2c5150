section MORE
variable {p : Program} {l : Launch} {e : Env} {R : Room} {s : State} {m : MethodId} {args : Array Value} {below : List Frame} {meth : Method} {c : Code} {H : Heap} {locs : List Loc} {cells slots : Nat} {Q : State → Prop}
variable {cc : ByteArray} {nL : Nat} {ret : Option FieldType} {own : String} {pc : Nat} {ls : Array Slot} {rest : List Value} {g : GG} {A : Nat → Prop} {ws ws' : va_W}
theorem li_idivN (hC : Cx p s m args meth c cc nL ret own) {a b : Int} (h1 : 0 ≤ a) (h2 : a ≤ 2147483647) (h3 : 0 < b) (h4 : b ≤ 2147483647) (hdg : decode cc pc = .ok (.idiv, 1)) (k : W p l e R s m args below meth c H locs cells slots Q (F0 m (pc + 1) ls (.int (iI (a / b)) :: rest))) : W p l e R s m args below meth c H locs cells slots Q (F0 m pc ls (.int (iI b) :: .int (iI a) :: rest)) :=
  li_idiv hC (by omega) (rg (by omega) (by omega)) hdg (by rw [idiv_nn h1 h2 h3 h4]; exact k)
theorem li_iremN (hC : Cx p s m args meth c cc nL ret own) {a b : Int} (h1 : 0 ≤ a) (h2 : a ≤ 2147483647) (h3 : 0 < b) (h4 : b ≤ 2147483647) (hdg : decode cc pc = .ok (.irem, 1)) (k : W p l e R s m args below meth c H locs cells slots Q (F0 m (pc + 1) ls (.int (iI (a % b)) :: rest))) : W p l e R s m args below meth c H locs cells slots Q (F0 m pc ls (.int (iI b) :: .int (iI a) :: rest)) :=
  li_irem hC (by omega) (rg (by omega) (by omega)) hdg (by rw [irem_nn h1 h2 h3 h4]; exact k)
theorem jI_inj {a b : Int} (h : a = b) : jI a = jI b := by rw [h]
theorem li_iald_k (hC : Cx p s m args meth c cc nL ret own) (hK : KU g s) {a n : Nat} {f : Nat → Int} (ha : va_at g.1 vwCl (a, .inl (g.2.1 0, n, .inl (aI f))) H) {z : Int} {k : Nat} (hz : z = (k : Int)) (hk : k < n) (hn : n < 2147483648) (hdg : decode cc pc = .ok (.iaload, 1)) (kk : W p l e R s m args below meth c H locs cells slots Q (F0 m (pc + 1) ls (.int (iI (f k)) :: rest))) : W p l e R s m args below meth c H locs cells slots Q (F0 m pc ls (.int (iI z) :: .ref a :: rest)) :=
  li_iald hC hK ha (by omega) hn hdg (by rw [hz, Int.toNat_natCast]; exact kk)
theorem li_zald_k (hC : Cx p s m args meth c cc nL ret own) (hK : KU g s) {a n : Nat} {f : Nat → Int} (ha : va_at g.1 vwCl (a, .inl (g.2.1 1, n, .inl (aI f))) H) {z : Int} {k : Nat} (hz : z = (k : Int)) (hk : k < n) (hn : n < 2147483648) (hdg : decode cc pc = .ok (.baload, 1)) (kk : W p l e R s m args below meth c H locs cells slots Q (F0 m (pc + 1) ls (.int (iI (f k)) :: rest))) : W p l e R s m args below meth c H locs cells slots Q (F0 m pc ls (.int (iI z) :: .ref a :: rest)) :=
  li_zald hC hK ha (by omega) hn hdg (by rw [hz, Int.toNat_natCast]; exact kk)
end MORE
