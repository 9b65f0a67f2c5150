def InvL (S : Nat → Int) : Prop := (0 ≤ S 2 ∧ S 2 ≤ 5) ∧ (0 ≤ S 3 ∧ S 3 ≤ 8) ∧ (0 ≤ S 4 ∧ S 4 ≤ 8) ∧ (∀ k : Int, 0 ≤ k → k < S 2 → (0 ≤ S (77 + k).toNat ∧ S (77 + k).toNat ≤ 29) ∧ (0 ≤ S (82 + k).toNat ∧ S (82 + k).toNat ≤ 11) ∧ (0 ≤ S (87 + k).toNat ∧ S (87 + k).toNat ≤ 1)) ∧ (∀ k : Int, 0 ≤ k → k < S 3 → (0 ≤ S (92 + k).toNat ∧ S (92 + k).toNat < S 0) ∧ (0 ≤ S (100 + k).toNat ∧ S (100 + k).toNat ≤ 4)) ∧ (∀ k : Int, 0 ≤ k → k < S 4 → (0 ≤ S (108 + k).toNat ∧ S (108 + k).toNat < S 0) ∧ (0 ≤ S (116 + k).toNat ∧ S (116 + k).toNat ≤ 4))
def absD (a b : Int) : Int := if a < b then b - a else a - b
def farS (S : Nat → Int) (n d : Int) : Int := absD (firstS S n (S (42 + n).toNat) + lenS S n / 2) (S (28 + d).toNat) + absD (rowS S n (S (42 + n).toNat)) (S (35 + d).toNat)
def mistS (S : Nat → Int) (n : Int) : Prop := exB (fun d => S (42 + n).toNat ≠ 4 ∧ farS S n d < farS S n n) (S 0)
noncomputable def atS (S : Nat → Int) (c r : Int) : Int := setB (fun n => isAtS S n (S (42 + n).toNat) c r) (S 0).toNat
def dotAtS (S : Nat → Int) (c r : Int) : Prop := exB (fun d => S (28 + d).toNat = c ∧ S (35 + d).toNat = r) (S 0)
noncomputable def laidS (S : Nat → Int) : Int := cntB (fun n => S (42 + n).toNat ≠ 4) (S 0).toNat
def plS (S : Nat → Int) (n how p : Int) : Prop := (how = 7 → mayS S n p) ∧ (how = 8 → fitsS S n p (wideS S)) ∧ (how ≠ 7 → how ≠ 8 → freeS S n p)
noncomputable def ofS (S : Nat → Int) (n what : Int) : Int := if what < 5 then S (7 + 7 * what + n).toNat else if what = 5 then lenS S n else if what = 6 then (if S (42 + n).toNat = 4 then -5 else S (42 + n).toNat) else setB (plS S n what) 4
def underS (kind k : Int) : Prop := k = 0 ∨ k = kind ∨ (0 < k ∧ k < 4 ∧ kind = k + 3)
def seenS (S : Nat → Int) : Prop := allB (fun k => (0 < atS S (S (77 + k).toNat) (S (82 + k).toNat)) ↔ S (87 + k).toNat = 1) (S 2)
def firstLook (Q : Int → Prop) (n : Int) (r : Int) : Prop := (r = -5 ∧ allB Q n) ∨ (0 ≤ r ∧ r < n ∧ allB Q r ∧ ¬ Q r)
theorem firstLook_one {Q : Int → Prop} {n r r2 : Int} (h : firstLook Q n r) (h2 : firstLook Q n r2) : r = r2 := by
  rcases h with ⟨a, b⟩ | ⟨a, b, c, d⟩ <;> rcases h2 with ⟨a2, b2⟩ | ⟨a2, b2, c2, d2⟩
  · omega
  · exact absurd (b r2 a2 b2) d2
  · exact absurd (b2 r a b) d
  · rcases (show r < r2 ∨ r = r2 ∨ r2 < r by omega) with q | q | q
    · exact absurd (c2 r a q) d
    · exact q
    · exact absurd (c r2 a2 q) d2
def cmpS (a b : Int) : Int := if a < b then -1 else if b < a then 1 else 0
theorem cmpS_f (a b : Int) : (cmpS a b < 0 ↔ a < b) ∧ (cmpS a b = 0 ↔ a = b) ∧ (0 < cmpS a b ↔ b < a) ∧ -1 ≤ cmpS a b ∧ cmpS a b ≤ 1 := by
  unfold cmpS
  split
  · omega
  · split <;> omega
theorem jI_lt {a b : Int} (ha : rngL a) (hb : rngL b) : jI a < jI b ↔ a < b := by rw [Int64.lt_iff_toInt_lt, jI_t ha, jI_t hb]
theorem jI_eq {a b : Int} (ha : rngL a) (hb : rngL b) : jI a = jI b ↔ a = b :=
  ⟨fun h => by have h2 := congrArg Int64.toInt h; rwa [jI_t ha, jI_t hb] at h2, fun h => by rw [h]⟩
theorem rgL {z : Int} (h1 : -9223372036854775808 ≤ z) (h2 : z ≤ 9223372036854775807) : rngL z := ⟨h1, h2⟩
theorem jdiv_t {a b : Int} (ha : -1000000 ≤ a ∧ a ≤ 1000000) (hb : 0 < b ∧ b ≤ 1000000) : jdiv a b = a.tdiv b := by
  unfold jdiv
  rw [Int64.toInt_div_of_ne_right _ _ (by intro h; have h2 := congrArg Int64.toInt h; rw [jI_t (rgL (by omega) (by omega))] at h2; simp at h2; omega), jI_t (rgL (by omega) (by omega)), jI_t (rgL (by omega) (by omega))]
theorem jrem_nn {a b : Int} (ha : 0 ≤ a ∧ a ≤ 1000000) (hb : 0 < b ∧ b ≤ 1000000) : jrem a b = a % b := by
  have h := jdiv_t (a := a) (b := b) (by omega) hb
  rw [Int.tdiv_eq_ediv_of_nonneg ha.1] at h
  have e : jI a / jI b = jI (a / b) := by rw [← jI_of (jI a / jI b)]; exact congrArg jI h
  unfold jrem
  have hm : 0 ≤ a % b ∧ a % b < b := ⟨Int.emod_nonneg a (by omega), Int.emod_lt_of_pos a hb.1⟩
  have hd := Int.mul_ediv_add_emod a b
  rw [e, jI_mul, jI_sub, show a - a / b * b = a % b by rw [Int.mul_comm]; omega, jI_t (rgL (by omega) (by omega))]
theorem gcd_s {x y : Int} (hx : 0 ≤ x) (hy : 0 < y) : Int.gcd y (x % y) = Int.gcd x y := by
  obtain ⟨a, rfl⟩ := Int.eq_ofNat_of_zero_le hx
  obtain ⟨b, rfl⟩ := Int.eq_ofNat_of_zero_le (Int.le_of_lt hy)
  show Nat.gcd b (a % b) = Nat.gcd a b
  rw [Nat.gcd_comm a b, Nat.gcd_rec b a, Nat.gcd_comm]
def lowS (up low part : Int) : Int := (if part = 0 then up else low).tdiv (Int.gcd up low : Int)
section R5
variable {p : Program} {l : Launch} {e : Env} {R : Room} {s : State} {m : MethodId} {args : Array Value} {below : List Frame} {meth : Method} {c : Code} {H : Heap} {locs : List Loc} {cells slots : Nat} {Q : State → Prop}
variable {cc : ByteArray} {nL : Nat} {ret : Option FieldType} {own : String} {pc : Nat} {ls : Array Slot} {rest : List Value} {g : GG} {A : Nat → Prop} {ws ws' : va_W}
theorem li_lcmp (hC : Cx p s m args meth c cc nL ret own) {a b : Int} (ha : rngL a) (hb : rngL b) (hdg : decode cc pc = .ok (.lcmp, 1)) (k : W p l e R s m args below meth c H locs cells slots Q (F0 m (pc + 1) ls (.int (iI (cmpS a b)) :: rest))) : W p l e R s m args below meth c H locs cells slots Q (F0 m pc ls (.long (jI b) :: .long (jI a) :: rest)) := by
  refine W.lcmp hC.1 hC.2.1 hdg ?_
  have e : lg_cmp (jI a) (jI b) = iI (cmpS a b) := by
    have e1 := jI_lt ha hb
    have e2 := jI_lt hb ha
    have e3 := jI_eq ha hb
    unfold lg_cmp cmpS
    simp only [gt_iff_lt, e1, e2, e3]
    (repeat' split) <;> first | rfl | omega
  rw [e]
  exact k
theorem li_lstore_n (hC : Cx p s m args meth c cc nL ret own) {lv lv' : List (Nat × Value)} (hl : lv_has ls nL lv) {k : Fin 4} {z : Int} (hn : (k : Nat) + 1 < nL) (hl2 : ((k : Nat), Value.long (jI z)) :: lv.filter (fun q => !(q.1 == (k : Nat)) && (!(q.1 == (k : Nat) + 1) && !(q.1 + 1 == (k : Nat) && q.2.category == 2))) = lv') (hdg : decode cc pc = .ok (.lstore_n k, 1)) (kk : ∀ ls' : Array Slot, lv_has ls' nL lv' → W p l e R s m args below meth c H locs cells slots Q (F0 m (pc + 1) ls' rest)) : W p l e R s m args below meth c H locs cells slots Q (F0 m pc ls (.long (jI z) :: rest)) :=
  lv_lstore_n hC.1 hC.2.1 hdg rfl hl hn hl2 kk
theorem li_lstore (hC : Cx p s m args meth c cc nL ret own) {lv lv' : List (Nat × Value)} (hl : lv_has ls nL lv) {i : Nat} {z : Int} (hn : i + 1 < nL) (hl2 : (i, Value.long (jI z)) :: lv.filter (fun q => !(q.1 == i) && (!(q.1 == i + 1) && !(q.1 + 1 == i && q.2.category == 2))) = lv') (hdg : decode cc pc = .ok (.lstore i, 2)) (kk : ∀ ls' : Array Slot, lv_has ls' nL lv' → W p l e R s m args below meth c H locs cells slots Q (F0 m (pc + 2) ls' rest)) : W p l e R s m args below meth c H locs cells slots Q (F0 m pc ls (.long (jI z) :: rest)) :=
  lv_lstore hC.1 hC.2.1 hdg hl hn hl2 kk
end R5
