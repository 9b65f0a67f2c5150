/-! THE READING OF A MAP: (wrong, where, what was told) -/
abbrev PT : Type := Int × Int × List Int
def tapS (S : Nat → Int) (q : Int) : Int := S (124 + q).toNat
def hereT (S : Nat → Int) (E q : Int) : Int := if q < E then tapS S q else -1
def mustT (S : Nat → Int) (E c : Int) (t : PT) : PT := if t.1 ≠ 0 ∨ hereT S E t.2.1 ≠ c then (1, t.2.1, t.2.2) else (0, t.2.1 + 1, t.2.2)
def spellT (S : Nat → Int) (E : Int) (i : Nat) : Nat → PT → PT
  | 0, t => t
  | k + 1, t => mustT S E (chS i k) (spellT S E i k t)
def digit (c : Int) : Prop := 48 ≤ c ∧ c ≤ 57
noncomputable def figV (S : Nat → Int) (E : Int) (t : PT) : Int := iteP (t.1 = 0 ∧ digit (hereT S E t.2.1)) (iteP (48 < hereT S E t.2.1 ∧ digit (hereT S E (t.2.1 + 1))) (10 * (hereT S E t.2.1 - 48) + hereT S E (t.2.1 + 1) - 48) (hereT S E t.2.1 - 48)) 0
noncomputable def figT (S : Nat → Int) (E : Int) (t : PT) : PT := iteP (t.1 = 0 ∧ digit (hereT S E t.2.1)) (iteP (48 < hereT S E t.2.1 ∧ digit (hereT S E (t.2.1 + 1))) (0, t.2.1 + 2, t.2.2) (0, t.2.1 + 1, t.2.2)) (1, t.2.1, t.2.2)
def amG (c : Int) (i : Nat) : Int → Nat → Int
  | _, 0 => -1
  | k, m + 1 => if c = chS i k.toNat then k else amG c i (k + 1) m
def amV (S : Nat → Int) (E : Int) (i : Nat) (q : Int) : Int := amG (hereT S E q) i 0 (sLen.getD i 0)
def amQ (S : Nat → Int) (E : Int) (i : Nat) (q : Int) : Int := if amV S E i q = -1 then q else q + 1
def emitT (x : Int) (t : PT) : PT := if t.1 ≠ 0 then t else (t.1, t.2.1, t.2.2 ++ [x])
noncomputable def testT (S : Nat → Int) (E : Int) (t : PT) : PT :=
  if amV S E 4 t.2.1 = -1 then (1, t.2.1, t.2.2) else if amV S E 5 (t.2.1 + 1) = -1 then (1, t.2.1 + 1, t.2.2) else
    emitT (amV S E 4 t.2.1 + 8 * amV S E 5 (t.2.1 + 1) + 32 * figV S E (0, t.2.1 + 2, t.2.2)) (figT S E (0, t.2.1 + 2, t.2.2))
noncomputable def pT (S : Nat → Int) (E : Int) : Nat → Nat → Int → PT → PT
  | 0, _, _, t => t
  | n + 1, 0, o, t => if t.1 ≠ 0 then t else
      if hereT S E t.2.1 = 33 then emitT (-1) (pT S E n 0 (o + 1) (if o = 5 then 1 else 0, if o = 5 then t.2.1 else t.2.1 + 1, t.2.2))
      else if hereT S E t.2.1 = 40 then mustT S E 41 (pT S E n 2 (o + 1) (if o = 5 then 1 else 0, if o = 5 then t.2.1 else t.2.1 + 1, t.2.2))
      else testT S E t
  | n + 1, 1, o, t => pT S E n 3 o (pT S E n 0 o t)
  | n + 1, 2, o, t => pT S E n 4 o (pT S E n 1 o t)
  | n + 1, 3, o, t => if t.1 = 0 ∧ hereT S E t.2.1 = 38 then pT S E n 3 o (emitT (-2) (pT S E n 0 o (t.1, t.2.1 + 1, t.2.2))) else t
  | n + 1, 4, o, t => if t.1 = 0 ∧ hereT S E t.2.1 = 124 then pT S E n 4 o (emitT (-3) (pT S E n 1 o (t.1, t.2.1 + 1, t.2.2))) else t
  | _ + 1, _ + 5, _, t => t
def emit1 (ac : Int) (S : Nat → Int) (x : Int) : Nat → Int := va_up (va_up S (239 + 140 * ac + S (234 + ac).toNat).toNat x) (234 + ac).toNat (S (234 + ac).toNat + 1)
def emS (S : Nat → Int) (ac : Int) (L : List Int) : Nat → Int := L.foldl (emit1 ac) S
theorem emS_app (S : Nat → Int) (ac : Int) (L : List Int) (x : Int) : emS S ac (L ++ [x]) = emit1 ac (emS S ac L) x := by
  unfold emS
  rw [List.foldl_append]
  rfl
/-- what holds of the row while a map is read -/
def PIn (S : Nat → Int) (ac E : Int) : Prop := (0 ≤ ac ∧ ac ≤ 4) ∧ (0 ≤ E ∧ E ≤ 100) ∧ S (234 + ac).toNat = 0 ∧ ∀ q : Int, 0 ≤ q → q < E → 0 ≤ tapS S q ∧ tapS S q ≤ 127
def okT (E : Int) (t : PT) : Prop := (0 ≤ t.1 ∧ t.1 ≤ 1) ∧ (0 ≤ t.2.1 ∧ t.2.1 ≤ E) ∧ (t.2.2.length : Int) ≤ t.2.1
/-- further on, and no more told than read -/
def geT (t u : PT) : Prop := t.2.1 ≤ u.2.1 ∧ t.2.1 - t.2.2.length ≤ u.2.1 - u.2.2.length
theorem geT_rf (t : PT) : geT t t := ⟨Int.le_refl _, Int.le_refl _⟩
theorem geT.tr {t u v : PT} (h : geT t u) (k : geT u v) : geT t v := ⟨Int.le_trans h.1 k.1, Int.le_trans h.2 k.2⟩
theorem emS_cnt {S : Nat → Int} {ac E : Int} (hP : PIn S ac E) (L : List Int) : ∀ hl : (L.length : Int) ≤ 100, emS S ac L (234 + ac).toNat = L.length := by
  have h1 := hP.1
  have key : ∀ (M : List Int) (T : Nat → Int), emS T ac M (234 + ac).toNat = T (234 + ac).toNat + M.length := by
    intro M
    induction M with
    | nil => intro T; show T _ = T _ + ((0 : Nat) : Int); omega
    | cons x M ih =>
      intro T
      show emS (emit1 ac T x) ac M _ = _
      rw [ih]
      have e : emit1 ac T x (234 + ac).toNat = T (234 + ac).toNat + 1 := up_same _ _ _
      rw [e, List.length_cons]
      omega
  intro hl
  rw [key, hP.2.2.1]
  omega
theorem emS_low {S : Nat → Int} {ac E : Int} (hP : PIn S ac E) : ∀ (L : List Int) (T : Nat → Int) (j : Nat), j < 234 → 0 ≤ T (234 + ac).toNat → emS T ac L j = T j := by
  have h1 := hP.1
  intro L
  induction L with
  | nil => intro T j _ _; rfl
  | cons x L ih =>
    intro T j hj h0
    show emS (emit1 ac T x) ac L j = T j
    have e : emit1 ac T x (234 + ac).toNat = T (234 + ac).toNat + 1 := up_same _ _ _
    rw [ih _ j hj (by rw [e]; omega)]
    unfold emit1
    rw [up_ne _ _ (by omega), up_ne _ _ (by omega)]
theorem emS_tape {S : Nat → Int} {ac E : Int} (hP : PIn S ac E) (L : List Int) {q : Int} (h : 0 ≤ q ∧ q ≤ 99) : emS S ac L (124 + q).toNat = tapS S q := by
  rw [emS_low hP L S _ (by omega) (by rw [hP.2.2.1]; omega)]
  rfl
theorem hereT_rng {S : Nat → Int} {ac E : Int} (hP : PIn S ac E) {q : Int} (h : 0 ≤ q) : -1 ≤ hereT S E q ∧ hereT S E q ≤ 127 ∧ (0 ≤ hereT S E q → q < E) := by
  unfold hereT
  split
  · have k := hP.2.2.2 q h (by assumption)
    omega
  · omega
theorem mustT_ok {S : Nat → Int} {ac E c : Int} (hP : PIn S ac E) {t : PT} (h : okT E t) (hc : 0 ≤ c) : okT E (mustT S E c t) ∧ geT t (mustT S E c t) := by
  have q := hereT_rng hP h.2.1.1
  obtain ⟨h1, h2, h3⟩ := h
  unfold mustT
  split
  · exact ⟨⟨⟨by show (0 : Int) ≤ 1; omega, by show (1 : Int) ≤ 1; omega⟩, h2, h3⟩, Int.le_refl _, Int.le_refl _⟩
  · refine ⟨⟨⟨by show (0 : Int) ≤ 0; omega, by show (0 : Int) ≤ 1; omega⟩, ⟨?_, ?_⟩, ?_⟩, ?_, ?_⟩
    · show 0 ≤ t.2.1 + 1; omega
    · show t.2.1 + 1 ≤ E; omega
    · show (t.2.2.length : Int) ≤ t.2.1 + 1; omega
    · show t.2.1 ≤ t.2.1 + 1; omega
    · show t.2.1 - t.2.2.length ≤ t.2.1 + 1 - t.2.2.length; omega
theorem chS_nn {i k : Nat} (hi : i < 6) (hk : k < sLen.getD i 0) : 0 ≤ chS i k ∧ chS i k ≤ 127 := (chS_ok i hi k hk).1
theorem spellT_ok {S : Nat → Int} {ac E : Int} (hP : PIn S ac E) {i : Nat} (hi : i < 6) {t : PT} (h : okT E t) : ∀ k : Nat, k ≤ sLen.getD i 0 → okT E (spellT S E i k t) ∧ geT t (spellT S E i k t)
  | 0, _ => ⟨h, geT_rf t⟩
  | k + 1, hk => by
    obtain ⟨h1, h2⟩ := spellT_ok hP hi h k (by omega)
    obtain ⟨h3, h4⟩ := mustT_ok hP h1 (chS_nn hi (show k < _ by omega)).1
    exact ⟨h3, h2.tr h4⟩
theorem spellT_s {S : Nat → Int} {E : Int} {i : Nat} {t : PT} {k : Int} (h : 0 ≤ k) : spellT S E i (k + 1).toNat t = mustT S E (chS i k.toNat) (spellT S E i k.toNat t) := by
  have e : (k + 1).toNat = k.toNat + 1 := by omega
  rw [e, spellT]
theorem figT_ok {S : Nat → Int} {ac E : Int} (hP : PIn S ac E) {t : PT} (h : okT E t) : okT E (figT S E t) ∧ geT t (figT S E t) ∧ (0 ≤ figV S E t ∧ figV S E t ≤ 99) ∧ ((figT S E t).1 = 0 → t.2.1 + 1 ≤ (figT S E t).2.1 ∧ (figT S E t).2.2 = t.2.2) := by
  have q := hereT_rng hP h.2.1.1
  have q2 := hereT_rng hP (show 0 ≤ t.2.1 + 1 by have := h.2.1.1; omega)
  obtain ⟨h1, h2, h3⟩ := h
  unfold figT figV digit
  by_cases c1 : t.1 = 0 ∧ 48 ≤ hereT S E t.2.1 ∧ hereT S E t.2.1 ≤ 57
  · rw [iteP_t c1, iteP_t c1]
    by_cases c2 : 48 < hereT S E t.2.1 ∧ 48 ≤ hereT S E (t.2.1 + 1) ∧ hereT S E (t.2.1 + 1) ≤ 57
    · rw [iteP_t c2, iteP_t c2]
      refine ⟨⟨⟨by show (0 : Int) ≤ 0; omega, by show (0 : Int) ≤ 1; omega⟩, ⟨?_, ?_⟩, ?_⟩, ⟨?_, ?_⟩, by omega, fun _ => ⟨?_, rfl⟩⟩
      · show 0 ≤ t.2.1 + 2; omega
      · show t.2.1 + 2 ≤ E; omega
      · show (t.2.2.length : Int) ≤ t.2.1 + 2; omega
      · show t.2.1 ≤ t.2.1 + 2; omega
      · show t.2.1 - t.2.2.length ≤ t.2.1 + 2 - t.2.2.length; omega
      · show t.2.1 + 1 ≤ t.2.1 + 2; omega
    · rw [iteP_f c2, iteP_f c2]
      refine ⟨⟨⟨by show (0 : Int) ≤ 0; omega, by show (0 : Int) ≤ 1; omega⟩, ⟨?_, ?_⟩, ?_⟩, ⟨?_, ?_⟩, by omega, fun _ => ⟨?_, rfl⟩⟩
      · show 0 ≤ t.2.1 + 1; omega
      · show t.2.1 + 1 ≤ E; omega
      · show (t.2.2.length : Int) ≤ t.2.1 + 1; omega
      · show t.2.1 ≤ t.2.1 + 1; omega
      · show t.2.1 - t.2.2.length ≤ t.2.1 + 1 - t.2.2.length; omega
      · show t.2.1 + 1 ≤ t.2.1 + 1; omega
  · rw [iteP_f c1, iteP_f c1]
    exact ⟨⟨⟨by show (0 : Int) ≤ 1; omega, by show (1 : Int) ≤ 1; omega⟩, h2, h3⟩, ⟨Int.le_refl _, Int.le_refl _⟩, by omega, fun h9 => absurd (show (1 : Int) = 0 from h9) (by decide)⟩
theorem amG_rng (c : Int) (i : Nat) : ∀ (m : Nat) (k : Int), 0 ≤ k → -1 ≤ amG c i k m ∧ amG c i k m < k + m
  | 0, k, h => by show (-1 : Int) ≤ -1 ∧ (-1 : Int) < k + ((0 : Nat) : Int); omega
  | m + 1, k, h => by
    have q := amG_rng c i m (k + 1) (by omega)
    unfold amG
    split <;> omega
theorem amG_neg {c : Int} (hc : c < 0) {i : Nat} (hi : i < 6) : ∀ (m : Nat) (k : Int), 0 ≤ k → k + m ≤ (sLen.getD i 0 : Nat) → amG c i k m = -1
  | 0, k, _, _ => rfl
  | m + 1, k, h, h2 => by
    have q := (chS_nn hi (show k.toNat < _ by omega)).1
    unfold amG
    rw [if_neg (by omega)]
    exact amG_neg hc hi m (k + 1) (by omega) (by omega)
theorem amV_rng {S : Nat → Int} {ac E : Int} (hP : PIn S ac E) {i : Nat} (hi : i < 6) {q : Int} (h : 0 ≤ q) : -1 ≤ amV S E i q ∧ amV S E i q < (sLen.getD i 0 : Nat) ∧ (amV S E i q ≠ -1 → q < E) := by
  have k := amG_rng (hereT S E q) i (sLen.getD i 0) 0 (by omega)
  have k2 := hereT_rng hP h
  refine ⟨k.1, by have := k.2; unfold amV; omega, fun h9 => ?_⟩
  rcases (show hereT S E q < 0 ∨ 0 ≤ hereT S E q by omega) with e | e
  · exact absurd (amG_neg e hi _ 0 (by omega) (by omega)) h9
  · exact k2.2.2 e
theorem emitT_ok {E x : Int} {t : PT} (h : okT E t) (hl : t.1 = 0 → (t.2.2.length : Int) + 1 ≤ t.2.1) : okT E (emitT x t) ∧ t.2.1 = (emitT x t).2.1 ∧ t.1 = (emitT x t).1 ∧ t.2.1 - t.2.2.length - 1 ≤ (emitT x t).2.1 - (emitT x t).2.2.length := by
  obtain ⟨h1, h2, h3⟩ := h
  unfold emitT
  split
  · exact ⟨⟨h1, h2, h3⟩, rfl, rfl, by omega⟩
  · have e : ((t.2.2 ++ [x]).length : Int) = t.2.2.length + 1 := by simp
    refine ⟨⟨h1, h2, ?_⟩, rfl, rfl, ?_⟩
    · show ((t.2.2 ++ [x]).length : Int) ≤ t.2.1; rw [e]; exact hl (by omega)
    · show t.2.1 - t.2.2.length - 1 ≤ t.2.1 - ((t.2.2 ++ [x]).length : Int); rw [e]; omega
theorem testT_ok {S : Nat → Int} {ac E : Int} (hP : PIn S ac E) {t : PT} (h : okT E t) : okT E (testT S E t) ∧ geT t (testT S E t) := by
  have a := amV_rng hP (i := 4) (by decide) h.2.1.1
  have b := amV_rng hP (i := 5) (by decide) (show 0 ≤ t.2.1 + 1 by have := h.2.1.1; omega)
  have h0 := h
  obtain ⟨h1, h2, h3⟩ := h
  unfold testT
  split
  · exact ⟨⟨⟨by show (0 : Int) ≤ 1; omega, by show (1 : Int) ≤ 1; omega⟩, h2, h3⟩, Int.le_refl _, Int.le_refl _⟩
  · rename_i c1
    split
    · refine ⟨⟨⟨by show (0 : Int) ≤ 1; omega, by show (1 : Int) ≤ 1; omega⟩, ⟨?_, ?_⟩, ?_⟩, ?_, ?_⟩
      · show 0 ≤ t.2.1 + 1; omega
      · show t.2.1 + 1 ≤ E; omega
      · show (t.2.2.length : Int) ≤ t.2.1 + 1; omega
      · show t.2.1 ≤ t.2.1 + 1; omega
      · show t.2.1 - t.2.2.length ≤ t.2.1 + 1 - t.2.2.length; omega
    · rename_i c2
      have hk : okT E (0, t.2.1 + 2, t.2.2) := ⟨⟨by show (0 : Int) ≤ 0; omega, by show (0 : Int) ≤ 1; omega⟩, ⟨by show 0 ≤ t.2.1 + 2; omega, by show t.2.1 + 2 ≤ E; have := b.2.2 c2; omega⟩, by show (t.2.2.length : Int) ≤ t.2.1 + 2; omega⟩
      obtain ⟨f1, f2, f3, f4⟩ := figT_ok hP hk
      have g1 : t.2.1 + 2 ≤ (figT S E (0, t.2.1 + 2, t.2.2)).2.1 := f2.1
      have g2 : t.2.1 + 2 - t.2.2.length ≤ (figT S E (0, t.2.1 + 2, t.2.2)).2.1 - (figT S E (0, t.2.1 + 2, t.2.2)).2.2.length := f2.2
      obtain ⟨e1, e2, e3, e4⟩ := emitT_ok (x := amV S E 4 t.2.1 + 8 * amV S E 5 (t.2.1 + 1) + 32 * figV S E (0, t.2.1 + 2, t.2.2)) f1 (fun h9 => by omega)
      exact ⟨e1, by omega, by omega⟩
/-- a step that opens -/
theorem open_ok {S : Nat → Int} {ac E o c : Int} (hP : PIn S ac E) {t : PT} (h : okT E t) (hc : hereT S E t.2.1 = c) (h0 : 0 ≤ c) : okT E (if o = 5 then 1 else 0, if o = 5 then t.2.1 else t.2.1 + 1, t.2.2) ∧ t.2.1 ≤ (if o = 5 then t.2.1 else t.2.1 + 1) := by
  have q := hereT_rng hP h.2.1.1
  obtain ⟨h1, h2, h3⟩ := h
  by_cases ho : o = 5
  · rw [if_pos ho, if_pos ho]
    exact ⟨⟨⟨by show (0 : Int) ≤ 1; omega, by show (1 : Int) ≤ 1; omega⟩, h2, h3⟩, Int.le_refl _⟩
  · rw [if_neg ho, if_neg ho]
    refine ⟨⟨⟨by show (0 : Int) ≤ 0; omega, by show (0 : Int) ≤ 1; omega⟩, ⟨?_, ?_⟩, ?_⟩, by omega⟩
    · show 0 ≤ t.2.1 + 1; omega
    · show t.2.1 + 1 ≤ E; omega
    · show (t.2.2.length : Int) ≤ t.2.1 + 1; omega
theorem step_ok {S : Nat → Int} {ac E c : Int} (hP : PIn S ac E) {t : PT} (h : okT E t) (hc : hereT S E t.2.1 = c) (h0 : 0 ≤ c) : okT E (t.1, t.2.1 + 1, t.2.2) := by
  have q := hereT_rng hP h.2.1.1
  obtain ⟨h1, h2, h3⟩ := h
  exact ⟨h1, ⟨by show 0 ≤ t.2.1 + 1; omega, by show t.2.1 + 1 ≤ E; omega⟩, by show (t.2.2.length : Int) ≤ t.2.1 + 1; omega⟩
/-- what is wrong stays so -/
theorem pT_w {S : Nat → Int} {E : Int} : ∀ (n m : Nat) (o : Int) (t : PT), t.1 ≠ 0 → pT S E n m o t = t
  | 0, _, _, t, _ => by cases t; rfl
  | n + 1, 0, o, t, h => by rw [pT, if_pos h]
  | n + 1, 1, o, t, h => by rw [pT, pT_w n 0 o t h, pT_w n 3 o t h]
  | n + 1, 2, o, t, h => by rw [pT, pT_w n 1 o t h, pT_w n 4 o t h]
  | n + 1, 3, o, t, h => by rw [pT, if_neg (fun k => h k.1)]
  | n + 1, 4, o, t, h => by rw [pT, if_neg (fun k => h k.1)]
  | n + 1, m + 5, o, t, h => by rw [pT]
theorem pT_ok {S : Nat → Int} {ac E : Int} (hP : PIn S ac E) : ∀ (n m : Nat) (o : Int) (t : PT), okT E t → okT E (pT S E n m o t) ∧ geT t (pT S E n m o t)
  | 0, m, o, t, h => by
    have e : pT S E 0 m o t = t := by rw [pT]
    rw [e]
    exact ⟨h, geT_rf t⟩
  | n + 1, 0, o, t, h => by
    rw [pT]
    split
    · exact ⟨h, geT_rf t⟩
    · rename_i c0
      split
      · rename_i c1
        obtain ⟨k1, k2⟩ := open_ok (o := o) hP h c1 (by decide)
        obtain ⟨r1, r2⟩ := pT_ok hP n 0 (o + 1) _ k1
        have r3 : (if o = 5 then t.2.1 else t.2.1 + 1) ≤ (pT S E n 0 (o + 1) (if o = 5 then 1 else 0, if o = 5 then t.2.1 else t.2.1 + 1, t.2.2)).2.1 := r2.1
        have r4 : (if o = 5 then t.2.1 else t.2.1 + 1) - t.2.2.length ≤ (pT S E n 0 (o + 1) (if o = 5 then 1 else 0, if o = 5 then t.2.1 else t.2.1 + 1, t.2.2)).2.1 - (pT S E n 0 (o + 1) (if o = 5 then 1 else 0, if o = 5 then t.2.1 else t.2.1 + 1, t.2.2)).2.2.length := r2.2
        by_cases ho : o = 5
        · rw [if_pos ho, if_pos ho] at r3 r4 r1 ⊢
          rw [pT_w n 0 (o + 1) (1, t.2.1, t.2.2) (by show (1 : Int) ≠ 0; decide)] at r3 r4 r1 ⊢
          have e : emitT (-1) (1, t.2.1, t.2.2) = (1, t.2.1, t.2.2) := if_pos (by show (1 : Int) ≠ 0; decide)
          rw [e]
          exact ⟨r1, Int.le_refl _, Int.le_refl _⟩
        · rw [if_neg ho, if_neg ho] at r3 r4 r1 ⊢
          have h3 := h.2.2
          obtain ⟨e1, e2, e3, e4⟩ := emitT_ok (x := -1) r1 (fun h9 => by omega)
          exact ⟨e1, by omega, by omega⟩
      · split
        · rename_i c1 c2
          obtain ⟨k1, k2⟩ := open_ok (o := o) hP h c2 (by decide)
          obtain ⟨r1, r2⟩ := pT_ok hP n 2 (o + 1) _ k1
          have r3 : (if o = 5 then t.2.1 else t.2.1 + 1) ≤ (pT S E n 2 (o + 1) (if o = 5 then 1 else 0, if o = 5 then t.2.1 else t.2.1 + 1, t.2.2)).2.1 := r2.1
          have r4 : (if o = 5 then t.2.1 else t.2.1 + 1) - t.2.2.length ≤ (pT S E n 2 (o + 1) (if o = 5 then 1 else 0, if o = 5 then t.2.1 else t.2.1 + 1, t.2.2)).2.1 - (pT S E n 2 (o + 1) (if o = 5 then 1 else 0, if o = 5 then t.2.1 else t.2.1 + 1, t.2.2)).2.2.length := r2.2
          obtain ⟨e1, e2, e3⟩ := mustT_ok hP r1 (show (0 : Int) ≤ 41 by decide)
          exact ⟨e1, by omega, by omega⟩
        · exact testT_ok hP h
  | n + 1, 1, o, t, h => by
    rw [pT]
    obtain ⟨a, b⟩ := pT_ok hP n 0 o t h
    obtain ⟨c, d⟩ := pT_ok hP n 3 o _ a
    exact ⟨c, b.tr d⟩
  | n + 1, 2, o, t, h => by
    rw [pT]
    obtain ⟨a, b⟩ := pT_ok hP n 1 o t h
    obtain ⟨c, d⟩ := pT_ok hP n 4 o _ a
    exact ⟨c, b.tr d⟩
  | n + 1, 3, o, t, h => by
    rw [pT]
    split
    · rename_i c1
      obtain ⟨a, b⟩ := pT_ok hP n 0 o _ (step_ok hP h c1.2 (by decide))
      have h3 := h.2.2
      have b1 : t.2.1 + 1 ≤ (pT S E n 0 o (t.1, t.2.1 + 1, t.2.2)).2.1 := b.1
      have b2' : t.2.1 + 1 - t.2.2.length ≤ (pT S E n 0 o (t.1, t.2.1 + 1, t.2.2)).2.1 - (pT S E n 0 o (t.1, t.2.1 + 1, t.2.2)).2.2.length := b.2
      obtain ⟨e1, e2, e3, e4⟩ := emitT_ok (x := -2) a (fun h9 => by omega)
      obtain ⟨c, d⟩ := pT_ok hP n 3 o _ e1
      obtain ⟨d1, d2⟩ := d
      exact ⟨c, by omega, by omega⟩
    · exact ⟨h, geT_rf t⟩
  | n + 1, 4, o, t, h => by
    rw [pT]
    split
    · rename_i c1
      obtain ⟨a, b⟩ := pT_ok hP n 1 o _ (step_ok hP h c1.2 (by decide))
      have h3 := h.2.2
      have b1 : t.2.1 + 1 ≤ (pT S E n 1 o (t.1, t.2.1 + 1, t.2.2)).2.1 := b.1
      have b2' : t.2.1 + 1 - t.2.2.length ≤ (pT S E n 1 o (t.1, t.2.1 + 1, t.2.2)).2.1 - (pT S E n 1 o (t.1, t.2.1 + 1, t.2.2)).2.2.length := b.2
      obtain ⟨e1, e2, e3, e4⟩ := emitT_ok (x := -3) a (fun h9 => by omega)
      obtain ⟨c, d⟩ := pT_ok hP n 4 o _ e1
      obtain ⟨d1, d2⟩ := d
      exact ⟨c, by omega, by omega⟩
    · exact ⟨h, geT_rf t⟩
  | n + 1, m + 5, o, t, h => by
    have e : pT S E (n + 1) (m + 5) o t = t := by rw [pT]
    rw [e]
    exact ⟨h, geT_rf t⟩
