theorem fig_w {B : Nat → Int} {Z : Int} {t : PT} (h : t.1 = 1) : figT B Z t = t := by
  rw [show figT B Z t = (1, t.2.1, t.2.2) from iteP_f (fun h9 => by have := h9.1; omega)]
  exact pt_eta h
theorem spell_ne {B : Nat → Int} {Z : Int} {i : Nat} {t : PT} (hl : 1 ≤ sLen.getD i 0) (h0 : hereT B Z t.2.1 ≠ chS i 0) : spellT B Z i (sLen.getD i 0) t = (1, t.2.1, t.2.2) := by
  have e : spellT B Z i ((0 : Int) + 1).toNat t = (1, t.2.1, t.2.2) := by
    show mustT B Z (chS i 0) t = _
    exact must_1 h0
  rw [spell_w (k := 0) (by omega) (by omega) (by rw [e]), e]
theorem rdw_0 {g : GG} {ad : Nat → Nat} {F : Nat → Int} {A : Nat → Nat → Int} {E : Nat → Nat} {tl : va_W} {wd rv : Int} : CW g ad (va_up (va_up (va_up (va_up F 40 0) 67 0) 68 wd) 69 rv) A E tl = RdW g ad F A E tl wd rv (F 70) (0, 0, []) := by
  show _ = CW g ad (va_up (va_up (va_up (va_up (va_up F 40 ((0 : Nat) : Int)) 67 0) 68 wd) 69 rv) 70 (F 70)) (va_up A 41 (cdA (A 41) [])) E tl
  rw [cdA_0]
  rfl
theorem much_1 {B : Nat → Int} {Z kind : Int} {i : Nat} {t u : PT} (hu : u = spellT B Z i (sLen.getD i 0) t) (h : u.1 = 1) : muchT B Z kind i t = u := by
  unfold muchT
  rw [← hu, fig_w h, must_w h, pT_w _ _ _ _ (by omega), emit_1 (by omega)]
theorem much_2 {B : Nat → Int} {Z kind : Int} {i : Nat} {t u v : PT} (hu : u = spellT B Z i (sLen.getD i 0) t) (hv : v = figT B Z u) (h : v.1 = 1) : muchT B Z kind i t = v := by
  unfold muchT
  rw [← hu, ← hv, must_w h, pT_w _ _ _ _ (by omega), emit_1 (by omega)]
theorem much_3 {B : Nat → Int} {Z kind : Int} {i : Nat} {t u v w : PT} (hu : u = spellT B Z i (sLen.getD i 0) t) (hv : v = figT B Z u) (hw : w = mustT B Z 32 v) (h : w.1 = 1) : muchT B Z kind i t = w := by
  unfold muchT
  rw [← hu, ← hv, ← hw, pT_w _ _ _ _ (by omega), emit_1 (by omega)]
theorem much_4 {B : Nat → Int} {Z kind : Int} {i : Nat} {t u v w x : PT} (hu : u = spellT B Z i (sLen.getD i 0) t) (hv : v = figT B Z u) (hw : w = mustT B Z 32 v) (hx : x = pT B Z 500 2 0 w) : muchT B Z kind i t = emitT (kind - figV B Z u) x := by
  unfold muchT
  rw [← hu, ← hv, ← hw, ← hx]
/-- the map that was read, in the row -/
theorem emS_out {ac : Int} (h1 : 0 ≤ ac) : ∀ (L : List Int) (T : Nat → Int) (j : Nat), (j : Int) ≠ 234 + ac → 0 ≤ T (234 + ac).toNat → ((j : Int) < 239 + 140 * ac + T (234 + ac).toNat ∨ 239 + 140 * ac + T (234 + ac).toNat + L.length ≤ j) → ac ≤ 4 → emS T ac L j = T j := by
  intro L
  induction L with
  | nil => intro T j _ _ _ _; rfl
  | cons x L ih =>
    intro T j hj h0 h2 h4
    rw [List.length_cons] at h2
    show emS (emit1 ac T x) ac L j = T j
    have e : emit1 ac T x (234 + ac).toNat = T (234 + ac).toNat + 1 := up_same _ _ _
    rw [ih _ j hj (by rw [e]; omega) (by rw [e]; omega) h4]
    unfold emit1
    rw [up_ne _ _ (by omega), up_ne _ _ (by omega)]
theorem emS_in {ac : Int} (h1 : 0 ≤ ac) (h4 : ac ≤ 4) : ∀ (L : List Int) (T : Nat → Int) (i : Nat), i < L.length → 0 ≤ T (234 + ac).toNat → emS T ac L (239 + 140 * ac + (T (234 + ac).toNat + i)).toNat = L.getD i 0 := by
  intro L
  induction L with
  | nil => intro T i h; exact absurd h (Nat.not_lt_zero _)
  | cons x L ih =>
    intro T i hi h0
    rw [List.length_cons] at hi
    show emS (emit1 ac T x) ac L _ = _
    have e : emit1 ac T x (234 + ac).toNat = T (234 + ac).toNat + 1 := up_same _ _ _
    cases i with
    | zero =>
      rw [emS_out h1 L _ _ (by omega) (by rw [e]; omega) (by rw [e]; omega) h4]
      unfold emit1
      rw [up_ne _ _ (by omega), show (239 + 140 * ac + (T (234 + ac).toNat + ((0 : Nat) : Int))).toNat = (239 + 140 * ac + T (234 + ac).toNat).toNat by omega, up_same]
      rfl
    | succ i =>
      have r := ih (emit1 ac T x) i (by omega) (by rw [e]; omega)
      rw [e] at r
      rw [show (239 + 140 * ac + (T (234 + ac).toNat + ((i + 1 : Nat) : Int))).toNat = (239 + 140 * ac + (T (234 + ac).toNat + 1 + (i : Int))).toNat by omega, r]
      rfl
/-- which map is held: one that was read -/
def InvM (S : Nat → Int) : Prop := S 6 < S 1
theorem held_same {S T : Nat → Int} (hH : InvH S) (h6 : T 6 = S 6) (hm : 0 ≤ S 6 → T (224 + S 6).toNat = S (224 + S 6).toNat ∧ T (229 + S 6).toNat = S (229 + S 6).toNat ∧ T (234 + S 6).toNat = S (234 + S 6).toNat ∧ ∀ i : Nat, (i : Int) < manyS S → T (239 + 140 * S 6 + (i : Int)).toNat = S (239 + 140 * S 6 + (i : Int)).toNat) : manyS T = manyS S ∧ (∀ i : Nat, (i : Int) < manyS S → codeS T i = codeS S i) ∧ wideS T = wideS S ∧ riverS T = riverS S := by
  have h0 := hH.1
  by_cases h7 : S 6 = -1
  · have e : ∀ w z : Int, tellsS T w z = z ∧ tellsS S w z = z := fun w z => ⟨by unfold tellsS; rw [h6, if_pos h7], by unfold tellsS; rw [if_pos h7]⟩
    refine ⟨(e 234 0).1.trans (e 234 0).2.symm, fun i hi => ?_, ?_, (e 229 99).1.trans (e 229 99).2.symm⟩
    · exact absurd hi (by rw [show manyS S = 0 from (e 234 0).2]; omega)
    · unfold wideS
      rw [(e 224 24).1, (e 224 24).2]
  · obtain ⟨a1, a2, a3, a4⟩ := hm (by omega)
    have e : ∀ w z : Int, T (w + S 6).toNat = S (w + S 6).toNat → tellsS T w z = tellsS S w z := fun w z h => by unfold tellsS; rw [h6, if_neg h7, if_neg h7, h]
    refine ⟨e 234 0 a3, fun i hi => ?_, ?_, e 229 99 a2⟩
    · unfold codeS
      rw [h6]
      exact a4 i hi
    · unfold wideS
      rw [e 224 24 a1]
section MP
variable {S : Nat → Int} {x : CT}
theorem map_lo (hT : InvT S) (h1 : S 1 ≠ 5) (hs : sameB (S 1) (mapB S) x.1) {j : Nat} (hj : j < 234) (h5 : j ≠ 5) (h2 : j ≠ (224 + S 1).toNat) (h3 : j ≠ (229 + S 1).toNat) : emS x.1 (S 1) x.2.2.2 j = S j := by
  have hP := sameB_PIn (mapB_PIn hT h1) hs
  have hP2 := hP.2.2.1
  have hT1 := hT.1
  rw [emS_low hP _ _ _ hj (by omega), hs j h2 h3]
  unfold mapB
  rw [up_ne _ _ (by omega), up_ne _ _ h3, up_ne _ _ h2, up_ne _ _ h5]
theorem map_5 (hT : InvT S) (h1 : S 1 ≠ 5) (hs : sameB (S 1) (mapB S) x.1) : emS x.1 (S 1) x.2.2.2 5 = 0 := by
  have hP := sameB_PIn (mapB_PIn hT h1) hs
  have hP2 := hP.2.2.1
  have hT1 := hT.1
  rw [emS_low hP _ _ _ (by omega) (by omega), hs 5 (by omega) (by omega)]
  unfold mapB
  rw [up_ne _ _ (by omega), up_ne _ _ (by omega), up_ne _ _ (by omega), up_same]
theorem map_hi (hT : InvT S) (h1 : S 1 ≠ 5) (hs : sameB (S 1) (mapB S) x.1) (hl : (x.2.2.2.length : Int) ≤ 100) {j : Nat} (hj : 234 ≤ j) (h2 : (j : Int) ≠ 234 + S 1) (h3 : (j : Int) < 239 + 140 * S 1 ∨ 339 + 140 * S 1 ≤ j) : emS x.1 (S 1) x.2.2.2 j = S j := by
  have hP := sameB_PIn (mapB_PIn hT h1) hs
  have hP2 := hP.2.2.1
  have hT1 := hT.1
  rw [emS_out hT1.1 _ _ _ h2 (by omega) (by omega) (by omega), hs j (by omega) (by omega)]
  unfold mapB
  rw [up_ne _ _ (by omega), up_ne _ _ (by omega), up_ne _ _ (by omega), up_ne _ _ (by omega)]
theorem map_held (hT : InvT S) (hM : InvM S) (hH : InvH S) (hC : InvC S) (h1 : S 1 ≠ 5) (hs : sameB (S 1) (mapB S) x.1) (hl : (x.2.2.2.length : Int) ≤ 100) : manyS (emS x.1 (S 1) x.2.2.2) = manyS S ∧ (∀ i : Nat, (i : Int) < manyS S → codeS (emS x.1 (S 1) x.2.2.2) i = codeS S i) ∧ wideS (emS x.1 (S 1) x.2.2.2) = wideS S ∧ riverS (emS x.1 (S 1) x.2.2.2) = riverS S := by
  have hT1 := hT.1
  have hM1 : S 6 < S 1 := hM
  have hm := hC.1
  have hH1 := hH.1
  refine held_same hH (map_lo hT h1 hs (by omega) (by omega) (by omega) (by omega)) (fun h6 => ⟨map_lo hT h1 hs (by omega) (by omega) (by omega) (by omega), map_lo hT h1 hs (by omega) (by omega) (by omega) (by omega), map_hi hT h1 hs hl (by omega) (by omega) (by omega), fun i hi => map_hi hT h1 hs hl (by omega) (by omega) (by omega)⟩)
theorem map_new (hT : InvT S) (h1 : S 1 ≠ 5) (hs : sameB (S 1) (mapB S) x.1) (hl : (x.2.2.2.length : Int) ≤ 100) : manyS (va_up (va_up (emS x.1 (S 1) x.2.2.2) 1 (S 1 + 1)) 6 (S 1)) = x.2.2.2.length ∧ (∀ i : Nat, i < x.2.2.2.length → codeS (va_up (va_up (emS x.1 (S 1) x.2.2.2) 1 (S 1 + 1)) 6 (S 1)) i = x.2.2.2.getD i 0) ∧ wideS (va_up (va_up (emS x.1 (S 1) x.2.2.2) 1 (S 1 + 1)) 6 (S 1)) = clampS (x.1 (224 + S 1).toNat) 10 30 ∧ riverS (va_up (va_up (emS x.1 (S 1) x.2.2.2) 1 (S 1 + 1)) 6 (S 1)) = x.1 (229 + S 1).toNat := by
  have hP := sameB_PIn (mapB_PIn hT h1) hs
  have hP2 := hP.2.2.1
  have hT1 := hT.1
  have e : ∀ w z : Int, 7 ≤ w → tellsS (va_up (va_up (emS x.1 (S 1) x.2.2.2) 1 (S 1 + 1)) 6 (S 1)) w z = emS x.1 (S 1) x.2.2.2 (w + S 1).toNat := by
    intro w z hw
    unfold tellsS
    rw [up_same, if_neg (by omega), up_ne _ _ (by omega), up_ne _ _ (by omega)]
  refine ⟨?_, fun i hi => ?_, ?_, ?_⟩
  · unfold manyS
    rw [e 234 0 (by decide)]
    exact emS_cnt hP _ hl
  · unfold codeS
    rw [up_same, up_ne _ _ (by omega), up_ne _ _ (by omega)]
    have r := emS_in hT1.1 (by omega) x.2.2.2 x.1 i hi (by omega)
    rw [hP2, Int.zero_add] at r
    exact r
  · unfold wideS
    rw [e 224 24 (by decide), emS_low hP _ _ _ (by omega) (by omega)]
  · unfold riverS
    rw [e 229 99 (by decide), emS_low hP _ _ _ (by omega) (by omega)]
end MP
