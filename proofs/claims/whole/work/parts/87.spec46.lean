/-! WHAT A MAP TELLS IS IN ORDER -/
def fL (L : List Int) : Nat → Int := fun i => L.getD i 0
def dL (L : List Int) : Int := depS (fL L) L.length
def cL (L : List Int) : Int := clS (fL L) L.length
def stepOK (st d : Int) : Prop := okS st d ∧ (st ≤ -10 → d = 1) ∧ (0 ≤ st → st / 8 % 4 ≤ 2) ∧ (-10 < st → -3 ≤ st)
def GoodL (L : List Int) : Prop := ∀ i : Nat, i < L.length → stepOK (fL L i) (depS (fL L) i)
theorem depS_ext {f h : Nat → Int} : ∀ n : Nat, (∀ i : Nat, i < n → f i = h i) → depS f n = depS h n
  | 0, _ => rfl
  | n + 1, e => by
    have ih := depS_ext n (fun i hi => e i (by omega))
    have en := e n (by omega)
    show (if 0 ≤ f n then depS f n + 1 else if f n = -1 then depS f n else if -10 < f n then depS f n - 1 else 0) = (if 0 ≤ h n then depS h n + 1 else if h n = -1 then depS h n else if -10 < h n then depS h n - 1 else 0)
    rw [ih, en]
theorem clS_ext {f h : Nat → Int} : ∀ n : Nat, (∀ i : Nat, i < n → f i = h i) → clS f n = clS h n
  | 0, _ => rfl
  | n + 1, e => by
    have ih := clS_ext n (fun i hi => e i (by omega))
    have en := e n (by omega)
    show (if f n ≤ -10 then clS f n + 1 else clS f n) = (if h n ≤ -10 then clS h n + 1 else clS h n)
    rw [ih, en]
theorem mg_fapp (L : List Int) (x : Int) {i : Nat} (h : i < L.length) : fL (L ++ [x]) i = fL L i := by
  unfold fL
  rw [List.getD_eq_getElem?_getD, List.getD_eq_getElem?_getD, List.getElem?_append_left h]
theorem mg_flast (L : List Int) (x : Int) : fL (L ++ [x]) L.length = x := by
  unfold fL
  rw [List.getD_eq_getElem?_getD, List.getElem?_append_right (Nat.le_refl _), Nat.sub_self]
  rfl
theorem dL_app (L : List Int) (x : Int) : dL (L ++ [x]) = if 0 ≤ x then dL L + 1 else if x = -1 then dL L else if -10 < x then dL L - 1 else 0 := by
  unfold dL
  rw [show (L ++ [x]).length = L.length + 1 by simp]
  show (if 0 ≤ fL (L ++ [x]) L.length then depS (fL (L ++ [x])) L.length + 1 else if fL (L ++ [x]) L.length = -1 then depS (fL (L ++ [x])) L.length else if -10 < fL (L ++ [x]) L.length then depS (fL (L ++ [x])) L.length - 1 else 0) = _
  rw [mg_flast, depS_ext L.length (fun i hi => mg_fapp L x hi)]
theorem cL_app (L : List Int) (x : Int) : cL (L ++ [x]) = if x ≤ -10 then cL L + 1 else cL L := by
  unfold cL
  rw [show (L ++ [x]).length = L.length + 1 by simp]
  show (if fL (L ++ [x]) L.length ≤ -10 then clS (fL (L ++ [x])) L.length + 1 else clS (fL (L ++ [x])) L.length) = _
  rw [mg_flast, clS_ext L.length (fun i hi => mg_fapp L x hi)]
theorem good_app {L : List Int} {x : Int} (h : GoodL L) (hx : stepOK x (dL L)) : GoodL (L ++ [x]) := by
  intro i hi
  rw [show (L ++ [x]).length = L.length + 1 by simp] at hi
  rcases (show i < L.length ∨ i = L.length by omega) with q | q
  · rw [mg_fapp L x q, depS_ext i (fun j hj => mg_fapp L x (show j < L.length by omega))]
    exact h i q
  · rw [q, mg_flast, depS_ext L.length (fun j hj => mg_fapp L x hj)]
    exact hx
theorem mg_emit {x : Int} {t : PT} (h : (emitT x t).1 = 0) : t.1 = 0 ∧ (emitT x t).2.2 = t.2.2 ++ [x] := by
  unfold emitT at h ⊢
  by_cases c : t.1 ≠ 0
  · rw [if_pos c] at h; exact absurd h c
  · rw [if_neg c]; exact ⟨Classical.not_not.mp c, rfl⟩
theorem mg_must {S : Nat → Int} {E c : Int} {t : PT} (h : (mustT S E c t).1 = 0) : t.1 = 0 ∧ (mustT S E c t).2.2 = t.2.2 ∧ (mustT S E c t).2.1 = t.2.1 + 1 := by
  unfold mustT at h ⊢
  by_cases c1 : t.1 ≠ 0 ∨ hereT S E t.2.1 ≠ c
  · rw [if_pos c1] at h; exact absurd (show (1 : Int) = 0 from h) (by decide)
  · rw [if_neg c1]; exact ⟨Classical.byContradiction fun h9 => c1 (Or.inl h9), rfl, rfl⟩
theorem mg_spell {S : Nat → Int} {E : Int} {i : Nat} {t : PT} : ∀ k : Nat, (spellT S E i k t).1 = 0 → t.1 = 0 ∧ (spellT S E i k t).2.2 = t.2.2
  | 0, h => ⟨h, rfl⟩
  | k + 1, h => by
    have a := mg_must (show (mustT S E (chS i k) (spellT S E i k t)).1 = 0 from h)
    have b := mg_spell k a.1
    exact ⟨b.1, a.2.1.trans b.2⟩
theorem mg_fig {S : Nat → Int} {E : Int} {t : PT} (h : (figT S E t).1 = 0) : t.1 = 0 ∧ (figT S E t).2.2 = t.2.2 := by
  unfold figT at h ⊢
  by_cases c1 : t.1 = 0 ∧ digit (hereT S E t.2.1)
  · rw [iteP_t c1]
    refine ⟨c1.1, ?_⟩
    unfold iteP
    split <;> rfl
  · rw [iteP_f c1] at h; exact absurd (show (1 : Int) = 0 from h) (by decide)
theorem am_at {c : Int} {i : Nat} : ∀ (m : Nat) (k : Int), 0 ≤ k → -1 ≤ amG c i k m := fun m k h => (amG_rng c i m k h).1
/-- a test that is told -/
theorem mg_test {S : Nat → Int} {ac E : Int} (hP : PIn S ac E) {t : PT} (h : okT E t) (hg : GoodL t.2.2) (hd : 0 ≤ dL t.2.2 ∧ dL t.2.2 ≤ 30) (h0 : (testT S E t).1 = 0) : GoodL (testT S E t).2.2 ∧ cL (testT S E t).2.2 = cL t.2.2 ∧ dL (testT S E t).2.2 = dL t.2.2 + 1 := by
  have a := amV_rng hP (i := 4) (by decide) h.2.1.1
  have b := amV_rng hP (i := 5) (by decide) (show 0 ≤ t.2.1 + 1 by have := h.2.1.1; omega)
  unfold testT at h0 ⊢
  by_cases c1 : amV S E 4 t.2.1 = -1
  · rw [if_pos c1] at h0; exact absurd (show (1 : Int) = 0 from h0) (by decide)
  · rw [if_neg c1] at h0 ⊢
    by_cases c2 : amV S E 5 (t.2.1 + 1) = -1
    · rw [if_pos c2] at h0; exact absurd (show (1 : Int) = 0 from h0) (by decide)
    · rw [if_neg c2] at h0 ⊢
      have hk : okT E (0, t.2.1 + 2, t.2.2) := ⟨⟨by show (0 : Int) ≤ 0; omega, by show (0 : Int) ≤ 1; omega⟩, ⟨by show 0 ≤ t.2.1 + 2; have := h.2.1; omega, by show t.2.1 + 2 ≤ E; have := b.2.2 c2; omega⟩, by show (t.2.2.length : Int) ≤ t.2.1 + 2; have := h.2.2; omega⟩
      obtain ⟨-, -, f3, -⟩ := figT_ok hP hk
      obtain ⟨e1, e2⟩ := mg_emit h0
      have e3 := (mg_fig e1).2
      rw [e2, e3]
      have a2 : amV S E 4 t.2.1 < 6 := a.2.1
      have b2 : amV S E 5 (t.2.1 + 1) < 3 := b.2.1
      have a1 := a.1
      have b1 := b.1
      obtain ⟨x, hx⟩ : ∃ z : Int, z = amV S E 4 t.2.1 := ⟨_, rfl⟩
      obtain ⟨y, hy⟩ : ∃ z : Int, z = amV S E 5 (t.2.1 + 1) := ⟨_, rfl⟩
      obtain ⟨v, hv⟩ : ∃ z : Int, z = figV S E (0, t.2.1 + 2, t.2.2) := ⟨_, rfl⟩
      rw [← hx, ← hy, ← hv]
      rw [← hx] at a1 a2 c1
      rw [← hy] at b1 b2 c2
      rw [← hv] at f3
      show GoodL (t.2.2 ++ [x + 8 * y + 32 * v]) ∧ cL (t.2.2 ++ [x + 8 * y + 32 * v]) = _ ∧ dL (t.2.2 ++ [x + 8 * y + 32 * v]) = _
      refine ⟨good_app hg ?_, ?_, ?_⟩
      · unfold stepOK okS
        omega
      · rw [cL_app, if_neg (by omega)]
      · rw [dL_app, if_pos (by omega)]
def fuelOK (E q : Int) (n m : Nat) : Prop := (m = 0 → 4 * (E - q) + 1 ≤ (n : Int)) ∧ (m = 1 → 4 * (E - q) + 2 ≤ (n : Int)) ∧ (m = 2 → 4 * (E - q) + 3 ≤ (n : Int)) ∧ ((m = 3 ∨ m = 4) → 4 * (E - q) + 1 ≤ (n : Int))
def depOK (o d : Int) (m : Nat) : Prop := (m = 0 → 0 ≤ d ∧ d ≤ 2 * o + 2) ∧ (m = 1 → 0 ≤ d ∧ d ≤ 2 * o + 1) ∧ (m = 2 → 0 ≤ d ∧ d ≤ 2 * o) ∧ (m = 3 → 1 ≤ d ∧ d ≤ 2 * o + 2) ∧ (m = 4 → 1 ≤ d ∧ d ≤ 2 * o + 1)
theorem mg_pt3 {a b : Int} {L : List Int} {t : PT} (h : t = (a, b, L)) : t.1 = a ∧ t.2.1 = b ∧ t.2.2 = L := by subst h; exact ⟨rfl, rfl, rfl⟩
theorem pT_good {S : Nat → Int} {ac E : Int} (hP : PIn S ac E) : ∀ (n m : Nat) (o : Int) (t : PT), m ≤ 4 → okT E t → t.1 = 0 → (0 ≤ o ∧ o ≤ 5) → GoodL t.2.2 → fuelOK E t.2.1 n m → depOK o (dL t.2.2) m → (pT S E n m o t).1 = 0 → GoodL (pT S E n m o t).2.2 ∧ cL (pT S E n m o t).2.2 = cL t.2.2 ∧ dL (pT S E n m o t).2.2 = (if m ≤ 2 then dL t.2.2 + 1 else dL t.2.2)
  | 0, m, o, t, hm, h, h1, ho, hg, hf, hd, h0 => by
    have e : pT S E 0 m o t = t := by rw [pT]
    rw [e]
    have q := h.2.1
    unfold fuelOK at hf
    refine ⟨hg, rfl, ?_⟩
    rw [if_neg (by omega)]
  | n + 1, 0, o, t, hm, h, h1, ho, hg, hf, hd, h0 => by
    have q := h.2.1
    unfold fuelOK at hf
    unfold depOK at hd
    rw [if_pos (by omega)]
    rw [pT_s0 (by omega) h1] at h0 ⊢
    simp only [Nat.add_sub_cancel] at h0 ⊢
    by_cases c1 : hereT S E t.2.1 = 33
    · rw [if_pos c1] at h0 ⊢
      obtain ⟨e1, e2⟩ := mg_emit h0
      rw [e2]
      obtain ⟨k1, -⟩ := open_ok (o := o) hP h c1 (by decide)
      by_cases h5 : o = 5
      · rw [if_pos h5, if_pos h5, pT_w _ _ _ _ (by show (1 : Int) ≠ 0; decide)] at e1
        exact absurd (show (1 : Int) = 0 from e1) (by decide)
      · rw [if_neg h5, if_neg h5] at e1 k1 ⊢
        have r := pT_good hP n 0 (o + 1) (0, t.2.1 + 1, t.2.2) (by omega) k1 rfl (by omega) hg (by unfold fuelOK; show (0 = 0 → 4 * (E - (t.2.1 + 1)) + 1 ≤ (n : Int)) ∧ _; refine ⟨fun _ => by omega, fun h9 => by omega, fun h9 => by omega, fun h9 => by omega⟩) (by unfold depOK; show (0 = 0 → 0 ≤ dL t.2.2 ∧ dL t.2.2 ≤ 2 * (o + 1) + 2) ∧ _; refine ⟨fun _ => by omega, fun h9 => by omega, fun h9 => by omega, fun h9 => by omega, fun h9 => by omega⟩) e1
        rw [if_pos (by omega)] at r
        have r3 : dL (pT S E n 0 (o + 1) (0, t.2.1 + 1, t.2.2)).2.2 = dL t.2.2 + 1 := r.2.2
        have r2 : cL (pT S E n 0 (o + 1) (0, t.2.1 + 1, t.2.2)).2.2 = cL t.2.2 := r.2.1
        refine ⟨good_app r.1 ?_, ?_, ?_⟩
        · rw [r3]; unfold stepOK okS; omega
        · rw [cL_app, if_neg (by decide)]; exact r2
        · rw [dL_app, if_neg (by decide), if_pos rfl]; exact r3
    · rw [if_neg c1] at h0 ⊢
      by_cases c2 : hereT S E t.2.1 = 40
      · rw [if_pos c2] at h0 ⊢
        obtain ⟨e1, e2, -⟩ := mg_must h0
        rw [e2]
        obtain ⟨k1, -⟩ := open_ok (o := o) hP h c2 (by decide)
        by_cases h5 : o = 5
        · rw [if_pos h5, if_pos h5, pT_w _ _ _ _ (by show (1 : Int) ≠ 0; decide)] at e1
          exact absurd (show (1 : Int) = 0 from e1) (by decide)
        · rw [if_neg h5, if_neg h5] at e1 k1 ⊢
          have r := pT_good hP n 2 (o + 1) (0, t.2.1 + 1, t.2.2) (by omega) k1 rfl (by omega) hg (by unfold fuelOK; show (2 = 0 → 4 * (E - (t.2.1 + 1)) + 1 ≤ (n : Int)) ∧ (2 = 1 → 4 * (E - (t.2.1 + 1)) + 2 ≤ (n : Int)) ∧ (2 = 2 → 4 * (E - (t.2.1 + 1)) + 3 ≤ (n : Int)) ∧ _; refine ⟨fun h9 => by omega, fun h9 => by omega, fun h9 => by omega, fun h9 => by omega⟩) (by unfold depOK; show (2 = 0 → 0 ≤ dL t.2.2 ∧ dL t.2.2 ≤ 2 * (o + 1) + 2) ∧ (2 = 1 → 0 ≤ dL t.2.2 ∧ dL t.2.2 ≤ 2 * (o + 1) + 1) ∧ (2 = 2 → 0 ≤ dL t.2.2 ∧ dL t.2.2 ≤ 2 * (o + 1)) ∧ _; refine ⟨fun h9 => by omega, fun h9 => by omega, fun h9 => by omega, fun h9 => by omega, fun h9 => by omega⟩) e1
          rw [if_pos (by omega)] at r
          exact r
      · rw [if_neg c2] at h0 ⊢
        exact mg_test hP h hg (by omega) h0
  | n + 1, 1, o, t, hm, h, h1, ho, hg, hf, hd, h0 => by
    have q := h.2.1
    unfold fuelOK at hf
    unfold depOK at hd
    rw [if_pos (by omega)]
    rw [pT_s1 (by omega)] at h0 ⊢
    simp only [Nat.add_sub_cancel] at h0 ⊢
    obtain ⟨k1, k2⟩ := pT_ok hP n 0 o t h
    have e1 : (pT S E n 0 o t).1 = 0 := Classical.byContradiction fun h9 => by rw [pT_w _ _ _ _ h9] at h0; exact h9 h0
    have r := pT_good hP n 0 o t (by omega) h h1 ho hg (by unfold fuelOK; exact ⟨fun h9 => by omega, fun h9 => by omega, fun h9 => by omega, fun h9 => by omega⟩) (by unfold depOK; exact ⟨fun h9 => by omega, fun h9 => by omega, fun h9 => by omega, fun h9 => by omega, fun h9 => by omega⟩) e1
    rw [if_pos (by omega)] at r
    have k3 := k2.1
    have r2 := pT_good hP n 3 o (pT S E n 0 o t) (by omega) k1 e1 ho r.1 (by unfold fuelOK; exact ⟨fun h9 => by omega, fun h9 => by omega, fun h9 => by omega, fun h9 => by omega⟩) (by unfold depOK; rw [r.2.2]; exact ⟨fun h9 => by omega, fun h9 => by omega, fun h9 => by omega, fun h9 => by omega, fun h9 => by omega⟩) h0
    rw [if_neg (by omega)] at r2
    exact ⟨r2.1, r2.2.1.trans r.2.1, r2.2.2.trans r.2.2⟩
  | n + 1, 2, o, t, hm, h, h1, ho, hg, hf, hd, h0 => by
    have q := h.2.1
    unfold fuelOK at hf
    unfold depOK at hd
    rw [if_pos (by omega)]
    rw [pT_s2 (by omega)] at h0 ⊢
    simp only [Nat.add_sub_cancel] at h0 ⊢
    obtain ⟨k1, k2⟩ := pT_ok hP n 1 o t h
    have e1 : (pT S E n 1 o t).1 = 0 := Classical.byContradiction fun h9 => by rw [pT_w _ _ _ _ h9] at h0; exact h9 h0
    have r := pT_good hP n 1 o t (by omega) h h1 ho hg (by unfold fuelOK; exact ⟨fun h9 => by omega, fun h9 => by omega, fun h9 => by omega, fun h9 => by omega⟩) (by unfold depOK; exact ⟨fun h9 => by omega, fun h9 => by omega, fun h9 => by omega, fun h9 => by omega, fun h9 => by omega⟩) e1
    rw [if_pos (by omega)] at r
    have k3 := k2.1
    have r2 := pT_good hP n 4 o (pT S E n 1 o t) (by omega) k1 e1 ho r.1 (by unfold fuelOK; exact ⟨fun h9 => by omega, fun h9 => by omega, fun h9 => by omega, fun h9 => by omega⟩) (by unfold depOK; rw [r.2.2]; exact ⟨fun h9 => by omega, fun h9 => by omega, fun h9 => by omega, fun h9 => by omega, fun h9 => by omega⟩) h0
    rw [if_neg (by omega)] at r2
    exact ⟨r2.1, r2.2.1.trans r.2.1, r2.2.2.trans r.2.2⟩
  | n + 1, 3, o, t, hm, h, h1, ho, hg, hf, hd, h0 => by
    have q := h.2.1
    unfold fuelOK at hf
    unfold depOK at hd
    rw [if_neg (by omega)]
    by_cases c1 : hereT S E t.2.1 = 38
    · rw [pT_s3 (by omega) h1 c1] at h0 ⊢
      simp only [Nat.add_sub_cancel] at h0 ⊢
      have k0 := step_ok hP h c1 (by decide)
      obtain ⟨k1, k2⟩ := pT_ok hP n 0 o (t.1, t.2.1 + 1, t.2.2) k0
      have k3 : t.2.1 + 1 ≤ (pT S E n 0 o (t.1, t.2.1 + 1, t.2.2)).2.1 := k2.1
      have k4 : t.2.1 + 1 - t.2.2.length ≤ (pT S E n 0 o (t.1, t.2.1 + 1, t.2.2)).2.1 - (pT S E n 0 o (t.1, t.2.1 + 1, t.2.2)).2.2.length := k2.2
      have h3 := h.2.2
      obtain ⟨f1, f2, f3, f4⟩ := emitT_ok (x := -2) k1 (fun h9 => by omega)
      have e0 : (emitT (-2) (pT S E n 0 o (t.1, t.2.1 + 1, t.2.2))).1 = 0 := Classical.byContradiction fun h9 => by rw [pT_w _ _ _ _ h9] at h0; exact h9 h0
      obtain ⟨e1, e2⟩ := mg_emit e0
      have r := pT_good hP n 0 o (t.1, t.2.1 + 1, t.2.2) (by omega) k0 h1 ho hg (by unfold fuelOK; show (0 = 0 → 4 * (E - (t.2.1 + 1)) + 1 ≤ (n : Int)) ∧ _; exact ⟨fun h9 => by omega, fun h9 => by omega, fun h9 => by omega, fun h9 => by omega⟩) (by unfold depOK; show (0 = 0 → 0 ≤ dL t.2.2 ∧ dL t.2.2 ≤ 2 * o + 2) ∧ _; exact ⟨fun h9 => by omega, fun h9 => by omega, fun h9 => by omega, fun h9 => by omega, fun h9 => by omega⟩) e1
      rw [if_pos (by omega)] at r
      have r3 : dL (pT S E n 0 o (t.1, t.2.1 + 1, t.2.2)).2.2 = dL t.2.2 + 1 := r.2.2
      have r2 : cL (pT S E n 0 o (t.1, t.2.1 + 1, t.2.2)).2.2 = cL t.2.2 := r.2.1
      have g1 : GoodL (emitT (-2) (pT S E n 0 o (t.1, t.2.1 + 1, t.2.2))).2.2 := by rw [e2]; exact good_app r.1 (by rw [r3]; unfold stepOK okS; omega)
      have g2 : cL (emitT (-2) (pT S E n 0 o (t.1, t.2.1 + 1, t.2.2))).2.2 = cL t.2.2 := by rw [e2, cL_app, if_neg (by decide)]; exact r2
      have g3 : dL (emitT (-2) (pT S E n 0 o (t.1, t.2.1 + 1, t.2.2))).2.2 = dL t.2.2 := by rw [e2, dL_app, if_neg (by decide), if_neg (by decide), if_pos (by decide), r3]; omega
      have s := pT_good hP n 3 o _ (by omega) f1 e0 ho g1 (by unfold fuelOK; rw [← f2]; exact ⟨fun h9 => by omega, fun h9 => by omega, fun h9 => by omega, fun h9 => by omega⟩) (by unfold depOK; rw [g3]; exact ⟨fun h9 => by omega, fun h9 => by omega, fun h9 => by omega, fun h9 => by omega, fun h9 => by omega⟩) h0
      rw [if_neg (by omega)] at s
      exact ⟨s.1, s.2.1.trans g2, s.2.2.trans g3⟩
    · rw [pT_e3 (Or.inr c1)]
      exact ⟨hg, rfl, rfl⟩
  | n + 1, 4, o, t, hm, h, h1, ho, hg, hf, hd, h0 => by
    have q := h.2.1
    unfold fuelOK at hf
    unfold depOK at hd
    rw [if_neg (by omega)]
    by_cases c1 : hereT S E t.2.1 = 124
    · rw [pT_s4 (by omega) h1 c1] at h0 ⊢
      simp only [Nat.add_sub_cancel] at h0 ⊢
      have k0 := step_ok hP h c1 (by decide)
      obtain ⟨k1, k2⟩ := pT_ok hP n 1 o (t.1, t.2.1 + 1, t.2.2) k0
      have k3 : t.2.1 + 1 ≤ (pT S E n 1 o (t.1, t.2.1 + 1, t.2.2)).2.1 := k2.1
      have k4 : t.2.1 + 1 - t.2.2.length ≤ (pT S E n 1 o (t.1, t.2.1 + 1, t.2.2)).2.1 - (pT S E n 1 o (t.1, t.2.1 + 1, t.2.2)).2.2.length := k2.2
      have h3 := h.2.2
      obtain ⟨f1, f2, f3, f4⟩ := emitT_ok (x := -3) k1 (fun h9 => by omega)
      have e0 : (emitT (-3) (pT S E n 1 o (t.1, t.2.1 + 1, t.2.2))).1 = 0 := Classical.byContradiction fun h9 => by rw [pT_w _ _ _ _ h9] at h0; exact h9 h0
      obtain ⟨e1, e2⟩ := mg_emit e0
      have r := pT_good hP n 1 o (t.1, t.2.1 + 1, t.2.2) (by omega) k0 h1 ho hg (by unfold fuelOK; show (1 = 0 → 4 * (E - (t.2.1 + 1)) + 1 ≤ (n : Int)) ∧ (1 = 1 → 4 * (E - (t.2.1 + 1)) + 2 ≤ (n : Int)) ∧ _; exact ⟨fun h9 => by omega, fun h9 => by omega, fun h9 => by omega, fun h9 => by omega⟩) (by unfold depOK; show (1 = 0 → 0 ≤ dL t.2.2 ∧ dL t.2.2 ≤ 2 * o + 2) ∧ (1 = 1 → 0 ≤ dL t.2.2 ∧ dL t.2.2 ≤ 2 * o + 1) ∧ _; exact ⟨fun h9 => by omega, fun h9 => by omega, fun h9 => by omega, fun h9 => by omega, fun h9 => by omega⟩) e1
      rw [if_pos (by omega)] at r
      have r3 : dL (pT S E n 1 o (t.1, t.2.1 + 1, t.2.2)).2.2 = dL t.2.2 + 1 := r.2.2
      have r2 : cL (pT S E n 1 o (t.1, t.2.1 + 1, t.2.2)).2.2 = cL t.2.2 := r.2.1
      have g1 : GoodL (emitT (-3) (pT S E n 1 o (t.1, t.2.1 + 1, t.2.2))).2.2 := by rw [e2]; exact good_app r.1 (by rw [r3]; unfold stepOK okS; omega)
      have g2 : cL (emitT (-3) (pT S E n 1 o (t.1, t.2.1 + 1, t.2.2))).2.2 = cL t.2.2 := by rw [e2, cL_app, if_neg (by decide)]; exact r2
      have g3 : dL (emitT (-3) (pT S E n 1 o (t.1, t.2.1 + 1, t.2.2))).2.2 = dL t.2.2 := by rw [e2, dL_app, if_neg (by decide), if_neg (by decide), if_pos (by decide), r3]; omega
      have s := pT_good hP n 4 o _ (by omega) f1 e0 ho g1 (by unfold fuelOK; rw [← f2]; exact ⟨fun h9 => by omega, fun h9 => by omega, fun h9 => by omega, fun h9 => by omega⟩) (by unfold depOK; rw [g3]; exact ⟨fun h9 => by omega, fun h9 => by omega, fun h9 => by omega, fun h9 => by omega, fun h9 => by omega⟩) h0
      rw [if_neg (by omega)] at s
      exact ⟨s.1, s.2.1.trans g2, s.2.2.trans g3⟩
    · rw [pT_e4 (Or.inr c1)]
      exact ⟨hg, rfl, rfl⟩
  | n + 1, m + 5, o, t, hm, h, h1, ho, hg, hf, hd, h0 => absurd hm (by omega)
/-- a clause that loves or bores -/
theorem much_good {S : Nat → Int} {ac E kind : Int} {i : Nat} {t : PT} (hP : PIn S ac E) (hi : i < 6) (h : okT E t) (hg : GoodL t.2.2) (hd : dL t.2.2 = 0) (hk : kind = -10 ∨ kind = -200) (h0 : (muchT S E kind i t).1 = 0) : GoodL (muchT S E kind i t).2.2 ∧ cL (muchT S E kind i t).2.2 = cL t.2.2 + 1 ∧ dL (muchT S E kind i t).2.2 = 0 := by
  obtain ⟨a1, a2⟩ := spellT_ok hP hi h (sLen.getD i 0) (Nat.le_refl _)
  obtain ⟨b1, b2, b3, b4⟩ := figT_ok hP a1
  obtain ⟨c1, c2⟩ := mustT_ok hP b1 (show (0 : Int) ≤ 32 by decide)
  have hE := hP.2.1
  unfold muchT at h0 ⊢
  obtain ⟨e1, e2⟩ := mg_emit h0
  rw [e2]
  have m0 : (mustT S E 32 (figT S E (spellT S E i (sLen.getD i 0) t))).1 = 0 := Classical.byContradiction fun h9 => by rw [pT_w _ _ _ _ h9] at e1; exact h9 e1
  obtain ⟨m1, m2, m3⟩ := mg_must m0
  obtain ⟨f1, f2⟩ := mg_fig m1
  obtain ⟨s1, s2⟩ := mg_spell _ f1
  have eL : (mustT S E 32 (figT S E (spellT S E i (sLen.getD i 0) t))).2.2 = t.2.2 := m2.trans (f2.trans s2)
  have c3 := c1.2.1
  have r := pT_good hP 500 2 0 _ (by omega) c1 m0 (by omega) (by rw [eL]; exact hg) (by unfold fuelOK; exact ⟨fun h9 => by omega, fun h9 => by omega, fun h9 => by omega, fun h9 => by omega⟩) (by unfold depOK; rw [eL, hd]; exact ⟨fun h9 => by omega, fun h9 => by omega, fun h9 => by omega, fun h9 => by omega, fun h9 => by omega⟩) e1
  rw [if_pos (by omega), eL, hd] at r
  refine ⟨good_app r.1 ?_, ?_, ?_⟩
  · rw [r.2.2]; unfold stepOK okS; omega
  · rw [cL_app, if_pos (by omega), r.2.1]
  · rw [dL_app, if_neg (by omega), if_neg (by omega), if_neg (by omega)]
def CG (ac c : Int) (x : CT) : Prop := (0 ≤ x.1 (224 + ac).toNat ∧ x.1 (224 + ac).toNat ≤ 99) ∧ (0 ≤ x.1 (229 + ac).toNat ∧ x.1 (229 + ac).toNat ≤ 99) ∧ (x.2.1 = 0 → GoodL x.2.2.2 ∧ cL x.2.2.2 ≤ c ∧ dL x.2.2.2 = 0)
theorem clauseB_rng {S : Nat → Int} {ac E : Int} {t : PT} (hP : PIn S ac E) (h : okT E t) (h4 : 0 ≤ S (224 + ac).toNat ∧ S (224 + ac).toNat ≤ 99) (h9 : 0 ≤ S (229 + ac).toNat ∧ S (229 + ac).toNat ≤ 99) : (0 ≤ clauseB S ac E t (224 + ac).toNat ∧ clauseB S ac E t (224 + ac).toNat ≤ 99) ∧ (0 ≤ clauseB S ac E t (229 + ac).toNat ∧ clauseB S ac E t (229 + ac).toNat ≤ 99) := by
  have hac := hP.1
  have key : ∀ (w0 : Int) (i : Nat), (w0 = 224 ∨ w0 = 229) → i < 6 → (0 ≤ tellB S ac E w0 i t (224 + ac).toNat ∧ tellB S ac E w0 i t (224 + ac).toNat ≤ 99) ∧ (0 ≤ tellB S ac E w0 i t (229 + ac).toNat ∧ tellB S ac E w0 i t (229 + ac).toNat ≤ 99) := by
    intro w0 i hw hi
    obtain ⟨-, -, v⟩ := tell_ok (i := i) hP hi h
    unfold tellB
    by_cases c : (figT S E (spellT S E i (sLen.getD i 0) t)).1 = 0
    · rw [iteP_t c]
      rcases hw with rfl | rfl
      · rw [up_same, up_ne _ _ (by omega)]; exact ⟨v, h9⟩
      · rw [up_same, up_ne _ _ (by omega)]; exact ⟨h4, v⟩
    · rw [iteP_f c]; exact ⟨h4, h9⟩
  unfold clauseB
  split
  · exact key 224 2 (Or.inl rfl) (by decide)
  · split
    · exact key 229 3 (Or.inr rfl) (by decide)
    · exact ⟨h4, h9⟩
theorem clause_good {ac E c : Int} {x : CT} (hP : PIn x.1 ac E) (h : okT E x.2) (hx : CG ac c x) (h1 : x.2.1 = 0) : CG ac (c + 1) (clauseC ac E x) := by
  obtain ⟨q4, q9, q⟩ := hx
  obtain ⟨g1, g2, g3⟩ := q h1
  obtain ⟨b4, b9⟩ := clauseB_rng hP h q4 q9
  refine ⟨b4, b9, fun h0 => ?_⟩
  have h0 : (clauseT x.1 E x.2).1 = 0 := h0
  show GoodL (clauseT x.1 E x.2).2.2 ∧ cL (clauseT x.1 E x.2).2.2 ≤ c + 1 ∧ dL (clauseT x.1 E x.2).2.2 = 0
  unfold clauseT at h0 ⊢
  by_cases c1 : hereT x.1 E x.2.2.1 = 119
  · rw [if_pos c1] at h0 ⊢
    obtain ⟨f1, f2⟩ := mg_fig h0
    obtain ⟨s1, s2⟩ := mg_spell _ f1
    rw [f2, s2]
    exact ⟨g1, by omega, g3⟩
  · rw [if_neg c1] at h0 ⊢
    by_cases c2 : hereT x.1 E x.2.2.1 = 114
    · rw [if_pos c2] at h0 ⊢
      obtain ⟨f1, f2⟩ := mg_fig h0
      obtain ⟨s1, s2⟩ := mg_spell _ f1
      rw [f2, s2]
      exact ⟨g1, by omega, g3⟩
    · rw [if_neg c2] at h0 ⊢
      by_cases c3 : hereT x.1 E x.2.2.1 = 108
      · rw [if_pos c3] at h0 ⊢
        have r := much_good hP (by decide) h g1 g3 (Or.inl rfl) h0
        exact ⟨r.1, by rw [r.2.1]; omega, r.2.2⟩
      · rw [if_neg c3] at h0 ⊢
        by_cases c4 : hereT x.1 E x.2.2.1 = 98
        · rw [if_pos c4] at h0 ⊢
          have r := much_good hP (by decide) h g1 g3 (Or.inr rfl) h0
          exact ⟨r.1, by rw [r.2.1]; omega, r.2.2⟩
        · rw [if_neg c4] at h0
          exact absurd (show (1 : Int) = 0 from h0) (by decide)
theorem ml_good {ac E : Int} : ∀ (k : Nat) (c : Int) (x : CT), PIn x.1 ac E → okT E x.2 → CG ac c x → 0 ≤ k → CG ac (c + k) (mlT ac E k x) ∧ PIn (mlT ac E k x).1 ac E ∧ okT E (mlT ac E k x).2 ∧ sameB ac x.1 (mlT ac E k x).1
  | 0, c, x, hP, h, hx, _ => ⟨by rw [show c + ((0 : Nat) : Int) = c by omega]; exact hx, hP, h, fun _ _ _ => rfl⟩
  | k + 1, c, x, hP, h, hx, _ => by
    rw [mlT]
    by_cases c1 : x.2.1 = 0 ∧ hereT x.1 E x.2.2.1 = 59
    · rw [if_pos c1]
      have k0 := step_ok hP h c1.2 (by decide)
      have r := clause_good (x := (x.1, x.2.1, x.2.2.1 + 1, x.2.2.2)) hP k0 hx c1.1
      have o1 : okT E (clauseC ac E (x.1, x.2.1, x.2.2.1 + 1, x.2.2.2)).2 := (clauseT_ok hP k0).1
      have sm : sameB ac x.1 (clauseC ac E (x.1, x.2.1, x.2.2.1 + 1, x.2.2.2)).1 := clauseB_same
      have s := ml_good k (c + 1) _ (sameB_PIn hP sm) o1 r (Nat.zero_le _)
      rw [show c + 1 + (k : Int) = c + ((k + 1 : Nat) : Int) by omega] at s
      exact ⟨s.1, s.2.1, s.2.2.1, sm.tr s.2.2.2⟩
    · rw [if_neg c1]
      refine ⟨⟨hx.1, hx.2.1, fun h9 => ?_⟩, hP, h, fun _ _ _ => rfl⟩
      obtain ⟨a, b, d⟩ := hx.2.2 h9
      exact ⟨a, by omega, d⟩
theorem mapX_good {S : Nat → Int} (hT : InvT S) (h1 : S 1 ≠ 5) : CG (S 1) 10 (mapX S) ∧ okT (S 5) (mapX S).2 ∧ sameB (S 1) (mapB S) (mapX S).1 := by
  have hT1 := hT.1
  have hT2 := hT.2.1
  have hP := mapB_PIn hT h1
  have ok0 : okT (S 5) (0, 0, []) := okT_mk (by omega) (by omega) (by show ((0 : Nat) : Int) ≤ 0; omega)
  have g0 : CG (S 1) 0 (mapB S, 0, 0, []) := by
    refine ⟨?_, ?_, fun _ => ⟨fun i hi => absurd hi (Nat.not_lt_zero _), Int.le_refl _, rfl⟩⟩
    · show 0 ≤ mapB S (224 + S 1).toNat ∧ mapB S (224 + S 1).toNat ≤ 99
      unfold mapB
      rw [up_ne _ _ (by omega), up_ne _ _ (by omega), up_same]
      omega
    · show 0 ≤ mapB S (229 + S 1).toNat ∧ mapB S (229 + S 1).toNat ≤ 99
      unfold mapB
      rw [up_ne _ _ (by omega), up_same]
      omega
  have r := clause_good (x := (mapB S, 0, 0, [])) hP ok0 g0 rfl
  have sm : sameB (S 1) (mapB S) (clauseC (S 1) (S 5) (mapB S, 0, 0, [])).1 := clauseB_same
  have o1 : okT (S 5) (clauseC (S 1) (S 5) (mapB S, 0, 0, [])).2 := (clauseT_ok hP ok0).1
  have s := ml_good 9 (0 + 1) _ (sameB_PIn hP sm) o1 r (Nat.zero_le _)
  exact ⟨s.1, s.2.2.1, sm.tr s.2.2.2⟩
