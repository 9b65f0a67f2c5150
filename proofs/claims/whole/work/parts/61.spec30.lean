/-! plans: what they score; trails -/
theorem agr_taste {S T : Nat → Int} (h : agr49 S T) {n p : Int} (hn : 0 ≤ n ∧ n < 7) (hH : InvH S) : tasteS T n p = tasteS S n p := by
  have h6 := hH.1
  have e6 : T 6 = S 6 := h 6 (by omega)
  have ec : codeS T = codeS S := by
    funext i
    unfold codeS
    rw [e6, h _ (by omega)]
  have em : manyS T = manyS S := by
    unfold manyS tellsS
    rw [e6]
    split
    · rfl
    · rw [h _ (by omega)]
  have ex : xS T n p = xS S n p := by
    funext k
    unfold xS
    rw [h _ (by omega), h _ (by omega), h _ (by omega), h _ (by omega)]
  unfold tasteS
  rw [ec, em, ex]
theorem agr_river {S T : Nat → Int} (h : agr49 S T) (hH : InvH S) : riverS T = riverS S := by
  have h1 := hH.1
  unfold riverS tellsS
  rw [h 6 (by omega)]
  split
  · rfl
  · rw [h _ (by omega)]
theorem agr_good {S T : Nat → Int} (h : agr49 S T) {n p : Int} (hn : 0 ≤ n ∧ n < 7) (hH : InvH S) : goodS T n p = goodS S n p := by
  unfold goodS
  rw [agr_taste h hn hH, agr_river h hH, agr_first h hn, agr_len h hn]
theorem agr_score {S T : Nat → Int} (h : agr49 S T) (hI : InvD S) (hH : InvH S) : scoreS T = scoreW S (fun j => T (42 + j).toNat) := by
  unfold scoreS scoreW
  have hD := hI.1
  rw [h 0 (by omega)]
  refine sumI_ext (fun i h0 h1 => ?_)
  dsimp only
  rw [agr_good h (by omega) hH]
theorem done_0 {S : Nat → Int} (hI : InvD S) (hL : InvL S) : doneS S 0 = cntB (fun n => planS S (S 3).toNat (42 + n).toNat ≠ 4) (S 0).toNat := by
  have h3 := hL.2.1
  unfold doneS laidS
  rw [iteP_t (by omega), if_pos rfl, planS_same hI hL _ (by omega) 0 (by omega)]
theorem done_1 {S : Nat → Int} (hI : InvD S) (hL : InvL S) (hH : InvH S) : doneS S 1 = scoreW S (fun j => planS S (S 3).toNat (42 + j).toNat) := by
  have h3 := hL.2.1
  unfold doneS
  rw [iteP_t (by omega), if_neg (by omega)]
  exact agr_score (plan_agr hI hL (by omega)) hI hH
/-- trails that tell the same -/
def tEq (t u : TT) : Prop := t.1 = u.1 ∧ ∀ i : Int, 0 ≤ i → i < t.1 → i < 20 → t.2 i.toNat = u.2 i.toNat
theorem ranT_eq {t u : TT} (h : tEq t u) (h0 : 0 ≤ t.1) (x : Int) : tEq (ranT t x) (ranT u x) := by
  refine ⟨by rw [ranT_1, ranT_1, h.1], fun i h1 h2 h3 => ?_⟩
  rw [ranT_1] at h2
  unfold ranT
  dsimp only
  have e := h.1
  rcases (show i < t.1 ∨ i = t.1 by omega) with q | q
  · have r := h.2 i h1 q h3
    by_cases h4 : t.1 < 20
    · rw [if_pos h4, if_pos (by omega), up_ne _ _ (by omega), up_ne _ _ (by omega)]; exact r
    · rw [if_neg h4, if_neg (by omega)]; exact r
  · rw [if_pos (by omega), if_pos (by omega), show i.toNat = t.1.toNat by omega, up_same, e, up_same]
theorem liesT_eq {t u : TT} (h : tEq t u) (h0 : 0 ≤ t.1) (kd : Int) : tEq (liesT kd t) (liesT kd u) := by
  have h1 : 0 ≤ t.1 + 1 := by omega
  unfold liesT
  split
  · exact ranT_eq (ranT_eq h h0 _) h1 _
  · split
    · exact ranT_eq (ranT_eq h h0 _) h1 _
    · exact ranT_eq h h0 _
theorem pReadsT_eq {t u : TT} (h : tEq t u) (h0 : 0 ≤ t.1) (kd : Int) : tEq (pReadsT kd t) (pReadsT kd u) :=
  liesT_eq (ranT_eq h h0 _) (show 0 ≤ t.1 + 1 by omega) kd
theorem readsT_eq {t u : TT} (h : tEq t u) (h0 : 0 ≤ t.1) (kd : Int) : tEq (readsT kd t) (readsT kd u) := by
  have h1 : 0 ≤ t.1 + 1 := by omega
  unfold readsT
  split
  · exact pReadsT_eq (ranT_eq h h0 _) h1 _
  · split
    · exact pReadsT_eq (ranT_eq h h0 _) h1 _
    · exact pReadsT_eq h h0 _
theorem pTellsT_eq {t u : TT} (h : tEq t u) (h0 : 0 ≤ t.1) (kd : Int) : tEq (pTellsT kd t) (pTellsT kd u) :=
  readsT_eq (ranT_eq h h0 _) (show 0 ≤ t.1 + 1 by omega) kd
theorem tellsT_eq {t u : TT} (h : tEq t u) (h0 : 0 ≤ t.1) (kd : Int) : tEq (tellsT kd t) (tellsT kd u) := by
  have h1 : 0 ≤ t.1 + 1 := by omega
  unfold tellsT
  split
  · exact pTellsT_eq (ranT_eq h h0 _) h1 _
  · split
    · have q := pTellsT_1 kd (ranT t 41)
      rw [ranT_1] at q
      exact liesT_eq (pTellsT_eq (ranT_eq h h0 _) h1 _) (by omega) kd
    · exact pTellsT_eq h h0 _
theorem actT_eq (S : Nat → Int) (n act : Int) (b c : Nat → Int) : tEq (actT S n act b) (actT S n act c) := by
  have h : tEq (0, b) (0, c) := ⟨rfl, fun i h1 h2 _ => absurd h2 (by show ¬ i < 0; omega)⟩
  have h0 : (0 : Int) ≤ ((0, b) : TT).1 := Int.le_refl _
  unfold actT iteP
  split
  · split
    · exact liesT_eq h h0 _
    · split
      · exact readsT_eq h h0 _
      · exact tellsT_eq h h0 _
  · exact h
theorem actT_1 (S : Nat → Int) (n act : Int) (b : Nat → Int) : 0 ≤ (actT S n act b).1 ∧ (actT S n act b).1 ≤ 8 := by
  have h0 : ((0, b) : TT).1 = 0 := rfl
  unfold actT iteP
  split
  · split
    · have := liesT_1 (S (7 + n).toNat) (0, b); omega
    · split
      · have := readsT_1 (S (7 + n).toNat) (0, b); omega
      · have := tellsT_1 (S (7 + n).toNat) (0, b); omega
  · exact ⟨by omega, by omega⟩
theorem traceV_eq {t u : TT} (h : tEq t u) (i : Int) : traceV t i = traceV u i := by
  unfold traceV
  have e := h.1
  by_cases q : 0 ≤ i ∧ i < t.1 ∧ i < 20
  · rw [iteP_t q, iteP_t (by omega)]; exact h.2 i q.1 q.2.1 q.2.2
  · rw [iteP_f q, iteP_f (by omega)]
