theorem up_up {α : Type} (f : Nat → α) (k : Nat) (v w : α) : va_up (va_up f k v) k w = va_up f k w := by
  funext j
  unfold va_up
  split <;> rfl
theorem up_self {α : Type} (f : Nat → α) (k : Nat) : va_up f k (f k) = f := by
  funext j
  unfold va_up
  split
  · rename_i e; rw [e]
  · rfl
theorem InvD_laid {S : Nat → Int} (hI : InvD S) {n p : Int} (hn : 0 ≤ n ∧ n < S 0) (hp : 0 ≤ p ∧ p ≤ 4) : InvD (va_up S (42 + n).toNat p) := by
  have h0 := hI.1
  have e0 : va_up S (42 + n).toNat p 0 = S 0 := up_ne _ _ (by omega)
  refine ⟨by rw [e0]; exact h0, ?_⟩
  intro m h1 h2
  rw [e0] at h2
  have q := hI.2 m h1 h2
  have e : ∀ r : Int, (r = 7 ∨ r = 14 ∨ r = 21 ∨ r = 28 ∨ r = 35) → va_up S (42 + n).toNat p (r + m).toNat = S (r + m).toNat := fun r h => up_ne _ _ (by omega)
  have e2 : ∀ k : Int, 0 ≤ k → k ≤ 3 → va_up S (42 + n).toNat p (49 + 4 * m + k).toNat = S (49 + 4 * m + k).toNat := fun k h3 h4 => up_ne _ _ (by omega)
  rw [e 7 (by omega), e 14 (by omega), e 21 (by omega), e 28 (by omega), e 35 (by omega)]
  refine ⟨q.1, q.2.1, q.2.2.1, q.2.2.2.1, q.2.2.2.2.1, ?_, fun k h3 h4 => by rw [e2 k h3 h4]; exact q.2.2.2.2.2.2 k h3 h4⟩
  by_cases hm : m = n
  · subst hm
    rw [up_same]
    exact hp
  · rw [up_ne _ _ (by omega)]
    exact q.2.2.2.2.2.1
theorem InvD_v {S : Nat → Int} (hI : InvD S) {n p : Int} (hn : 0 ≤ n ∧ n < S 0) (hp : 0 ≤ p ∧ p ≤ 9) : InvD (va_up S (14 + n).toNat p) := by
  have h0 := hI.1
  have e0 : va_up S (14 + n).toNat p 0 = S 0 := up_ne _ _ (by omega)
  refine ⟨by rw [e0]; exact h0, ?_⟩
  intro m h1 h2
  rw [e0] at h2
  have q := hI.2 m h1 h2
  have e : ∀ r : Int, (r = 7 ∨ r = 42 ∨ r = 21 ∨ r = 28 ∨ r = 35) → va_up S (14 + n).toNat p (r + m).toNat = S (r + m).toNat := fun r h => up_ne _ _ (by omega)
  have e2 : ∀ k : Int, 0 ≤ k → k ≤ 3 → va_up S (14 + n).toNat p (49 + 4 * m + k).toNat = S (49 + 4 * m + k).toNat := fun k h3 h4 => up_ne _ _ (by omega)
  rw [e 7 (by omega), e 42 (by omega), e 21 (by omega), e 28 (by omega), e 35 (by omega)]
  refine ⟨q.1, ?_, q.2.2.1, q.2.2.2.1, q.2.2.2.2.1, q.2.2.2.2.2.1, fun k h3 h4 => by rw [e2 k h3 h4]; exact q.2.2.2.2.2.2 k h3 h4⟩
  by_cases hm : m = n
  · subst hm
    rw [up_same]
    exact hp
  · rw [up_ne _ _ (by omega)]
    exact q.2.1
theorem InvL_of {S T : Nat → Int} (h : InvL S) (e : ∀ k : Nat, k < 7 ∨ 77 ≤ k → T k = S k) : InvL T := by
  have h2 := h.1
  have h3 := h.2.1
  have h4 := h.2.2.1
  unfold InvL
  rw [e 0 (by omega), e 2 (by omega), e 3 (by omega), e 4 (by omega)]
  refine ⟨h.1, h.2.1, h.2.2.1, fun k a b => ?_, fun k a b => ?_, fun k a b => ?_⟩
  · rw [e _ (by omega), e _ (by omega), e _ (by omega)]; exact h.2.2.2.1 k a b
  · rw [e _ (by omega), e _ (by omega)]; exact h.2.2.2.2.1 k a b
  · rw [e _ (by omega), e _ (by omega)]; exact h.2.2.2.2.2 k a b
theorem InvL_laid {S : Nat → Int} (hI : InvD S) (h : InvL S) {n p : Int} (hn : 0 ≤ n ∧ n < S 0) : InvL (va_up S (42 + n).toNat p) := InvL_of h (fun k hk => up_ne _ _ (by have := hI.1; omega))
theorem InvL_v {S : Nat → Int} (hI : InvD S) (h : InvL S) {n p : Int} (hn : 0 ≤ n ∧ n < S 0) : InvL (va_up S (14 + n).toNat p) := InvL_of h (fun k hk => up_ne _ _ (by have := hI.1; omega))
theorem tellsS_of {S T : Nat → Int} (e : ∀ k : Nat, k < 7 ∨ 77 ≤ k → T k = S k) {w z : Int} (h6 : -1 ≤ S 6) (hw : 100 ≤ w) : tellsS T w z = tellsS S w z := by
  unfold tellsS
  rw [e 6 (by omega)]
  split
  · rfl
  · rw [e _ (by omega)]
theorem InvH_of {S T : Nat → Int} (h : InvH S) (e : ∀ k : Nat, k < 7 ∨ 77 ≤ k → T k = S k) : InvH T := by
  have h1 := h.1
  unfold InvH
  rw [e 6 (by omega)]
  refine ⟨h.1, fun a => ?_⟩
  rw [e _ (by omega), e _ (by omega)]
  exact h.2 a
theorem codeS_of {S T : Nat → Int} (h : InvH S) (e : ∀ k : Nat, k < 7 ∨ 77 ≤ k → T k = S k) : codeS T = codeS S := by
  have h1 := h.1
  funext i
  unfold codeS
  rw [e 6 (by omega), e _ (by omega)]
theorem InvC_of {S T : Nat → Int} (hH : InvH S) (h : InvC S) (e : ∀ k : Nat, k < 7 ∨ 77 ≤ k → T k = S k) : InvC T := by
  have h1 := hH.1
  have e1 : manyS T = manyS S := tellsS_of e h1.1 (by decide)
  unfold InvC
  rw [e1, codeS_of hH e]
  exact h
noncomputable def canS (S : Nat → Int) (n : Int) : Int := setB (fun p => seenS (va_up S (42 + n).toNat p)) 5
noncomputable def frN (P : Int → Prop) : Nat → Int
  | 0 => 0
  | k + 1 => frN P k + b2 (P (9 - k))
noncomputable def frL (P : Int → Prop) : Nat → Int
  | 0 => -5
  | k + 1 => iteP (P (9 - k)) (9 - (k : Int)) (frL P k)
theorem frN_s {P : Int → Prop} {v : Int} (h : v ≤ 9) : frN P (9 - (v - 1)).toNat = frN P (9 - v).toNat + b2 (P v) := by
  have e : (9 - (v - 1)).toNat = (9 - v).toNat + 1 := by omega
  rw [e, frN, show (9 : Int) - ((9 - v).toNat : Int) = v by omega]
theorem frL_s {P : Int → Prop} {v : Int} (h : v ≤ 9) : frL P (9 - (v - 1)).toNat = iteP (P v) v (frL P (9 - v).toNat) := by
  have e : (9 - (v - 1)).toNat = (9 - v).toNat + 1 := by omega
  rw [e, frL, show (9 : Int) - ((9 - v).toNat : Int) = v by omega]
theorem frN_rng (P : Int → Prop) : ∀ k : Nat, 0 ≤ frN P k ∧ frN P k ≤ k
  | 0 => by simp [frN]
  | k + 1 => by
    have h := frN_rng P k
    have h2 := b2_01 (P (9 - k))
    simp only [frN]
    omega
theorem frL_rng (P : Int → Prop) : ∀ k : Nat, k ≤ 10 → -5 ≤ frL P k ∧ frL P k ≤ 9
  | 0, _ => by simp [frL]
  | k + 1, h0 => by
    have h := frL_rng P k (by omega)
    unfold frL iteP
    split <;> omega
noncomputable def firmS (S : Nat → Int) (n what : Int) : Int := iteP ((0 ≤ n ∧ n < S 0) ∧ (0 ≤ what ∧ what ≤ 1)) (if what = 0 then frN (fun v => seenS (va_up S (14 + n).toNat v)) 10 else frL (fun v => seenS (va_up S (14 + n).toNat v)) 10) (-1)
/-- where all are, the plan's first k rows done -/
noncomputable def planS (S : Nat → Int) : Nat → (Nat → Int)
  | 0 => S
  | k + 1 => va_up (planS S k) (42 + S (92 + (k : Int)).toNat).toNat (iteP (S (100 + (k : Int)).toNat = 4 ∨ freeS (planS S k) (S (92 + (k : Int)).toNat) (S (100 + (k : Int)).toNat)) (S (100 + (k : Int)).toNat) (planS S k (42 + S (92 + (k : Int)).toNat).toNat))
theorem planS_same {S : Nat → Int} (hI : InvD S) (hL : InvL S) : ∀ k : Nat, (k : Int) ≤ S 3 → ∀ j : Nat, (j < 42 ∨ 49 ≤ j) → planS S k j = S j
  | 0, _, _, _ => rfl
  | k + 1, h, j, hj => by
    have h1 := hL.2.2.2.2.1 k (by omega) (by omega)
    have h2 := hI.1
    rw [planS, up_ne _ _ (by omega)]
    exact planS_same hI hL k (by omega) j hj
theorem planS_I {S : Nat → Int} (hI : InvD S) (hL : InvL S) : ∀ k : Nat, (k : Int) ≤ S 3 → InvD (planS S k)
  | 0, _ => hI
  | k + 1, h => by
    have h1 := hL.2.2.2.2.1 k (by omega) (by omega)
    have h2 := planS_I hI hL k (by omega)
    have e0 := planS_same hI hL k (by omega) 0 (by omega)
    rw [planS]
    refine InvD_laid h2 (by rw [e0]; exact h1.1) ?_
    unfold iteP
    split
    · exact h1.2
    · have h3 := h2.2 (S (92 + (k : Int)).toNat) h1.1.1 (by rw [e0]; exact h1.1.2)
      exact h3.2.2.2.2.2.1
noncomputable def doneS (S : Nat → Int) (what : Int) : Int := iteP (0 ≤ what ∧ what ≤ 1) (if what = 0 then laidS (planS S (S 3).toNat) else scoreS (planS S (S 3).toNat)) (-10001)
