noncomputable def scoreW (S : Nat → Int) (w : Int → Int) : Int := sumI (fun n => if w n = 4 then 0 else goodS S n (w n)) (S 0).toNat
theorem scoreW_rng {S : Nat → Int} (hI : InvD S) (hC : InvC S) (w : Int → Int) (n : Nat) (hn : n ≤ 7) : -7000 ≤ sumI (fun n => if w n = 4 then 0 else goodS S n (w n)) n ∧ sumI (fun n => if w n = 4 then 0 else goodS S n (w n)) n ≤ 7000 := by
  have h := part_rng (f := fun n => if w n = 4 then 0 else goodS S n (w n)) (lo := -1000) (hi := 1000) hn (fun i => by
    have q := goodS_rng hC i (w i)
    show -1000 ≤ (if w i = 4 then 0 else goodS S i (w i)) ∧ (if w i = 4 then 0 else goodS S i (w i)) ≤ 1000
    split <;> omega) (by decide) (by decide)
  omega
theorem cvS_rng {S : Nat → Int} (hC : InvC S) (hG : InvG S) {k : Int} (h : 0 ≤ k ∧ k < manyS S) : okS (codeS S k.toNat) (depS (codeS S) k.toNat) ∧ ((codeS S k.toNat ≤ -10 → depS (codeS S) k.toNat = 1) ∧ (0 ≤ codeS S k.toNat → codeS S k.toNat / 8 % 4 ≤ 2) ∧ (-10 < codeS S k.toNat → -3 ≤ codeS S k.toNat)) := ⟨hC.2.2 k.toNat (by omega), hG k.toNat (by omega)⟩
theorem cv_t {st : Int} (h : 0 ≤ st) : cvS st = 1000 + (st % 8 * 3 + st / 8 % 4) * 100 + st / 32 := if_pos h
theorem cv_1 : cvS (-1) = 1 := by decide
theorem cv_2 : cvS (-2) = 2 := by decide
theorem cv_3 : cvS (-3) = 3 := by decide
theorem cv_m {st : Int} (h1 : -10 < st) (h2 : st < -2) (h3 : -10 < st → -3 ≤ st) : cvS st = 3 := by
  have q := h3 h1
  rw [show st = -3 by omega]
  rfl
theorem cv_l {st : Int} (h : st ≤ -10) (h2 : -200 < st) : cvS st = -st + 9990 := by unfold cvS; (repeat' split) <;> omega
theorem cv_b {st : Int} (h : st ≤ -200) : cvS st = -st + 19800 := by unfold cvS; (repeat' split) <;> omega
theorem far_eq {S : Nat → Int} {n d p : Int} (hp : p = S (42 + n).toNat) : (if startN (S (28 + n).toNat) p (lenK (S (7 + n).toNat) (S (14 + n).toNat) (S (21 + n).toNat)) + lenK (S (7 + n).toNat) (S (14 + n).toNat) (S (21 + n).toNat) / 2 - S (28 + d).toNat < 0 then -(startN (S (28 + n).toNat) p (lenK (S (7 + n).toNat) (S (14 + n).toNat) (S (21 + n).toNat)) + lenK (S (7 + n).toNat) (S (14 + n).toNat) (S (21 + n).toNat) / 2 - S (28 + d).toNat) else startN (S (28 + n).toNat) p (lenK (S (7 + n).toNat) (S (14 + n).toNat) (S (21 + n).toNat)) + lenK (S (7 + n).toNat) (S (14 + n).toNat) (S (21 + n).toNat) / 2 - S (28 + d).toNat) + (if lineN (S (35 + n).toNat) p - S (35 + d).toNat < 0 then -(lineN (S (35 + n).toNat) p - S (35 + d).toNat) else lineN (S (35 + n).toNat) p - S (35 + d).toNat) = farS S n d := by
  rw [first_eq, line_eq]
  subst hp
  unfold farS absD
  show _ = (if firstS S n (S (42 + n).toNat) + lenS S n / 2 < S (28 + d).toNat then S (28 + d).toNat - (firstS S n (S (42 + n).toNat) + lenS S n / 2) else firstS S n (S (42 + n).toNat) + lenS S n / 2 - S (28 + d).toNat) + (if rowS S n (S (42 + n).toNat) < S (35 + d).toNat then S (35 + d).toNat - rowS S n (S (42 + n).toNat) else rowS S n (S (42 + n).toNat) - S (35 + d).toNat)
  have e : lenS S n = lenK (S (7 + n).toNat) (S (14 + n).toNat) (S (21 + n).toNat) := rfl
  rw [e]
  (repeat' split) <;> omega
/-- one placed elsewhere, with another v -/
def thatS (S : Nat → Int) (i p v : Int) : Nat → Int := va_up (va_up S (42 + i).toNat p) (14 + i).toNat v
theorem that_at {S : Nat → Int} (hI : InvD S) {i p v c r : Int} (hi : 0 ≤ i ∧ i < S 0) : (0 < atS (thatS S i p v) c r) ↔ (iand (atS S c r) (ixor (ishl 1 i) (-1)) ≠ 0 ∨ (p ≠ 4 ∧ (lineN (S (35 + i).toNat) p = r ∧ (startN (S (28 + i).toNat) p (lenK (S (7 + i).toNat) v (S (21 + i).toNat)) ≤ c ∧ c < startN (S (28 + i).toNat) p (lenK (S (7 + i).toNat) v (S (21 + i).toNat)) + lenK (S (7 + i).toNat) v (S (21 + i).toNat))))) := by
  have hD := hI.1
  have e0 : thatS S i p v 0 = S 0 := by unfold thatS; rw [up_ne _ _ (by omega), up_ne _ _ (by omega)]
  have oth : ∀ k : Int, 0 ≤ k → k < S 0 → k ≠ i → (isAtS (thatS S i p v) k (thatS S i p v (42 + k).toNat) c r ↔ isAtS S k (S (42 + k).toNat) c r) := by
    intro k h0 h1 hne
    have u : ∀ q : Int, (q = 7 ∨ q = 14 ∨ q = 21 ∨ q = 28 ∨ q = 35 ∨ q = 42) → thatS S i p v (q + k).toNat = S (q + k).toNat := fun q hq => by unfold thatS; rw [up_ne _ _ (by omega), up_ne _ _ (by omega)]
    unfold isAtS rowS firstS lenS
    rw [u 7 (by omega), u 14 (by omega), u 21 (by omega), u 28 (by omega), u 35 (by omega), u 42 (by omega)]
  have own : isAtS (thatS S i p v) i (thatS S i p v (42 + i).toNat) c r ↔ (p ≠ 4 ∧ (lineN (S (35 + i).toNat) p = r ∧ (startN (S (28 + i).toNat) p (lenK (S (7 + i).toNat) v (S (21 + i).toNat)) ≤ c ∧ c < startN (S (28 + i).toNat) p (lenK (S (7 + i).toNat) v (S (21 + i).toNat)) + lenK (S (7 + i).toNat) v (S (21 + i).toNat)))) := by
    have u : ∀ q : Int, (q = 7 ∨ q = 21 ∨ q = 28 ∨ q = 35) → thatS S i p v (q + i).toNat = S (q + i).toNat := fun q hq => by unfold thatS; rw [up_ne _ _ (by omega), up_ne _ _ (by omega)]
    have u14 : thatS S i p v (14 + i).toNat = v := up_same _ _ _
    have u42 : thatS S i p v (42 + i).toNat = p := by unfold thatS; rw [up_ne _ _ (by omega), up_same]
    rw [u42]
    by_cases hp : p = 4
    · unfold isAtS; constructor
      · intro h; exact absurd hp h.1
      · intro h; exact absurd hp h.1
    · have q := cov_eq (thatS S i p v) (i := i) (p := p) (c := c) (r := r) hp
      rw [u 7 (by omega), u14, u 21 (by omega), u 28 (by omega), u 35 (by omega)] at q
      rw [← q]
      exact ⟨fun h => ⟨hp, h⟩, fun h => h.2⟩
  unfold atS
  rw [clr7 (by omega) (by omega), e0]
  have hpos : 0 < setB (fun n => isAtS (thatS S i p v) n (thatS S i p v (42 + n).toNat) c r) (S 0).toNat ↔ setB (fun n => isAtS (thatS S i p v) n (thatS S i p v (42 + n).toNat) c r) (S 0).toNat ≠ 0 := by
    have q := setB_lt (fun n => isAtS (thatS S i p v) n (thatS S i p v (42 + n).toNat) c r) (n := (S 0).toNat) (by omega)
    omega
  rw [hpos, setB_ne, setB_ne]
  constructor
  · intro ⟨k, h0, h1, h2⟩
    by_cases hk : k = i
    · subst hk; exact Or.inr (own.mp h2)
    · exact Or.inl ⟨k, h0, h1, (oth k h0 (by omega) hk).mp h2, hk⟩
  · intro h
    rcases h with ⟨k, h0, h1, h2, hk⟩ | h
    · exact ⟨k, h0, h1, (oth k h0 (by omega) hk).mpr h2⟩
    · exact ⟨i, hi.1, by omega, own.mpr h⟩
theorem that_seen {S : Nat → Int} (hI : InvD S) (hL : InvL S) {i p v : Int} (hi : 0 ≤ i ∧ i < S 0) : seenS (thatS S i p v) ↔ allB (fun k => (iand (atS S (S (77 + k).toNat) (S (82 + k).toNat)) (ixor (ishl 1 i) (-1)) ≠ 0 ∨ (p ≠ 4 ∧ (lineN (S (35 + i).toNat) p = S (82 + k).toNat ∧ (startN (S (28 + i).toNat) p (lenK (S (7 + i).toNat) v (S (21 + i).toNat)) ≤ S (77 + k).toNat ∧ S (77 + k).toNat < startN (S (28 + i).toNat) p (lenK (S (7 + i).toNat) v (S (21 + i).toNat)) + lenK (S (7 + i).toNat) v (S (21 + i).toNat))))) ↔ S (87 + k).toNat = 1) (S 2) := by
  have hD := hI.1
  have u : ∀ q : Nat, (q < 14 ∨ 49 ≤ q) → thatS S i p v q = S q := fun q hq => by unfold thatS; rw [up_ne _ _ (by omega), up_ne _ _ (by omega)]
  unfold seenS
  rw [u 2 (by omega)]
  unfold allB
  constructor
  · intro h k h0 h1
    have q := h k h0 h1
    dsimp only at q
    rw [u (77 + k).toNat (by omega), u (82 + k).toNat (by omega), u (87 + k).toNat (by omega), that_at hI hi] at q
    exact q
  · intro h k h0 h1
    rw [u (77 + k).toNat (by omega), u (82 + k).toNat (by omega), u (87 + k).toNat (by omega), that_at hI hi]
    exact h k h0 h1
