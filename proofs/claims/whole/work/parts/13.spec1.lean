/-! THE REFERENCE'S ROW OF NUMBERS, READ -/
def RPic (g : GG) (h0 : Nat) (S : Nat → Int) (H : Heap) : Prop := ∃ (a1 : Nat) (fs : List Value), va_at g.1 vwCl (h0, .inr (13, fs)) H ∧ fs[1]? = some (.ref a1) ∧ va_at g.1 vwCl (a1, .inl (g.2.1 0, 939, .inl (aI S))) H
/-- dots: what holds of them -/
def InvD (S : Nat → Int) : Prop := (0 ≤ S 0 ∧ S 0 ≤ 7) ∧ ∀ n : Int, 0 ≤ n → n < S 0 → (0 ≤ S (7 + n).toNat ∧ S (7 + n).toNat ≤ 6) ∧ (0 ≤ S (14 + n).toNat ∧ S (14 + n).toNat ≤ 9) ∧ (1 ≤ S (21 + n).toNat ∧ S (21 + n).toNat ≤ 9) ∧ (0 ≤ S (28 + n).toNat ∧ S (28 + n).toNat ≤ 29) ∧ (0 ≤ S (35 + n).toNat ∧ S (35 + n).toNat ≤ 11) ∧ (0 ≤ S (42 + n).toNat ∧ S (42 + n).toNat ≤ 4) ∧ ∀ p : Int, 0 ≤ p → p ≤ 3 → 0 ≤ S (49 + 4 * n + p).toNat ∧ S (49 + 4 * n + p).toNat ≤ 9
/-- 'for all below' and 'there is one below' -/
def allB (P : Int → Prop) (k : Int) : Prop := ∀ j : Int, 0 ≤ j → j < k → P j
def exB (P : Int → Prop) (k : Int) : Prop := ∃ j : Int, 0 ≤ j ∧ j < k ∧ P j
def clampS (v low high : Int) : Int := if v < low then low else if high < v then high else v
def lenK (kind v letters : Int) : Int := if kind = 1 then letters + letters / 2 else if kind = 3 ∨ kind = 6 then clampS (letters - v / 3) 1 9 else if kind = 4 then letters + letters / 2 + 1 else letters
def lenS (S : Nat → Int) (n : Int) : Int := lenK (S (7 + n).toNat) (S (14 + n).toNat) (S (21 + n).toNat)
def rowS (S : Nat → Int) (n p : Int) : Int := S (35 + n).toNat - (if p = 2 then 1 else 0) + (if p = 3 then 1 else 0)
def firstS (S : Nat → Int) (n p : Int) : Int := S (28 + n).toNat + (if p = 0 then 1 else if p = 1 then -(lenS S n) else 0)
def isAtS (S : Nat → Int) (n p c r : Int) : Prop := p ≠ 4 ∧ r = rowS S n p ∧ 0 ≤ c - firstS S n p ∧ c - firstS S n p < lenS S n
noncomputable def cntB (P : Int → Prop) : Nat → Int
  | 0 => 0
  | n + 1 => cntB P n + b2 (P n)
noncomputable def bothS (S : Nat → Int) (a p b q : Int) : Int := @ite Int (rowS S a p = rowS S b q) (Classical.propDecidable _) (cntB (fun k => isAtS S b q (firstS S a p + k) (rowS S b q)) (lenS S a).toNat) 0
def mayS (S : Nat → Int) (n p : Int) : Prop := (S (7 + n).toNat = 1 → p < 2) ∧ (S (7 + n).toNat = 2 → p = 0 ∨ p = 3) ∧ (S (7 + n).toNat = 3 → 1 < p) ∧ (S (7 + n).toNat = 5 → p = 0) ∧ (S (7 + n).toNat = 6 → 0 < S (49 + 4 * n + p).toNat)
def fitsS (S : Nat → Int) (n p wide : Int) : Prop := (mayS S n p ∧ (0 ≤ rowS S n p ∧ rowS S n p ≤ 11) ∧ 0 ≤ firstS S n p ∧ firstS S n p + lenS S n ≤ wide) ∧ allB (fun d => ¬ isAtS S n p (S (28 + d).toNat) (S (35 + d).toNat)) (S 0)
def tellsS (S : Nat → Int) (w none : Int) : Int := if S 6 = -1 then none else S (w + S 6).toNat
def wideS (S : Nat → Int) : Int := clampS (tellsS S 224 24) 10 30
def riverS (S : Nat → Int) : Int := tellsS S 229 99
def freeW (S : Nat → Int) (w : Int → Int) (n p : Int) : Prop := fitsS S n p (wideS S) ∧ allB (fun k => k = n ∨ w k = 4 ∨ bothS S n p k (w k) = 0) (S 0)
def freeS (S : Nat → Int) (n p : Int) : Prop := freeW S (fun k => S (42 + k).toNat) n p
/-- maps: what holds of the held one's numbers -/
def InvH (S : Nat → Int) : Prop := (-1 ≤ S 6 ∧ S 6 ≤ 4) ∧ (0 ≤ S 6 → (0 ≤ S (224 + S 6).toNat ∧ S (224 + S 6).toNat ≤ 99) ∧ (0 ≤ S (229 + S 6).toNat ∧ S (229 + S 6).toNat ≤ 99))
theorem lenK_rng {k v l : Int} (hv : 0 ≤ v ∧ v ≤ 9) (hl : 1 ≤ l ∧ l ≤ 9) : 1 ≤ lenK k v l ∧ lenK k v l ≤ 14 := by
  unfold lenK clampS
  split
  · omega
  · split
    · split
      · omega
      · split <;> omega
    · split <;> omega
theorem lenS_rng {S : Nat → Int} (hI : InvD S) {n : Int} (h : 0 ≤ n ∧ n < S 0) : 1 ≤ lenS S n ∧ lenS S n ≤ 14 := by
  have q := hI.2 n h.1 h.2
  exact lenK_rng q.2.1 q.2.2.1
theorem rowS_rng {S : Nat → Int} (hI : InvD S) {n p : Int} (h : 0 ≤ n ∧ n < S 0) : -1 ≤ rowS S n p ∧ rowS S n p ≤ 12 := by
  have q := hI.2 n h.1 h.2
  unfold rowS
  split <;> split <;> omega
theorem firstS_rng {S : Nat → Int} (hI : InvD S) {n p : Int} (h : 0 ≤ n ∧ n < S 0) : -14 ≤ firstS S n p ∧ firstS S n p ≤ 30 := by
  have q := hI.2 n h.1 h.2
  have q2 := lenS_rng hI h
  unfold firstS
  split
  · omega
  · split <;> omega
theorem cntB_rng (P : Int → Prop) : ∀ n : Nat, 0 ≤ cntB P n ∧ cntB P n ≤ n
  | 0 => by simp [cntB]
  | n + 1 => by
    have h := cntB_rng P n
    have h2 := b2_01 (P n)
    simp only [cntB]
    omega
theorem bothS_rng {S : Nat → Int} (hI : InvD S) {a p b q : Int} (h : 0 ≤ a ∧ a < S 0) : 0 ≤ bothS S a p b q ∧ bothS S a p b q ≤ 14 := by
  have h1 := lenS_rng hI h
  unfold bothS
  split
  · have h2 := cntB_rng (fun k => isAtS S b q (firstS S a p + k) (rowS S b q)) (lenS S a).toNat
    omega
  · omega
theorem wideS_rng (S : Nat → Int) : 10 ≤ wideS S ∧ wideS S ≤ 30 := by
  unfold wideS clampS
  split
  · omega
  · split <;> omega
theorem tellsS_rng {S : Nat → Int} (h : InvH S) {w z : Int} (hw : w = 224 ∨ w = 229) (hz : 0 ≤ z ∧ z ≤ 99) : 0 ≤ tellsS S w z ∧ tellsS S w z ≤ 99 := by
  unfold tellsS
  split
  · exact hz
  · have h1 := h.1
    have h2 := h.2 (by omega)
    rcases hw with rfl | rfl <;> omega
