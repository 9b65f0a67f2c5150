/-! THE REFERENCE, WHOLE -/
def RW (g : GG) (h0 : Nat) (ad : Nat → Nat) (F : Nat → Int) (A : Nat → Nat → Int) : va_W := [(h0, .inr (13, [.int (iI (F 0)), .ref (ad 1), .ref (ad 2), .int (iI (F 3)), .int (iI (F 4)), .int (iI (F 5)), .int (iI (F 6)), .int (iI (F 7)), .int (iI (F 8)), .ref (ad 9), .ref (ad 10), .ref (ad 11), .ref (ad 12), .ref (ad 13), .ref (ad 14), .ref (ad 15), .int (iI (F 16)), .int (iI (F 17)), .int (iI (F 18)), .int (iI (F 19)), .ref (ad 20), .ref (ad 21), .ref (ad 22), .ref (ad 23), .int (iI (F 24)), .int (iI (F 25)), .int (iI (F 26)), .int (iI (F 27))])), (ad 1, .inl (g.2.1 0, 939, .inl (aI (A 1)))), (ad 2, .inl (g.2.1 0, 939, .inl (aI (A 2)))), (ad 9, .inl (g.2.1 0, 6, .inl (aI (A 9)))), (ad 10, .inl (g.2.1 1, 64, .inl (aI (A 10)))), (ad 11, .inl (g.2.1 1, 28, .inl (aI (A 11)))), (ad 12, .inl (g.2.1 0, 28, .inl (aI (A 12)))), (ad 13, .inl (g.2.1 0, 28, .inl (aI (A 13)))), (ad 14, .inl (g.2.1 0, 7, .inl (aI (A 14)))), (ad 15, .inl (g.2.1 0, 7, .inl (aI (A 15)))), (ad 20, .inl (g.2.1 0, 7, .inl (aI (A 20)))), (ad 21, .inl (g.2.1 0, 7, .inl (aI (A 21)))), (ad 22, .inl (g.2.1 0, 7, .inl (aI (A 22)))), (ad 23, .inl (g.2.1 0, 20, .inl (aI (A 23))))]
theorem RW_pic {g : GG} {h0 : Nat} {ad : Nat → Nat} {F : Nat → Int} {A : Nat → Nat → Int} {B : Nat → Prop} {H0 H : Heap} {locs : List Loc} (hS : St g B H0 H locs (RW g h0 ad F A)) : RPic g h0 (A 1) H := ⟨ad 1, _, hS.1 0 _ rfl, rfl, hS.1 1 _ rfl⟩
/-- the held map's steps -/
def codeS (S : Nat → Int) : Nat → Int := fun i => S (239 + 140 * S 6 + (i : Int)).toNat
def manyS (S : Nat → Int) : Int := tellsS S 234 0
def depS (f : Nat → Int) : Nat → Int
  | 0 => 0
  | i + 1 => if 0 ≤ f i then depS f i + 1 else if f i = -1 then depS f i else if -10 < f i then depS f i - 1 else 0
def clS (f : Nat → Int) : Nat → Int
  | 0 => 0
  | i + 1 => if f i ≤ -10 then clS f i + 1 else clS f i
def okS (st d : Int) : Prop := (0 ≤ st → st % 8 ≤ 5 ∧ st ≤ 3199 ∧ d ≤ 30) ∧ (st = -1 → 1 ≤ d) ∧ (-10 < st → st < -1 → 2 ≤ d) ∧ (st ≤ -10 → 1 ≤ d ∧ -299 ≤ st ∧ (-109 ≤ st ∨ st ≤ -200)) ∧ 0 ≤ d ∧ d ≤ 31
def InvC (S : Nat → Int) : Prop := (0 ≤ manyS S ∧ manyS S ≤ 100) ∧ clS (codeS S) (manyS S).toNat ≤ 10 ∧ ∀ i : Nat, (i : Int) < manyS S → okS (codeS S i) (depS (codeS S) i)
def testS (x : Int → Int) (st : Int) : Prop := (st / 8 % 4 = 0 → x (st % 8) < st / 32) ∧ (st / 8 % 4 = 1 → x (st % 8) = st / 32) ∧ (st / 8 % 4 ≠ 0 → st / 8 % 4 ≠ 1 → st / 32 < x (st % 8))
def evT (x : Int → Int) (f : Nat → Int) : Nat → (Nat → Prop)
  | 0 => fun _ => False
  | i + 1 => if 0 ≤ f i then va_up (evT x f i) (depS f i).toNat (testS x (f i)) else if f i = -1 then va_up (evT x f i) (depS f i - 1).toNat (¬ evT x f i (depS f i - 1).toNat) else if -10 < f i then va_up (evT x f i) (depS f i - 2).toNat (if f i = -2 then evT x f i (depS f i - 2).toNat ∧ evT x f i (depS f i - 1).toNat else evT x f i (depS f i - 2).toNat ∨ evT x f i (depS f i - 1).toNat) else evT x f i
def gainS (st : Int) : Int := if -200 < st then -10 - st else st + 200
noncomputable def evS (x : Int → Int) (f : Nat → Int) : Nat → Int
  | 0 => 0
  | i + 1 => if f i ≤ -10 then evS x f i + b2 (evT x f i 0) * gainS (f i) else evS x f i
def xS (S : Nat → Int) (n p k : Int) : Int := if k = 0 then n else if k = 1 then S (7 + n).toNat else if k = 2 then S (14 + n).toNat else if k = 3 then p else if k = 4 then S (28 + n).toNat / 3 else S (21 + n).toNat
noncomputable def tasteS (S : Nat → Int) (n p : Int) : Int := evS (xS S n p) (codeS S) (manyS S).toNat
noncomputable def goodS (S : Nat → Int) (n p : Int) : Int := 10 + tasteS S n p - (if 0 ≤ riverS S - firstS S n p ∧ riverS S - firstS S n p < lenS S n then 5 else 0)
noncomputable def sumI (f : Int → Int) : Nat → Int
  | 0 => 0
  | n + 1 => sumI f n + f n
noncomputable def scoreS (S : Nat → Int) : Int := sumI (fun n => if S (42 + n).toNat = 4 then 0 else goodS S n (S (42 + n).toNat)) (S 0).toNat
theorem evS_rng (x : Int → Int) (f : Nat → Int) : ∀ n : Nat, (∀ i : Nat, i < n → okS (f i) (depS f i)) → -(99 * clS f n) ≤ evS x f n ∧ evS x f n ≤ 99 * clS f n
  | 0, _ => by simp [evS, clS]
  | n + 1, h => by
    have h1 := evS_rng x f n (fun i hi => h i (by omega))
    have h2 := (h n (by omega)).2.2.2.1
    unfold evS clS
    split
    · rename_i h3
      have h4 := h2 h3
      unfold gainS
      rcases b2_01 (evT x f n 0) with q | q <;> rw [q] <;> split <;> omega
    · exact h1
theorem clS_le (f : Nat → Int) : ∀ n m : Nat, n ≤ m → clS f n ≤ clS f m ∧ 0 ≤ clS f n
  | n, 0, h => by
    have : n = 0 := by omega
    subst this
    simp [clS]
  | n, m + 1, h => by
    rcases (show n ≤ m ∨ n = m + 1 by omega) with q | q
    · have h1 := clS_le f n m q
      refine ⟨?_, h1.2⟩
      show _ ≤ (if f m ≤ -10 then clS f m + 1 else clS f m)
      split <;> omega
    · subst q
      have h1 := clS_le f m m (Nat.le_refl _)
      refine ⟨Int.le_refl _, ?_⟩
      show 0 ≤ (if f m ≤ -10 then clS f m + 1 else clS f m)
      split <;> omega
theorem tasteS_rng {S : Nat → Int} (hC : InvC S) (n p : Int) : -990 ≤ tasteS S n p ∧ tasteS S n p ≤ 990 := by
  have h := evS_rng (xS S n p) (codeS S) (manyS S).toNat (fun i hi => hC.2.2 i (by omega))
  have h2 := hC.2.1
  unfold tasteS
  omega
theorem goodS_rng {S : Nat → Int} (hC : InvC S) (n p : Int) : -985 ≤ goodS S n p ∧ goodS S n p ≤ 1000 := by
  have h := tasteS_rng hC n p
  unfold goodS
  split <;> omega
theorem sumI_rng {f : Int → Int} {lo hi : Int} (hl : lo ≤ 0) (hh : 0 ≤ hi) : ∀ n : Nat, (∀ i : Int, 0 ≤ i → i < n → lo ≤ f i ∧ f i ≤ hi) → lo * n ≤ sumI f n ∧ sumI f n ≤ hi * n
  | 0, _ => by simp [sumI]
  | n + 1, h => by
    have h1 := sumI_rng hl hh n (fun i a b => h i a (by omega))
    have h2 := h n (by omega) (by omega)
    simp only [sumI]
    have e1 : lo * ((n + 1 : Nat) : Int) = lo * n + lo := by rw [Int.natCast_succ, Int.mul_add, Int.mul_one]
    have e2 : hi * ((n + 1 : Nat) : Int) = hi * n + hi := by rw [Int.natCast_succ, Int.mul_add, Int.mul_one]
    omega
theorem sumI_s {f : Int → Int} {k : Int} (h : 0 ≤ k) : sumI f (k + 1).toNat = sumI f k.toNat + f k := by
  have e : (k + 1).toNat = k.toNat + 1 := by omega
  rw [e, sumI, Int.toNat_of_nonneg h]
theorem sumI_ext {f h : Int → Int} : ∀ {n : Nat}, (∀ i : Int, 0 ≤ i → i < n → f i = h i) → sumI f n = sumI h n
  | 0, _ => rfl
  | n + 1, q => by rw [sumI, sumI, sumI_ext (n := n) (fun i a b => q i a (by omega)), q n (by omega) (by omega)]
theorem scoreS_rng {S : Nat → Int} (hI : InvD S) (hC : InvC S) : -7000 ≤ scoreS S ∧ scoreS S ≤ 7000 := by
  have h := sumI_rng (f := fun n => if S (42 + n).toNat = 4 then 0 else goodS S n (S (42 + n).toNat)) (lo := -1000) (hi := 1000) (by decide) (by decide) (S 0).toNat (fun i _ _ => by
    have q := goodS_rng hC i (S (42 + i).toNat)
    show -1000 ≤ (if S (42 + i).toNat = 4 then 0 else goodS S i (S (42 + i).toNat)) ∧ (if S (42 + i).toNat = 4 then 0 else goodS S i (S (42 + i).toNat)) ≤ 1000
    split <;> omega)
  have h2 := hI.1
  unfold scoreS
  omega
theorem part_rng {f : Int → Int} {lo hi : Int} {n : Nat} (hn : n ≤ 7) (hf : ∀ i : Int, lo ≤ f i ∧ f i ≤ hi) (hl : lo ≤ 0) (hh : 0 ≤ hi) : 7 * lo ≤ sumI f n ∧ sumI f n ≤ 7 * hi := by
  have h := sumI_rng (f := f) hl hh n (fun i _ _ => hf i)
  have h1 : hi * (n : Int) ≤ hi * 7 := Int.mul_le_mul_of_nonneg_left (by omega) hh
  have h2 : (-lo) * (n : Int) ≤ (-lo) * 7 := Int.mul_le_mul_of_nonneg_left (by omega) (by omega)
  rw [Int.neg_mul, Int.neg_mul] at h2
  omega
