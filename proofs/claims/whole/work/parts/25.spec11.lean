/-! BITS OF A SET, AND SEARCHES -/
theorem setB_bit (P : Int → Prop) : ∀ n : Nat, ∃ a : Nat, setB P n = (a : Int) ∧ a < 2 ^ n ∧ ∀ j : Nat, a.testBit j = true ↔ (j < n ∧ P j)
  | 0 => ⟨0, rfl, by decide, fun j => by simp⟩
  | n + 1 => by
    obtain ⟨a, h1, h2, h3⟩ := setB_bit P n
    by_cases hP : P n
    · refine ⟨2 ^ n + a, ?_, ?_, fun j => ?_⟩
      · rw [setB, h1, b2_t hP, Int.one_mul]; omega
      · rw [Nat.pow_succ]; omega
      · have e := Nat.two_pow_add_eq_or_of_lt h2 1
        rw [Nat.mul_one] at e
        rw [e, Nat.testBit_or, Bool.or_eq_true, h3 j, Nat.testBit_two_pow, decide_eq_true_eq]
        constructor
        · intro h
          rcases h with rfl | h
          · exact ⟨by omega, hP⟩
          · exact ⟨by omega, h.2⟩
        · intro h
          rcases (show n = j ∨ j < n by omega) with q | q
          · exact Or.inl q
          · exact Or.inr ⟨q, h.2⟩
    · refine ⟨a, ?_, ?_, fun j => ?_⟩
      · rw [setB, h1, b2_f hP, Int.zero_mul, Int.add_zero]
      · rw [Nat.pow_succ]; omega
      · rw [h3 j]
        constructor
        · intro h; exact ⟨by omega, h.2⟩
        · intro h
          refine ⟨?_, h.2⟩
          rcases (show n = j ∨ j < n by omega) with q | q
          · exact absurd (by rw [q]; exact h.2) hP
          · exact q
theorem setB_of {P : Int → Prop} {n a : Nat} (h : ∀ j : Nat, a.testBit j = true ↔ (j < n ∧ P j)) : setB P n = (a : Int) := by
  obtain ⟨b, h1, h2, h3⟩ := setB_bit P n
  rw [h1]
  have e : b = a := Nat.eq_of_testBit_eq (fun j => by
    have q : b.testBit j = true ↔ a.testBit j = true := (h3 j).trans (h j).symm
    cases hb : b.testBit j <;> cases ha : a.testBit j <;> simp_all)
  rw [e]
theorem setB_or {P Q : Int → Prop} {n : Nat} (hn : n ≤ 30) : ior (setB P n) (setB Q n) = setB (fun j => P j ∨ Q j) n := by
  obtain ⟨a, a1, a2, a3⟩ := setB_bit P n
  obtain ⟨b, b1, b2', b3⟩ := setB_bit Q n
  have h3 : 2 ^ n ≤ 2 ^ 30 := Nat.pow_le_pow_right (by decide) hn
  have h4 : (2 : Nat) ^ 30 = 1073741824 := by decide
  rw [a1, b1, ior_nat (by omega) (by omega)]
  refine (setB_of (fun j => ?_)).symm
  rw [Nat.testBit_or, Bool.or_eq_true, a3 j, b3 j]
  constructor
  · intro h; rcases h with h | h
    · exact ⟨h.1, Or.inl h.2⟩
    · exact ⟨h.1, Or.inr h.2⟩
  · intro h; rcases h.2 with q | q
    · exact Or.inl ⟨h.1, q⟩
    · exact Or.inr ⟨h.1, q⟩
theorem setB_and {P Q : Int → Prop} {n : Nat} (hn : n ≤ 30) : iand (setB P n) (setB Q n) = setB (fun j => P j ∧ Q j) n := by
  obtain ⟨a, a1, a2, a3⟩ := setB_bit P n
  obtain ⟨b, b1, b2', b3⟩ := setB_bit Q n
  have h3 : 2 ^ n ≤ 2 ^ 30 := Nat.pow_le_pow_right (by decide) hn
  have h4 : (2 : Nat) ^ 30 = 1073741824 := by decide
  rw [a1, b1, iand_nat (by omega)]
  refine (setB_of (fun j => ?_)).symm
  rw [Nat.testBit_and, Bool.and_eq_true, a3 j, b3 j]
  constructor
  · intro h; exact ⟨h.1.1, h.1.2, h.2.2⟩
  · intro h; exact ⟨⟨h.1, h.2.1⟩, h.1, h.2.2⟩
theorem setB_0 {P : Int → Prop} {n : Nat} : setB P n = 0 ↔ ∀ j : Nat, j < n → ¬ P j := by
  obtain ⟨a, a1, a2, a3⟩ := setB_bit P n
  rw [a1]
  constructor
  · intro h j hj hP
    have e : a = 0 := by omega
    have h2 := (a3 j).mpr ⟨hj, hP⟩
    rw [e] at h2
    simp at h2
  · intro h
    have e : a = 0 := Nat.eq_of_testBit_eq (fun j => by
      rw [Nat.zero_testBit]
      cases hb : a.testBit j
      · rfl
      · have h2 := (a3 j).mp hb
        exact absurd h2.2 (h j h2.1))
    omega
theorem setB_one {n : Nat} {k : Int} (hn : n ≤ 30) (h0 : 0 ≤ k) (hk : k < n) : ishl 1 k = setB (fun j => j = k) n := by
  rw [ishl_1 ⟨h0, by omega⟩]
  refine (setB_of (fun j => ?_)).symm
  rw [Nat.testBit_two_pow, decide_eq_true_eq]
  constructor
  · intro h; exact ⟨by omega, by omega⟩
  · intro h; omega
/-- the bit of a set at a place -/
theorem setB_at {P : Int → Prop} {n : Nat} {k : Int} (hn : n ≤ 30) (h0 : 0 ≤ k) (hk : k ≤ 30) : iand (ishr (setB P n) k) 1 = b2 (k < n ∧ P k) := by
  obtain ⟨a, a1, a2, a3⟩ := setB_bit P n
  have h3 : 2 ^ n ≤ 2 ^ 30 := Nat.pow_le_pow_right (by decide) hn
  have h4 : (2 : Nat) ^ 30 = 1073741824 := by decide
  have hd : a / 2 ^ k.toNat ≤ a := Nat.div_le_self _ _
  rw [a1, ishr_n (by omega) ⟨h0, by omega⟩, show (1 : Int) = ((1 : Nat) : Int) from rfl, iand_nat (by omega), Nat.and_one_is_mod]
  have hb := a3 k.toNat
  rw [Nat.testBit_eq_decide_div_mod_eq, decide_eq_true_eq] at hb
  have e2 : ((k.toNat : Nat) : Int) = k := Int.toNat_of_nonneg h0
  rw [e2] at hb
  by_cases h : k < n ∧ P k
  · rw [b2_t h]
    have := hb.mpr ⟨by omega, h.2⟩
    omega
  · rw [b2_f h]
    have h5 : ¬ (a / 2 ^ k.toNat % 2 = 1) := fun q => h ⟨by have := (hb.mp q).1; omega, (hb.mp q).2⟩
    omega
/-- ways: the rows of places in their order; ok u p: p may come behind u -/
noncomputable def cmpP (f : Int → List (List Int)) (ok : Int → Prop) : Nat → List (List Int)
  | 0 => []
  | p + 1 => cmpP f ok p ++ iteP (ok p) (f p) []
noncomputable def cmp (ok : List Int → Int → Prop) : Nat → List Int → List (List Int)
  | 0, u => [u]
  | d + 1, u => cmpP (fun p => cmp ok d (u ++ [p])) (ok u) 5
def atL (u : List Int) (k : Int) : Int := u.getD k.toNat 4
noncomputable def manyL (u : List Int) : Int := cntB (fun k => atL u k ≠ 4) u.length
noncomputable def scoreL (gd : Int → Int → Int) (u : List Int) : Int := sumI (fun k => if atL u k = 4 then 0 else gd k (atL u k)) u.length
/-- no clash of a place with those in a row -/
def freeL (S : Nat → Int) (u : List Int) (p : Int) : Prop := ∀ k : Int, 0 ≤ k → k < u.length → atL u k = 4 ∨ ¬ 0 < bothS S u.length p k (atL u k)
def okW (S : Nat → Int) (wide : Int) (u : List Int) (p : Int) : Prop := p = 4 ∨ (p < 4 ∧ fitsS S u.length p wide ∧ freeL S u p)
def clP (S : Nat → Int) (n p j : Int) : Prop := n ≠ j / 4 ∧ 0 < bothS S n p (j / 4) (j % 4)
def useP (u : List Int) (j : Int) : Prop := j / 4 < u.length ∧ atL u (j / 4) = j % 4
theorem atL_app {u : List Int} {p k : Int} (h0 : 0 ≤ k) (h : k < u.length) : atL (u ++ [p]) k = atL u k := by
  unfold atL
  rw [List.getD_eq_getElem?_getD, List.getD_eq_getElem?_getD, List.getElem?_append_left (by omega)]
theorem atL_last (u : List Int) (p : Int) : atL (u ++ [p]) u.length = p := by
  unfold atL
  rw [List.getD_eq_getElem?_getD, Int.toNat_natCast, List.getElem?_append_right (Nat.le_refl _), Nat.sub_self]
  rfl
theorem len_app (u : List Int) (p : Int) : (u ++ [p]).length = u.length + 1 := by simp
theorem manyL_app (u : List Int) (p : Int) : manyL (u ++ [p]) = manyL u + b2 (p ≠ 4) := by
  unfold manyL
  rw [len_app, cntB]
  have e : cntB (fun k => atL (u ++ [p]) k ≠ 4) u.length = cntB (fun k => atL u k ≠ 4) u.length := cntB_ext (fun i h0 h1 => by rw [atL_app h0 h1])
  rw [e, atL_last]
theorem scoreL_app (gd : Int → Int → Int) (u : List Int) (p : Int) : scoreL gd (u ++ [p]) = scoreL gd u + (if p = 4 then 0 else gd u.length p) := by
  unfold scoreL
  rw [len_app, sumI]
  have e : sumI (fun k => if atL (u ++ [p]) k = 4 then 0 else gd k (atL (u ++ [p]) k)) u.length = sumI (fun k => if atL u k = 4 then 0 else gd k (atL u k)) u.length := sumI_ext (fun i h0 h1 => by rw [atL_app h0 h1])
  rw [e, atL_last]
/-- the place's bit, put to those of a row -/
theorem use_app {u : List Int} {p : Int} (hp : 0 ≤ p ∧ p ≤ 3) (hl : u.length ≤ 6) : ior (setB (useP u) 28) (ishl 1 (4 * (u.length : Int) + p)) = setB (useP (u ++ [p])) 28 := by
  rw [setB_one (n := 28) (by decide) (by omega) (by omega), setB_or (by decide)]
  refine setB_ext (fun j h0 h1 => ?_)
  unfold useP
  rw [len_app]
  constructor
  · intro h
    rcases h with h | h
    · exact ⟨by omega, by rw [atL_app (by omega) h.1]; exact h.2⟩
    · have e : j / 4 = (u.length : Int) := by omega
      exact ⟨by omega, by rw [e, atL_last]; omega⟩
  · intro h
    rcases (show j / 4 < u.length ∨ j / 4 = u.length by omega) with q | q
    · exact Or.inl ⟨q, by rw [← atL_app (p := p) (by omega) q]; exact h.2⟩
    · refine Or.inr ?_
      have h2 := h.2
      rw [q, atL_last] at h2
      omega
theorem use_out {u : List Int} (hl : u.length ≤ 6) : setB (useP u) 28 = setB (useP (u ++ [4])) 28 := by
  refine setB_ext (fun j h0 h1 => ?_)
  unfold useP
  rw [len_app]
  constructor
  · intro h
    exact ⟨by omega, by rw [atL_app (by omega) h.1]; exact h.2⟩
  · intro h
    rcases (show j / 4 < u.length ∨ j / 4 = u.length by omega) with q | q
    · exact ⟨q, by rw [← atL_app (p := 4) (by omega) q]; exact h.2⟩
    · have h2 := h.2
      rw [q, atL_last] at h2
      omega
/-- 'clashes and used have nothing in common' -/
theorem free_bits {S : Nat → Int} {u : List Int} {p : Int} {D : Int} (hD : D ≤ 7) (hl : (u.length : Int) ≤ D) (hu : ∀ k : Int, 0 ≤ k → k < u.length → 0 ≤ atL u k ∧ atL u k ≤ 4) : iand (setB (clP S u.length p) (4 * D).toNat) (setB (useP u) 28) = 0 ↔ freeL S u p := by
  have e : setB (clP S u.length p) (4 * D).toNat = setB (fun j => j < 4 * D ∧ clP S u.length p j) 28 := by
    obtain ⟨a, a1, a2, a3⟩ := setB_bit (clP S u.length p) (4 * D).toNat
    rw [a1]
    refine (setB_of (fun j => ?_)).symm
    rw [a3 j]
    constructor
    · intro h; exact ⟨by omega, by omega, h.2⟩
    · intro h; exact ⟨by omega, h.2.2⟩
  rw [e, setB_and (by decide), setB_0]
  unfold freeL
  constructor
  · intro h k h0 h1
    have q := hu k h0 h1
    rcases (show atL u k = 4 ∨ atL u k ≤ 3 by omega) with e4 | e4
    · exact Or.inl e4
    · refine Or.inr (fun hb => ?_)
      refine h (4 * k + atL u k).toNat (by omega) ?_
      have e5 : (((4 * k + atL u k).toNat : Nat) : Int) = 4 * k + atL u k := Int.toNat_of_nonneg (by omega)
      rw [e5]
      have e6 : (4 * k + atL u k) / 4 = k := by omega
      have e7 : (4 * k + atL u k) % 4 = atL u k := by omega
      refine ⟨⟨by omega, ?_⟩, ?_⟩
      · unfold clP; rw [e6, e7]; exact ⟨by omega, hb⟩
      · unfold useP; rw [e6, e7]; exact ⟨h1, rfl⟩
  · intro h j hj hc
    obtain ⟨⟨-, h3⟩, h4⟩ := hc
    unfold clP at h3
    unfold useP at h4
    rcases h ((j : Int) / 4) (by omega) h4.1 with q | q
    · omega
    · rw [h4.2] at q; exact q h3.2
