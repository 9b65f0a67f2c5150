/-! what may be laid where, and what it gives: by the four searches -/
section AL
variable {S : Nat → Int}
noncomputable def bitsF (S : Nat → Int) (wd i : Int) : Int := setB (fun p => fitsS S i p wd) 4
noncomputable def alW (S : Nat → Int) (i : Int) : Int := ior (bitsF S (wideS S) i) 16
noncomputable def alA (S : Nat → Int) (wd st i : Int) : Int := iand (bitsF S wd i) st
noncomputable def alM (S : Nat → Int) (n i : Int) : Int := if i ≠ n ∧ S (42 + i).toNat = 4 then 16 else bitsF S (wideS S) i
noncomputable def vlG (S : Nat → Int) (b i p : Int) : Int := b + goodS S i p
def vlM (S : Nat → Int) (n i p : Int) : Int := if i ≠ n ∧ S (42 + i).toNat ≠ 4 then (if p = S (42 + i).toNat then 0 else -1) else 0
theorem bitsF_rng (S : Nat → Int) (wd i : Int) : 0 ≤ bitsF S wd i ∧ bitsF S wd i ≤ 15 := by
  obtain ⟨a, h1, h2⟩ := setB_nat (fun p => fitsS S i p wd) 4
  unfold bitsF
  have : (2 : Nat) ^ 4 = 16 := by decide
  omega
theorem or16 : ∀ x : Nat, x < 16 → ior (x : Int) 16 = (x : Int) + 16 := by decide +kernel
theorem and15 : ∀ x : Nat, x < 16 → ∀ y : Nat, y < 16 → 0 ≤ iand (x : Int) (y : Int) ∧ iand (x : Int) (y : Int) ≤ 15 := by decide +kernel
theorem alW_rng (S : Nat → Int) (i : Int) : 0 ≤ alW S i ∧ alW S i ≤ 31 := by
  have h := bitsF_rng S (wideS S) i
  have q := or16 (bitsF S (wideS S) i).toNat (by omega)
  rw [Int.toNat_of_nonneg h.1] at q
  unfold alW
  omega
theorem alA_rng (S : Nat → Int) (wd i : Int) {st : Int} (hs : 0 ≤ st ∧ st ≤ 15) : 0 ≤ alA S wd st i ∧ alA S wd st i ≤ 31 := by
  have h := bitsF_rng S wd i
  have q := and15 (bitsF S wd i).toNat (by omega) st.toNat (by omega)
  rw [Int.toNat_of_nonneg h.1, Int.toNat_of_nonneg hs.1] at q
  unfold alA
  omega
theorem alM_rng (S : Nat → Int) (n i : Int) : 0 ≤ alM S n i ∧ alM S n i ≤ 31 := by
  have h := bitsF_rng S (wideS S) i
  unfold alM
  split <;> omega
theorem vlG_rng (hC : InvC S) {b : Int} (hb : 0 ≤ b ∧ b ≤ 100000) : ∀ i p : Int, -110000 ≤ vlG S b i p ∧ vlG S b i p ≤ 110000 := by
  intro i p
  have h := goodS_rng hC i p
  unfold vlG
  omega
theorem vlM_rng (S : Nat → Int) (n : Int) : ∀ i p : Int, -110000 ≤ vlM S n i p ∧ vlM S n i p ≤ 110000 := by
  intro i p
  unfold vlM
  split
  · split <;> omega
  · omega
theorem vl0_rng : ∀ i p : Int, -110000 ≤ (fun _ _ : Int => (0 : Int)) i p ∧ (fun _ _ : Int => (0 : Int)) i p ≤ 110000 := by
  intro i p
  show (-110000 : Int) ≤ 0 ∧ (0 : Int) ≤ 110000
  omega
theorem GT_0 {f : Nat → Int} : GT (0, 0, f) := ⟨Or.inl rfl, by show (-1000000 : Int) ≤ 0; omega, by show (0 : Int) ≤ 1000000; omega⟩
end AL
