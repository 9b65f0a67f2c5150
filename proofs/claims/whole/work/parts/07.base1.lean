/-! WHOLE NUMBERS: every int on a stack is iI z, every long jI z -/
def iI (z : Int) : Int32 := Int32.ofInt z
def jI (z : Int) : Int64 := Int64.ofInt z
def rng (z : Int) : Prop := -2147483648 ≤ z ∧ z ≤ 2147483647
def rngL (z : Int) : Prop := -9223372036854775808 ≤ z ∧ z ≤ 9223372036854775807
theorem iI_t {z : Int} (h : rng z) : (iI z).toInt = z := Int32.toInt_ofInt_of_le (by have := h.1; omega) (by have := h.2; omega)
theorem jI_t {z : Int} (h : rngL z) : (jI z).toInt = z := Int64.toInt_ofInt_of_le (by have := h.1; omega) (by have := h.2; omega)
theorem iI_of (x : Int32) : iI x.toInt = x := Int32.ofInt_toInt x
theorem jI_of (x : Int64) : jI x.toInt = x := Int64.ofInt_toInt x
theorem rng_of (x : Int32) : rng x.toInt := by
  have h1 := x.le_toInt
  have h2 := x.toInt_lt
  constructor <;> omega
theorem iI_add (a b : Int) : iI a + iI b = iI (a + b) := (Int32.ofInt_add a b).symm
theorem iI_sub (a b : Int) : iI a - iI b = iI (a - b) := (Int32.ofInt_sub a b).symm
theorem iI_mul (a b : Int) : iI a * iI b = iI (a * b) := (Int32.ofInt_mul a b).symm
theorem iI_neg (a : Int) : - iI a = iI (-a) := (Int32.ofInt_neg a).symm
theorem jI_add (a b : Int) : jI a + jI b = jI (a + b) := (Int64.ofInt_add a b).symm
theorem jI_sub (a b : Int) : jI a - jI b = jI (a - b) := (Int64.ofInt_sub a b).symm
theorem jI_mul (a b : Int) : jI a * jI b = jI (a * b) := (Int64.ofInt_mul a b).symm
theorem jI_neg (a : Int) : - jI a = jI (-a) := (Int64.ofInt_neg a).symm
theorem iI_lt {a b : Int} (ha : rng a) (hb : rng b) : iI a < iI b ↔ a < b := by rw [Int32.lt_iff_toInt_lt, iI_t ha, iI_t hb]
theorem iI_le {a b : Int} (ha : rng a) (hb : rng b) : iI a ≤ iI b ↔ a ≤ b := by rw [Int32.le_iff_toInt_le, iI_t ha, iI_t hb]
theorem iI_eq {a b : Int} (ha : rng a) (hb : rng b) : iI a = iI b ↔ a = b :=
  ⟨fun h => by have h2 := congrArg Int32.toInt h; rwa [iI_t ha, iI_t hb] at h2, fun h => by rw [h]⟩
theorem iI_0 : iI 0 = 0 := rfl
theorem iI_nat (n : Nat) : iI (n : Int) = nI n := Int32.ofInt_eq_ofNat
theorem rng_0 : rng 0 := ⟨by decide, by decide⟩
theorem iI_clamp {z : Int} (h : 0 ≤ z) (h2 : z < 2147483648) : (iI z).toNatClampNeg = z.toNat := by
  show (iI z).toInt.toNat = z.toNat
  rw [iI_t ⟨by omega, by omega⟩]
theorem iI_in {z : Int} {n : Nat} (h : 0 ≤ z ∧ z < n) (hn : n < 2147483648) : vp_in (iI z) n := by
  rw [vp_in_iff, iI_t ⟨by omega, by omega⟩]
  exact h
theorem iI_inj {a b : Int} (h : a = b) : iI a = iI b := by rw [h]
/-- the machine's other operations, as whole numbers -/
def ior (a b : Int) : Int := (iI a ||| iI b).toInt
def iand (a b : Int) : Int := (iI a &&& iI b).toInt
def ixor (a b : Int) : Int := (iI a ^^^ iI b).toInt
def ishl (a b : Int) : Int := (iI a <<< (iI b &&& 31)).toInt
def ishr (a b : Int) : Int := (iI a >>> (iI b &&& 31)).toInt
def iush (a b : Int) : Int := ((iI a).toUInt32 >>> ((iI b).toUInt32 &&& Int32.toUInt32 31)).toInt32.toInt
def idiv (a b : Int) : Int := (iI a / iI b).toInt
def irem (a b : Int) : Int := (iI a - iI a / iI b * iI b).toInt
def jor (a b : Int) : Int := (jI a ||| jI b).toInt
def jand (a b : Int) : Int := (jI a &&& jI b).toInt
def jxor (a b : Int) : Int := (jI a ^^^ jI b).toInt
def jshl (a b : Int) : Int := (jI a <<< ((iI b).toInt64 &&& 63)).toInt
def jshr (a b : Int) : Int := (jI a >>> ((iI b).toInt64 &&& 63)).toInt
def jush (a b : Int) : Int := ((jI a).toUInt64 >>> ((iI b).toInt64.toUInt64 &&& Int64.toUInt64 63)).toInt64.toInt
def jdiv (a b : Int) : Int := (jI a / jI b).toInt
def jrem (a b : Int) : Int := (jI a - jI a / jI b * jI b).toInt
theorem idiv_nn {a b : Int} (ha : 0 ≤ a) (h2 : a ≤ 2147483647) (hb : 0 < b) (h3 : b ≤ 2147483647) : idiv a b = a / b := by
  unfold idiv
  rw [Int32.toInt_div_of_ne_right _ _ (by intro h; have := congrArg Int32.toInt h; rw [iI_t ⟨by omega, by omega⟩] at this; simp at this; omega), iI_t ⟨by omega, by omega⟩, iI_t ⟨by omega, by omega⟩]
  exact Int.tdiv_eq_ediv_of_nonneg ha
theorem irem_nn {a b : Int} (ha : 0 ≤ a) (h2 : a ≤ 2147483647) (hb : 0 < b) (h3 : b ≤ 2147483647) : irem a b = a % b := by
  have h := idiv_nn ha h2 hb h3
  have e : iI a / iI b = iI (a / b) := by rw [← iI_of (iI a / iI b)]; exact congrArg iI h
  unfold irem
  have hm : 0 ≤ a % b ∧ a % b < b := ⟨Int.emod_nonneg a (by omega), Int.emod_lt_of_pos a hb⟩
  have hd := Int.mul_ediv_add_emod a b
  rw [e, iI_mul, iI_sub, show a - a / b * b = a % b by rw [Int.mul_comm]; omega, iI_t ⟨by omega, by omega⟩]
def aI (g : Nat → Int) : Nat → Int32 := fun k => iI (g k)
theorem aI_upd (g : Nat → Int) (k : Nat) (v : Int) : upd (aI g) k (iI v) = aI (va_up g k v) := by
  funext j
  simp only [upd, aI, va_up]
  split <;> rfl
theorem up_same {α : Type} (f : Nat → α) (k : Nat) (v : α) : va_up f k v k = v := if_pos rfl
theorem up_ne {α : Type} (f : Nat → α) {k j : Nat} (v : α) (h : j ≠ k) : va_up f k v j = f j := if_neg h
/-- a truth as a number -/
noncomputable def b2 (P : Prop) : Int := @ite Int P (Classical.propDecidable P) 1 0
theorem b2_t {P : Prop} (h : P) : b2 P = 1 := if_pos h
theorem b2_f {P : Prop} (h : ¬ P) : b2 P = 0 := if_neg h
theorem b2_ext {P Q : Prop} (h : P ↔ Q) : b2 P = b2 Q := by rw [propext h]
theorem b2_01 (P : Prop) : b2 P = 0 ∨ b2 P = 1 := by
  rcases Classical.em P with h | h
  · exact Or.inr (b2_t h)
  · exact Or.inl (b2_f h)
theorem b2_rng (P : Prop) : rng (b2 P) := by rcases b2_01 P with h | h <;> rw [h] <;> exact ⟨by decide, by decide⟩
theorem b2_true : b2 True = 1 := b2_t trivial
theorem b2_false : b2 False = 0 := b2_f (fun h => h)
theorem b2_eq0 {P : Prop} : b2 P = 0 ↔ ¬ P := ⟨fun h hp => by rw [b2_t hp] at h; exact absurd h (by decide), b2_f⟩
theorem b2_eq1 {P : Prop} : b2 P = 1 ↔ P := ⟨fun h => Classical.byContradiction fun hp => by rw [b2_f hp] at h; exact absurd h (by decide), b2_t⟩
theorem b2_ite (P : Prop) (h : Decidable P) : (if P then (1 : Int) else 0) = b2 P := by
  by_cases hp : P
  · rw [if_pos hp, b2_t hp]
  · rw [if_neg hp, b2_f hp]
theorem nar_01 {z : Int} (h : z = 0 ∨ z = 1) : narrow .boolean (.int (iI z)) = .int (iI z) := by
  rcases h with h | h <;> subst h <;> decide
theorem narZ_01 {z : Int} (h : z = 0 ∨ z = 1) : vp_nar .boolean (iI z) = iI z := by
  rcases h with h | h <;> subst h <;> decide
