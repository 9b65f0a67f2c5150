/-! BITS AND COUNTS -/
theorem ior_nat {a b : Nat} (ha : a < 2147483648) (hb : b < 2147483648) : ior (a : Int) (b : Int) = ((a ||| b : Nat) : Int) := by
  have e : iI (a : Int) ||| iI (b : Int) = nI (a ||| b) := by
    rw [iI_nat, iI_nat]
    apply Int32.toBitVec_inj.1
    show BitVec.ofNat 32 a ||| BitVec.ofNat 32 b = BitVec.ofNat 32 (a ||| b)
    apply BitVec.eq_of_getLsbD_eq
    intro i hi
    simp [hi]
  have h : a ||| b < 2 ^ 31 := Nat.or_lt_two_pow ha hb
  show (iI (a : Int) ||| iI (b : Int)).toInt = _
  rw [e, nI_toInt h]
theorem iand_nat {a b : Nat} (ha : a < 2147483648) : iand (a : Int) (b : Int) = ((a &&& b : Nat) : Int) := by
  have e : iI (a : Int) &&& iI (b : Int) = nI (a &&& b) := by
    rw [iI_nat, iI_nat]
    apply Int32.toBitVec_inj.1
    show BitVec.ofNat 32 a &&& BitVec.ofNat 32 b = BitVec.ofNat 32 (a &&& b)
    apply BitVec.eq_of_getLsbD_eq
    intro i hi
    simp [hi]
  have h : a &&& b < 2 ^ 31 := Nat.lt_of_le_of_lt Nat.and_le_left ha
  show (iI (a : Int) &&& iI (b : Int)).toInt = _
  rw [e, nI_toInt h]
theorem ishl_n : ∀ n : Nat, n < 31 → ishl 1 (n : Int) = ((2 ^ n : Nat) : Int) := by decide +kernel
theorem ishl_1 {k : Int} (h : 0 ≤ k ∧ k ≤ 30) : ishl 1 k = ((2 ^ k.toNat : Nat) : Int) := by
  have e := ishl_n k.toNat (by omega)
  rw [Int.toNat_of_nonneg h.1] at e
  exact e
theorem ishr_n {a : Nat} (ha : a < 2147483648) {k : Int} (h : 0 ≤ k ∧ k ≤ 31) : ishr (a : Int) k = ((a / 2 ^ k.toNat : Nat) : Int) := by
  have hs : ∀ n : Nat, n < 32 → ((iI (n : Int) &&& 31).toBitVec.smod 32).toNat = n := by decide +kernel
  have e : iI (a : Int) >>> (iI k &&& 31) = nI (a / 2 ^ k.toNat) := by
    rw [iI_nat]
    refine pk_shrN ha _ _ ?_
    have h2 := hs k.toNat (by omega)
    rw [Int.toNat_of_nonneg h.1] at h2
    exact h2
  have hb : a / 2 ^ k.toNat < 2 ^ 31 := Nat.lt_of_le_of_lt (Nat.div_le_self _ _) ha
  show (iI (a : Int) >>> (iI k &&& 31)).toInt = _
  rw [e, nI_toInt hb]
noncomputable def setB (P : Int → Prop) : Nat → Int
  | 0 => 0
  | n + 1 => setB P n + b2 (P n) * ((2 ^ n : Nat) : Int)
theorem setB_nat (P : Int → Prop) : ∀ n : Nat, ∃ a : Nat, a < 2 ^ n ∧ setB P n = (a : Int)
  | 0 => ⟨0, by decide, rfl⟩
  | n + 1 => by
    obtain ⟨a, h1, h2⟩ := setB_nat P n
    rcases b2_01 (P n) with h | h
    · refine ⟨a, by rw [Nat.pow_succ]; omega, ?_⟩
      rw [setB, h, h2, Int.zero_mul, Int.add_zero]
    · refine ⟨a + 2 ^ n, by rw [Nat.pow_succ]; omega, ?_⟩
      rw [setB, h, h2, Int.one_mul, Int.natCast_add]
theorem setB_lt (P : Int → Prop) {n : Nat} (hn : n ≤ 30) : 0 ≤ setB P n ∧ setB P n < 1073741824 := by
  obtain ⟨a, h1, h2⟩ := setB_nat P n
  have h3 : 2 ^ n ≤ 2 ^ 30 := Nat.pow_le_pow_right (by decide) hn
  have h4 : (2 : Nat) ^ 30 = 1073741824 := by decide
  omega
theorem setB_t {P : Int → Prop} {k : Int} (h0 : 0 ≤ k) (hk : k ≤ 29) (hP : P k) : ior (setB P k.toNat) (ishl 1 k) = setB P (k + 1).toNat := by
  obtain ⟨a, h1, h2⟩ := setB_nat P k.toNat
  have h3 : 2 ^ k.toNat ≤ 2 ^ 30 := Nat.pow_le_pow_right (by decide) (by omega)
  have h4 : (2 : Nat) ^ 30 = 1073741824 := by decide
  have e : (k + 1).toNat = k.toNat + 1 := by omega
  have e2 : ((k.toNat : Nat) : Int) = k := Int.toNat_of_nonneg h0
  rw [ishl_1 ⟨h0, by omega⟩, h2, ior_nat (by omega) (by omega), e, setB, h2, e2, b2_t hP, Int.one_mul]
  have h5 := Nat.two_pow_add_eq_or_of_lt h1 1
  rw [Nat.mul_one] at h5
  rw [Nat.or_comm, ← h5]
  omega
theorem setB_f {P : Int → Prop} {k : Int} (h0 : 0 ≤ k) (hP : ¬ P k) : setB P k.toNat = setB P (k + 1).toNat := by
  have e : (k + 1).toNat = k.toNat + 1 := by omega
  have e2 : ((k.toNat : Nat) : Int) = k := Int.toNat_of_nonneg h0
  rw [e, setB, e2, b2_f hP, Int.zero_mul, Int.add_zero]
theorem ior_0 {a : Int} (h : rng a) : ior a 0 = a := by
  show (iI a ||| iI 0).toInt = a
  rw [iI_0, Int32.or_zero, iI_t h]
theorem setB_f0 {P : Int → Prop} {k : Int} (h0 : 0 ≤ k) (hk : k ≤ 29) (hP : ¬ P k) : ior (setB P k.toNat) 0 = setB P (k + 1).toNat := by
  have h := setB_lt P (n := k.toNat) (by omega)
  rw [ior_0 (rg (by omega) (by omega)), setB_f h0 hP]
theorem setB_ext {P Q : Int → Prop} : ∀ {n : Nat}, (∀ i : Int, 0 ≤ i → i < n → (P i ↔ Q i)) → setB P n = setB Q n
  | 0, _ => rfl
  | n + 1, h => by
    rw [setB, setB, setB_ext (n := n) (fun i h1 h2 => h i h1 (by omega)), b2_ext (h n (by omega) (by omega))]
theorem cntB_t {P : Int → Prop} {k : Int} (h0 : 0 ≤ k) (hP : P k) : cntB P (k + 1).toNat = cntB P k.toNat + 1 := by
  have e : (k + 1).toNat = k.toNat + 1 := by omega
  have e2 : ((k.toNat : Nat) : Int) = k := Int.toNat_of_nonneg h0
  rw [e, cntB, e2, b2_t hP]
theorem cntB_f {P : Int → Prop} {k : Int} (h0 : 0 ≤ k) (hP : ¬ P k) : cntB P (k + 1).toNat = cntB P k.toNat + 0 := by
  have e : (k + 1).toNat = k.toNat + 1 := by omega
  have e2 : ((k.toNat : Nat) : Int) = k := Int.toNat_of_nonneg h0
  rw [e, cntB, e2, b2_f hP]
theorem cntB_ext {P Q : Int → Prop} : ∀ {n : Nat}, (∀ i : Int, 0 ≤ i → i < n → (P i ↔ Q i)) → cntB P n = cntB Q n
  | 0, _ => rfl
  | n + 1, h => by
    rw [cntB, cntB, cntB_ext (n := n) (fun i h1 h2 => h i h1 (by omega)), b2_ext (h n (by omega) (by omega))]
theorem allB_0 (P : Int → Prop) : allB P 0 := fun j h1 h2 => absurd h2 (by omega)
theorem exB_0 (P : Int → Prop) : ¬ exB P 0 := fun ⟨j, h1, h2, _⟩ => absurd h2 (by omega)
theorem allB_s {P : Int → Prop} {k : Int} (h0 : 0 ≤ k) : allB P (k + 1) ↔ (allB P k ∧ P k) := by
  constructor
  · intro h
    exact ⟨fun j h1 h2 => h j h1 (by omega), h k h0 (by omega)⟩
  · intro h j h1 h2
    rcases (show j < k ∨ j = k by omega) with q | rfl
    · exact h.1 j h1 q
    · exact h.2
theorem exB_s {P : Int → Prop} {k : Int} (h0 : 0 ≤ k) : exB P (k + 1) ↔ (exB P k ∨ P k) := by
  constructor
  · intro ⟨j, h1, h2, h3⟩
    rcases (show j < k ∨ j = k by omega) with q | rfl
    · exact Or.inl ⟨j, h1, q, h3⟩
    · exact Or.inr h3
  · intro h
    rcases h with ⟨j, h1, h2, h3⟩ | h
    · exact ⟨j, h1, by omega, h3⟩
    · exact ⟨k, h0, by omega, h⟩
theorem allB_le {P : Int → Prop} {k n : Int} (h : k ≤ n) (hP : allB P n) : allB P k := fun j h1 h2 => hP j h1 (by omega)
theorem exB_le {P : Int → Prop} {k n : Int} (h : k ≤ n) (hP : exB P k) : exB P n := by
  obtain ⟨j, h1, h2, h3⟩ := hP
  exact ⟨j, h1, by omega, h3⟩
theorem b2r {z : Int} {P : Prop} (h : z = b2 P) : 0 ≤ z ∧ z ≤ 1 := by
  rcases b2_01 P with q | q <;> omega
theorem b2r01 {z : Int} {P : Prop} (h : z = b2 P) : z = 0 ∨ z = 1 := by
  rw [h]; exact b2_01 P
theorem b2z {z : Int} {P : Prop} (h : z = b2 P) (hz : z = 0) : ¬ P := b2_eq0.mp (by rw [← h, hz])
theorem b2n {z : Int} {P : Prop} (h : z = b2 P) (hz : z ≠ 0) : P := Classical.byContradiction fun hp => hz (by rw [h, b2_f hp])
theorem b2_sum {z : Int} {P : Prop} (h : z = b2 P) : z = 1 ↔ P := by rw [h]; exact b2_eq1
theorem flagAll {z d n : Int} {B : Prop} {P : Int → Prop} (hz : z = b2 (B ∧ allB P d)) (hd : d ≤ n) (hx : d = n ∨ z = 0) : z = b2 (B ∧ allB P n) := by
  rcases hx with e | e
  · rw [← e]; exact hz
  · rw [e]
    exact (b2_f (fun h => b2z hz e ⟨h.1, allB_le hd h.2⟩)).symm
theorem flagAll1 {z d n : Int} {P : Int → Prop} (hz : z = b2 (allB P d)) (hd : d ≤ n) (hx : d = n ∨ z = 0) : z = b2 (allB P n) := by
  rcases hx with e | e
  · rw [← e]; exact hz
  · rw [e]
    exact (b2_f (fun h => b2z hz e (allB_le hd h))).symm
theorem flagA_t {z d : Int} {B : Prop} {P : Int → Prop} (hd : 0 ≤ d) (hz : z = b2 (B ∧ allB P d)) (hn : z ≠ 0) (hP : P d) : 1 = b2 (B ∧ allB P (d + 1)) :=
  (b2_t ⟨(b2n hz hn).1, (allB_s hd).mpr ⟨(b2n hz hn).2, hP⟩⟩).symm
theorem flagA_f {d : Int} {B : Prop} {P : Int → Prop} (hd : 0 ≤ d) (hP : ¬ P d) : 0 = b2 (B ∧ allB P (d + 1)) :=
  (b2_f (fun h => hP ((allB_s hd).mp h.2).2)).symm
theorem flagB_t {z d : Int} {P : Int → Prop} (hd : 0 ≤ d) (hz : z = b2 (allB P d)) (hn : z ≠ 0) (hP : P d) : 1 = b2 (allB P (d + 1)) :=
  (b2_t ((allB_s hd).mpr ⟨b2n hz hn, hP⟩)).symm
theorem flagB_f {d : Int} {P : Int → Prop} (hd : 0 ≤ d) (hP : ¬ P d) : 0 = b2 (allB P (d + 1)) :=
  (b2_f (fun h => hP ((allB_s hd).mp h).2)).symm
theorem flagE_1 {z d : Int} {P : Int → Prop} (hd : 0 ≤ d) (hz : z = b2 (exB P d)) (hn : z ≠ 0) : 1 = b2 (exB P (d + 1)) :=
  (b2_t ((exB_s hd).mpr (Or.inl (b2n hz hn)))).symm
theorem flagE_t {d : Int} {P : Int → Prop} (hd : 0 ≤ d) (hP : P d) : 1 = b2 (exB P (d + 1)) :=
  (b2_t ((exB_s hd).mpr (Or.inr hP))).symm
theorem flagE_f {z d : Int} {P : Int → Prop} (hd : 0 ≤ d) (hz : z = b2 (exB P d)) (hn : z = 0) (hP : ¬ P d) : 0 = b2 (exB P (d + 1)) :=
  (b2_f (fun h => ((exB_s hd).mp h).elim (b2z hz hn) hP)).symm
