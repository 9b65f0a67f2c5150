/-! the face: fractions, places -/
theorem idiv_t {a b : Int} (ha : -1000000 ≤ a ∧ a ≤ 1000000) (hb : 0 < b ∧ b ≤ 1000000) : idiv a b = a.tdiv b := by
  unfold idiv
  rw [Int32.toInt_div_of_ne_right _ _ (by intro h; have := congrArg Int32.toInt h; rw [iI_t ⟨by omega, by omega⟩] at this; simp at this; omega), iI_t ⟨by omega, by omega⟩, iI_t ⟨by omega, by omega⟩]
theorem tdiv_abs {a b : Int} (ha : -1000000 ≤ a ∧ a ≤ 1000000) (hb : 0 < b) : -1000000 ≤ a.tdiv b ∧ a.tdiv b ≤ 1000000 := by
  rcases (show 0 ≤ a ∨ a < 0 by omega) with h | h
  · rw [Int.tdiv_eq_ediv_of_nonneg h]
    have h1 := Int.ediv_nonneg h (Int.le_of_lt hb)
    have h2 := Int.ediv_le_self b h
    omega
  · have e : a.tdiv b = -((-a) / b) := by
      rw [← Int.tdiv_eq_ediv_of_nonneg (show 0 ≤ -a by omega), Int.neg_tdiv]; omega
    have h1 := Int.ediv_nonneg (show 0 ≤ -a by omega) (Int.le_of_lt hb)
    have h2 := Int.ediv_le_self b (show 0 ≤ -a by omega)
    omega
theorem irem_t {a b : Int} (ha : -1000000 ≤ a ∧ a ≤ 1000000) (hb : 0 < b ∧ b ≤ 1000000) : irem a b = a.tmod b := by
  have h := idiv_t ha hb
  have hx := tdiv_abs ha hb.1
  have e : iI a / iI b = iI (a.tdiv b) := by rw [← iI_of (iI a / iI b)]; exact congrArg iI h
  have hd := Int.mul_tdiv_add_tmod a b
  have hm : -b < a.tmod b ∧ a.tmod b < b := ⟨Int.lt_tmod_of_pos a hb.1, Int.tmod_lt_of_pos a hb.1⟩
  unfold irem
  rw [e, iI_mul, iI_sub, show a - a.tdiv b * b = a.tmod b by rw [Int.mul_comm]; omega, iI_t ⟨by omega, by omega⟩]
theorem irem_0 {a b : Int} (ha : -1000000 ≤ a ∧ a ≤ 1000000) (hb : 0 < b ∧ b ≤ 1000000) : irem a b = 0 ↔ b ∣ a := by
  rw [irem_t ha hb]
  exact ⟨Int.dvd_of_tmod_eq_zero, Int.tmod_eq_zero_of_dvd⟩
/-- the greatest common number, looked for from above -/
theorem gcd_at {a b k : Int} (hb : 0 < b) (hk : 1 ≤ k) (h1 : k ∣ a) (h2 : k ∣ b) (hz : ∀ j : Int, k < j → j ≤ b → ¬ (j ∣ a ∧ j ∣ b)) : (Int.gcd a b : Int) = k := by
  have g1 : (Int.gcd a b : Int) ∣ a := Int.gcd_dvd_left ..
  have g2 : (Int.gcd a b : Int) ∣ b := Int.gcd_dvd_right ..
  have g3 : (Int.gcd a b : Int) ≤ b := Int.le_of_dvd hb g2
  have g4 : 0 < Int.gcd a b := Int.gcd_pos_of_ne_zero_right a (by omega)
  have g5 : k ∣ (Int.gcd a b : Int) := Int.dvd_coe_gcd h1 h2
  have g6 : k ≤ (Int.gcd a b : Int) := Int.le_of_dvd (by omega) g5
  rcases (show k = (Int.gcd a b : Int) ∨ k < (Int.gcd a b : Int) by omega) with h | h
  · exact h.symm
  · exact absurd ⟨g1, g2⟩ (hz _ h g3)
theorem orN_rng {p : Int} (h : 0 ≤ p ∧ p ≤ 4) : -5 ≤ orN p ∧ orN p ≤ 3 := by unfold orN; split <;> omega
theorem under_b {kd k : Int} (hkd : 0 ≤ kd ∧ kd ≤ 6) (hk : 0 ≤ k ∧ k ≤ 6) : underS kd k ↔ (k = 0 ∨ (k = 1 ∧ (kd = 1 ∨ kd = 4)) ∨ (k = 2 ∧ (kd = 2 ∨ kd = 5)) ∨ (k = 3 ∧ (kd = 3 ∨ kd = 6)) ∨ (k = 4 ∧ kd = 4) ∨ (k = 5 ∧ kd = 5) ∨ (k = 6 ∧ kd = 6)) := by unfold underS; omega
theorem set7 (P : Int → Prop) {n : Nat} (hn : n ≤ 7) : 0 ≤ setB P n ∧ setB P n ≤ 127 := by
  obtain ⟨a, h1, h2⟩ := setB_nat P n
  have h5 : 2 ^ n ≤ 2 ^ 7 := Nat.pow_le_pow_right (by decide) hn
  omega
theorem up_slf (f : Nat → Int) (k : Nat) : va_up f k (f k) = f := by
  funext j
  by_cases h : j = k
  · rw [h, up_same]
  · rw [up_ne _ _ h]
theorem that_p {S : Nat → Int} {n p : Int} (hn : 0 ≤ n ∧ n < 7) : thatS S n p (S (14 + n).toNat) = va_up S (42 + n).toNat p := by
  have e : S (14 + n).toNat = va_up S (42 + n).toNat p (14 + n).toNat := (up_ne _ _ (by omega)).symm
  unfold thatS
  rw [e]
  exact up_slf _ _
theorem that_w {S : Nat → Int} {n v : Int} : thatS S n (S (42 + n).toNat) v = va_up S (14 + n).toNat v := by
  unfold thatS
  rw [up_slf]
