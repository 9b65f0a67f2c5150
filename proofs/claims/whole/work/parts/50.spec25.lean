/-! THE SHEET, READ: clashes, goodness -/
theorem row_i {g : GG} {ad : Nat → Nat} {F : Nat → Int} {A : Nat → Nat → Int} {E : Nat → Nat} {tl : va_W} {ri : Nat} (h : ri = 9 ∨ ri = 19) : (CW g ad F A E tl)[ri]? = some (ad ri, .inr (7, [.ref (ad (ri + 1)), .int (iI (F ri))])) := by
  rcases h with rfl | rfl <;> rfl
theorem row_j {g : GG} {ad : Nat → Nat} {F : Nat → Int} {A : Nat → Nat → Int} {E : Nat → Nat} {tl : va_W} {ri : Nat} (h : ri = 9 ∨ ri = 19) : (CW g ad F A E tl)[ri + 1]? = some (ad (ri + 1), .inl (g.2.1 0, 7, .inl (aI (A (ri + 1))))) := by
  rcases h with rfl | rfl <;> rfl
theorem hasB {P : Int → Prop} {n : Nat} {k : Int} (hn : n ≤ 30) (h0 : 0 ≤ k) (hk : k ≤ 30) : iand (ishr (setB P n) k) 1 ≠ 0 ↔ (k < n ∧ P k) := by
  rw [setB_at hn h0 hk]
  exact (not_congr b2_eq0).trans Classical.not_not
theorem clr7_dec : ∀ x : Nat, x < 128 → ∀ p : Nat, p < 7 → iand (x : Int) (ixor (ishl 1 (p : Int)) (-1)) = ((x &&& (127 ^^^ 2 ^ p) : Nat) : Int) := by decide +kernel
theorem clr7_bit : ∀ p : Nat, p < 7 → ∀ j : Nat, j < 7 → ((127 ^^^ 2 ^ p).testBit j = true ↔ j ≠ p) := by decide +kernel
theorem clr7 {P : Int → Prop} {n : Nat} {p : Int} (hn : n ≤ 7) (hp : 0 ≤ p ∧ p ≤ 6) : iand (setB P n) (ixor (ishl 1 p) (-1)) = setB (fun j => P j ∧ j ≠ p) n := by
  obtain ⟨a, a1, a2, a3⟩ := setB_bit P n
  have h5 : 2 ^ n ≤ 2 ^ 7 := Nat.pow_le_pow_right (by decide) hn
  have q := clr7_dec a (by omega) p.toNat (by omega)
  rw [Int.toNat_of_nonneg hp.1] at q
  rw [a1, q]
  refine (setB_of (fun j => ?_)).symm
  rw [Nat.testBit_and, Bool.and_eq_true, a3 j]
  constructor
  · intro h
    exact ⟨h.1.1, h.1.2, by have := (clr7_bit p.toNat (by omega) j (by omega)).mp h.2; omega⟩
  · intro h
    exact ⟨⟨h.1, h.2.1⟩, (clr7_bit p.toNat (by omega) j (by omega)).mpr (by have := h.2.2; omega)⟩
theorem setB_ne {P : Int → Prop} {n : Nat} : setB P n ≠ 0 ↔ ∃ j : Int, 0 ≤ j ∧ j < n ∧ P j := by
  constructor
  · intro h
    exact Classical.byContradiction fun h9 => h (setB_0.mpr (fun j hj hP => h9 ⟨j, by omega, by omega, hP⟩))
  · intro ⟨j, h0, h1, hP⟩ h
    have q := setB_0.mp h j.toNat (by omega)
    rw [Int.toNat_of_nonneg h0] at q
    exact q hP
/-- steps that a map can have -/
def InvG (S : Nat → Int) : Prop := ∀ i : Nat, (i : Int) < manyS S → (codeS S i ≤ -10 → depS (codeS S) i = 1) ∧ (0 ≤ codeS S i → codeS S i / 8 % 4 ≤ 2) ∧ (-10 < codeS S i → -3 ≤ codeS S i)
def askN (kd i v lt cl p k : Int) : Int := if k = 0 then i else if k = 1 then kd else if k = 2 then v else if k = 3 then p else if k = 4 then cl / 3 else lt
theorem ask_eq (S : Nat → Int) (i p k : Int) : askN (S (7 + i).toNat) i (S (14 + i).toNat) (S (21 + i).toNat) (S (28 + i).toNat) p k = xS S i p k := rfl
def holdN (kd i v lt cl p te : Int) : Prop := (te / 100 % 3 = 0 → askN kd i v lt cl p (te / 300) < te % 100) ∧ (te / 100 % 3 = 1 → askN kd i v lt cl p (te / 300) = te % 100) ∧ (te / 100 % 3 ≠ 0 → te / 100 % 3 ≠ 1 → te % 100 < askN kd i v lt cl p (te / 300))
theorem hold_eq {S : Nat → Int} {i p st : Int} (h0 : 0 ≤ st) (h1 : st % 8 ≤ 5) (h2 : st ≤ 3199) (h3 : st / 8 % 4 ≤ 2) : holdN (S (7 + i).toNat) i (S (14 + i).toNat) (S (21 + i).toNat) (S (28 + i).toNat) p (cvS st - 1000) ↔ testS (xS S i p) st := by
  have e : cvS st = 1000 + (st % 8 * 3 + st / 8 % 4) * 100 + st / 32 := if_pos h0
  have ea : (cvS st - 1000) / 100 = st % 8 * 3 + st / 8 % 4 := by omega
  have e1 : (cvS st - 1000) / 300 = st % 8 := by omega
  have e2 : (cvS st - 1000) / 100 % 3 = st / 8 % 4 := by rw [ea]; omega
  have e3 : (cvS st - 1000) % 100 = st / 32 := by omega
  unfold holdN testS
  rw [e1, e2, e3]
  exact Iff.rfl
/-- what stands open, the newest in the lowest bit -/
def bitsOK (z d : Int) (T : Nat → Prop) : Prop := ∃ x : Nat, z = (x : Int) ∧ x < 2 ^ d.toNat ∧ ∀ k : Nat, (k : Int) < d → (x.testBit k = true ↔ T (d - 1 - k).toNat)
theorem pow31 {d : Int} (h : d ≤ 31) : 2 ^ d.toNat ≤ 2147483648 := Nat.le_trans (Nat.pow_le_pow_right (by decide) (show d.toNat ≤ 31 by omega)) (by decide)
theorem bits_0 {T : Nat → Prop} : bitsOK 0 0 T := ⟨0, rfl, by decide, fun k hk => by omega⟩
theorem ishl1_nat {a : Nat} (h : a < 1073741824) : ishl (a : Int) 1 = ((2 * a : Nat) : Int) := by
  have e : iI (a : Int) <<< (iI 1 &&& 31) = nI (2 * a) := by
    rw [iI_nat]
    apply Int32.toBitVec_inj.1
    rw [Int32.toBitVec_shiftLeft]
    have hs : ((iI 1 &&& 31).toBitVec.smod 32) = 1#32 := by decide +kernel
    rw [hs]
    show BitVec.ofNat 32 a <<< 1#32 = BitVec.ofNat 32 (2 * a)
    apply BitVec.eq_of_toNat_eq
    simp [Nat.shiftLeft_eq]
    omega
  show (iI (a : Int) <<< (iI 1 &&& 31)).toInt = _
  rw [e, nI_toInt (by omega)]
theorem bits_push {z d : Int} {T : Nat → Prop} {P : Prop} (h : bitsOK z d T) (hd : 0 ≤ d ∧ d ≤ 30) : bitsOK (ior (ishl z 1) (b2 P)) (d + 1) (va_up T d.toNat P) := by
  obtain ⟨x, rfl, hx, hk⟩ := h
  have h30 : 2 ^ d.toNat ≤ 1073741824 := Nat.le_trans (Nat.pow_le_pow_right (by decide) (show d.toNat ≤ 30 by omega)) (by decide)
  have e1 : (d + 1).toNat = d.toNat + 1 := by omega
  obtain ⟨b, hb, hb2⟩ : ∃ b : Nat, b2 P = (b : Int) ∧ ((b = 0 ∧ ¬ P) ∨ (b = 1 ∧ P)) := by
    rcases Classical.em P with q | q
    · exact ⟨1, b2_t q, Or.inr ⟨rfl, q⟩⟩
    · exact ⟨0, b2_f q, Or.inl ⟨rfl, q⟩⟩
  have hbl : b < 2 := by omega
  refine ⟨2 * x + b, ?_, ?_, fun k hkd => ?_⟩
  · rw [ishl1_nat (by omega), hb, ior_nat (by omega) (by omega)]
    congr 1
    have q := Nat.two_pow_add_eq_or_of_lt (i := 1) (b := b) (by omega) x
    rw [Nat.pow_one] at q
    exact q.symm
  · rw [e1, Nat.pow_succ]; omega
  · cases k with
    | zero =>
      rw [Nat.testBit_zero, decide_eq_true_eq, show (d + 1 - 1 - ((0 : Nat) : Int)).toNat = d.toNat by omega, up_same]
      constructor
      · intro q; rcases hb2 with r | r
        · omega
        · exact r.2
      · intro q; rcases hb2 with r | r
        · exact absurd q r.2
        · omega
    | succ k =>
      rw [Nat.testBit_succ, show (2 * x + b) / 2 = x by omega, hk k (by omega), up_ne _ _ (by omega), show (d + 1 - 1 - ((k + 1 : Nat) : Int)).toNat = (d - 1 - (k : Int)).toNat by omega]
theorem bits_top {z d : Int} {T : Nat → Prop} (h : bitsOK z d T) (hd : 1 ≤ d ∧ d ≤ 31) : iand z 1 = b2 (T (d - 1).toNat) := by
  obtain ⟨x, rfl, hx, hk⟩ := h
  have h31 := pow31 (d := d) hd.2
  have q := hk 0 (by omega)
  rw [Nat.testBit_zero, decide_eq_true_eq, show (d - 1 - ((0 : Nat) : Int)).toNat = (d - 1).toNat by omega] at q
  have h1 : iand (x : Int) 1 = ((x &&& 1 : Nat) : Int) := iand_nat (a := x) (b := 1) (by omega)
  rw [h1, Nat.and_one_is_mod]
  by_cases hT : T (d - 1).toNat
  · have := q.mpr hT
    rw [b2_t hT]; omega
  · rw [b2_f hT]
    have h9 : ¬ x % 2 = 1 := fun r => hT (q.mp r)
    omega
theorem ixor_nat {a b : Nat} (ha : a < 2147483648) (hb : b < 2147483648) : ixor (a : Int) (b : Int) = ((a ^^^ b : Nat) : Int) := by
  have e : iI (a : Int) ^^^ iI (b : Int) = nI (a ^^^ b) := by
    rw [iI_nat, iI_nat]
    apply Int32.toBitVec_inj.1
    show BitVec.ofNat 32 a ^^^ BitVec.ofNat 32 b = BitVec.ofNat 32 (a ^^^ b)
    apply BitVec.eq_of_getLsbD_eq
    intro i hi
    simp [hi]
  have h : a ^^^ b < 2 ^ 31 := Nat.xor_lt_two_pow ha hb
  show (iI (a : Int) ^^^ iI (b : Int)).toInt = _
  rw [e, nI_toInt h]
theorem bits_not {z d : Int} {T : Nat → Prop} (h : bitsOK z d T) (hd : 1 ≤ d ∧ d ≤ 31) : bitsOK (ixor z 1) d (va_up T (d - 1).toNat (¬ T (d - 1).toNat)) := by
  obtain ⟨x, rfl, hx, hk⟩ := h
  have h31 := pow31 (d := d) hd.2
  refine ⟨x ^^^ 1, ?_, ?_, fun k hkd => ?_⟩
  · rw [show (1 : Int) = ((1 : Nat) : Int) from rfl, ixor_nat (by omega) (by omega)]
  · exact Nat.xor_lt_two_pow hx (by have := Nat.pow_le_pow_right (show 0 < 2 by decide) (show 1 ≤ d.toNat by omega); omega)
  · cases k with
    | zero =>
      have q := hk 0 (by omega)
      rw [show (d - 1 - ((0 : Nat) : Int)).toNat = (d - 1).toNat by omega] at q ⊢
      rw [up_same, Nat.testBit_xor]
      cases hb : x.testBit 0
      · exact ⟨fun _ r => (by rw [q.mpr r] at hb; cases hb), fun _ => rfl⟩
      · exact ⟨fun h9 => (by cases h9), fun h9 => absurd (q.mp hb) h9⟩
    | succ k =>
      have q := hk (k + 1) (by omega)
      rw [up_ne _ _ (by omega), Nat.testBit_xor, show (1 : Nat).testBit (k + 1) = false by simp [Nat.testBit_succ]]
      simpa using q
theorem bits_or {z d : Int} {T : Nat → Prop} (h : bitsOK z d T) (hd : 2 ≤ d ∧ d ≤ 31) : bitsOK (ior (ishr z 1) (iand z 1)) (d - 1) (va_up T (d - 2).toNat (T (d - 2).toNat ∨ T (d - 1).toNat)) := by
  obtain ⟨x, rfl, hx, hk⟩ := h
  have h31 := pow31 (d := d) hd.2
  have e1 : d.toNat = (d - 1).toNat + 1 := by omega
  have hp2 := Nat.pow_le_pow_right (show 0 < 2 by decide) (show 1 ≤ (d - 1).toNat by omega)
  have hx2 : x / 2 < 2 ^ (d - 1).toNat := by rw [e1, Nat.pow_succ] at hx; omega
  refine ⟨x / 2 ||| (x &&& 1), ?_, ?_, fun k hkd => ?_⟩
  · rw [ishr_n (by omega) ⟨by decide, by decide⟩, show (1 : Int) = ((1 : Nat) : Int) from rfl, iand_nat (by omega), show ((1 : Nat) : Int).toNat = 1 from rfl, Nat.pow_one, ior_nat (by omega) (by have := Nat.and_le_right (n := x) (m := 1); omega)]
  · exact Nat.or_lt_two_pow hx2 (by have := Nat.and_le_right (n := x) (m := 1); omega)
  · rw [Nat.testBit_or, Nat.testBit_and, Bool.or_eq_true, Nat.testBit_div_two]
    cases k with
    | zero =>
      have q := hk 0 (by omega)
      have q1 := hk 1 (by omega)
      rw [show (d - 1 - ((0 : Nat) : Int)).toNat = (d - 1).toNat by omega] at q
      rw [show (d - 1 - ((1 : Nat) : Int)).toNat = (d - 2).toNat by omega] at q1
      rw [show (d - 1 - 1 - ((0 : Nat) : Int)).toNat = (d - 2).toNat by omega, up_same, show 0 + 1 = 1 from rfl, q1]
      simp only [Nat.testBit_zero, Nat.one_mod, decide_true, Bool.and_true]
      rw [← Nat.testBit_zero, q]
    | succ k =>
      have q := hk (k + 1 + 1) (by omega)
      rw [up_ne _ _ (by omega), q, show (1 : Nat).testBit (k + 1) = false by simp [Nat.testBit_succ], show (d - 1 - ((k + 1 + 1 : Nat) : Int)).toNat = (d - 1 - 1 - ((k + 1 : Nat) : Int)).toNat by omega]
      simp
theorem and_bits {x : Nat} (h : x < 2147483648) : iand (ishr (x : Int) 1) (ior (x : Int) (-2)) = ((x / 2 &&& (x ||| 2147483646) : Nat) : Int) := by
  have e : iI ((x / 2 : Nat) : Int) &&& iI (ior (x : Int) (-2)) = nI (x / 2 &&& (x ||| 2147483646)) := by
    have e0 : iI (ior (x : Int) (-2)) = iI (x : Int) ||| iI (-2) := iI_of _
    rw [e0, iI_nat, iI_nat]
    apply Int32.toBitVec_inj.1
    have e2 : (iI (-2)).toBitVec = BitVec.ofNat 32 4294967294 := by decide +kernel
    rw [Int32.toBitVec_and, Int32.toBitVec_or, e2]
    show BitVec.ofNat 32 (x / 2) &&& (BitVec.ofNat 32 x ||| BitVec.ofNat 32 4294967294) = BitVec.ofNat 32 (x / 2 &&& (x ||| 2147483646))
    apply BitVec.eq_of_getLsbD_eq
    intro i hi
    have hb : (4294967294 : Nat).testBit i = (decide (i = 31) || (2147483646 : Nat).testBit i) := by
      have : ∀ i : Nat, i < 32 → (4294967294 : Nat).testBit i = (decide (i = 31) || (2147483646 : Nat).testBit i) := by decide +kernel
      exact this i hi
    have ht : i = 31 → (x / 2).testBit i = false := by
      intro hi31
      subst hi31
      exact Nat.testBit_lt_two_pow (by omega)
    simp only [BitVec.getLsbD_and, BitVec.getLsbD_or, BitVec.getLsbD_ofNat, hi, decide_true, Bool.true_and, Nat.testBit_and, Nat.testBit_or, hb]
    by_cases h31 : i = 31
    · rw [ht h31]; simp
    · simp [h31]
  have hl : x / 2 &&& (x ||| 2147483646) < 2147483648 := Nat.lt_of_le_of_lt Nat.and_le_left (by omega)
  rw [ishr_n h ⟨by decide, by decide⟩, show (1 : Int).toNat = 1 from rfl, Nat.pow_one]
  show (iI ((x / 2 : Nat) : Int) &&& iI (ior (x : Int) (-2))).toInt = _
  rw [e, nI_toInt hl]
theorem bits_and {z d : Int} {T : Nat → Prop} (h : bitsOK z d T) (hd : 2 ≤ d ∧ d ≤ 31) : bitsOK (iand (ishr z 1) (ior z (-2))) (d - 1) (va_up T (d - 2).toNat (T (d - 2).toNat ∧ T (d - 1).toNat)) := by
  obtain ⟨x, rfl, hx, hk⟩ := h
  have h31 := pow31 (d := d) hd.2
  have e1 : d.toNat = (d - 1).toNat + 1 := by omega
  have hx2 : x / 2 < 2 ^ (d - 1).toNat := by rw [e1, Nat.pow_succ] at hx; omega
  refine ⟨x / 2 &&& (x ||| 2147483646), and_bits (by omega), Nat.lt_of_le_of_lt Nat.and_le_left hx2, fun k hkd => ?_⟩
  rw [Nat.testBit_and, Nat.testBit_or, Bool.and_eq_true, Nat.testBit_div_two]
  have hc0 : (2147483646 : Nat).testBit 0 = false := by decide +kernel
  have hcs : ∀ j : Nat, j < 30 → (2147483646 : Nat).testBit (j + 1) = true := by decide +kernel
  cases k with
  | zero =>
    have q := hk 0 (by omega)
    have q1 := hk 1 (by omega)
    rw [show (d - 1 - ((0 : Nat) : Int)).toNat = (d - 1).toNat by omega] at q
    rw [show (d - 1 - ((1 : Nat) : Int)).toNat = (d - 2).toNat by omega] at q1
    rw [show (d - 1 - 1 - ((0 : Nat) : Int)).toNat = (d - 2).toNat by omega, up_same, show 0 + 1 = 1 from rfl, q1, hc0, Bool.or_false, q]
  | succ k =>
    have q := hk (k + 1 + 1) (by omega)
    rw [up_ne _ _ (by omega), q, hcs k (by omega), Bool.or_true, show (d - 1 - ((k + 1 + 1 : Nat) : Int)).toNat = (d - 1 - 1 - ((k + 1 : Nat) : Int)).toNat by omega]
    simp
