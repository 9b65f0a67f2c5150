/-! NAMES: bits of cells -/
theorem rngL_of (x : Int64) : rngL x.toInt := by
  have h1 := x.le_toInt
  have h2 := x.toInt_lt
  constructor <;> omega
def mayK (kd told : Int) : Int := if kd = 1 then 3 else if kd = 2 then 9 else if kd = 3 then 12 else if kd = 5 then 1 else if kd = 6 then told else 15
def startN (c p len : Int) : Int := if p = 0 then c + 1 else if p = 1 then c - len else c
def lineN (r p : Int) : Int := if p = 2 then r - 1 else if p = 3 then r + 1 else r
def mskI (a n : Int) : Int := jshl (jshl 1 n - 1) a
theorem msk_dec : ∀ a : Nat, a < 46 → ∀ n : Nat, n < 15 → mskI (a : Int) (n : Int) = (((2 ^ n - 1) * 2 ^ a : Nat) : Int) := by decide +kernel
theorem msk_nat {a n : Int} (ha : 0 ≤ a ∧ a ≤ 45) (hn : 0 ≤ n ∧ n ≤ 14) : mskI a n = (((2 ^ n.toNat - 1) * 2 ^ a.toNat : Nat) : Int) := by
  have h := msk_dec a.toNat (by omega) n.toNat (by omega)
  rw [Int.toNat_of_nonneg ha.1, Int.toNat_of_nonneg hn.1] at h
  exact h
theorem msk_tb (a n k : Nat) : ((2 ^ n - 1) * 2 ^ a).testBit k = true ↔ (a ≤ k ∧ k < a + n) := by
  rw [Nat.testBit_mul_two_pow]
  simp only [Bool.and_eq_true, decide_eq_true_eq, Nat.testBit_two_pow_sub_one]
  omega
theorem msk_lt {a n : Nat} (ha : a ≤ 45) (hn : n ≤ 14) : (2 ^ n - 1) * 2 ^ a < 2 ^ 62 := by
  have h1 : 2 ^ n - 1 < 2 ^ n := by have := Nat.two_pow_pos n; omega
  have h2 : (2 ^ n - 1) * 2 ^ a < 2 ^ n * 2 ^ a := Nat.mul_lt_mul_of_pos_right h1 (Nat.two_pow_pos a)
  rw [← Nat.pow_add] at h2
  exact Nat.lt_of_lt_of_le h2 (Nat.pow_le_pow_right (by decide) (by omega))
theorem jI_nat' {x : Nat} (h : x < 2 ^ 63) : (jI (x : Int)).toBitVec = BitVec.ofNat 64 x := by
  show (Int64.ofInt (x : Int)).toBitVec = _
  rw [Int64.toBitVec_ofInt]
  rfl
theorem jN_toInt {x : Nat} (h : x < 2 ^ 63) : (jI (x : Int)).toInt = x := by
  have e : (2 : Nat) ^ 63 = 9223372036854775808 := by decide
  exact jI_t (rgL (by omega) (by omega))
theorem jand_nat {a b : Nat} (ha : a < 2 ^ 63) (hb : b < 2 ^ 63) : jand (a : Int) (b : Int) = ((a &&& b : Nat) : Int) := by
  have e : jI (a : Int) &&& jI (b : Int) = jI ((a &&& b : Nat) : Int) := by
    apply Int64.toBitVec_inj.1
    rw [Int64.toBitVec_and, jI_nat' ha, jI_nat' hb, jI_nat' (Nat.lt_of_le_of_lt Nat.and_le_left ha)]
    apply BitVec.eq_of_getLsbD_eq
    intro i hi
    simp [hi]
  show (jI (a : Int) &&& jI (b : Int)).toInt = _
  rw [e, jN_toInt (Nat.lt_of_le_of_lt Nat.and_le_left ha)]
theorem jshr_cnt : ∀ k : Nat, k < 64 → ((iI (k : Int)).toInt64 &&& 63).toBitVec.smod 64 = BitVec.ofNat 64 k := by decide +kernel
theorem jshr_nat {a : Nat} (ha : a < 2 ^ 63) {k : Int} (h : 0 ≤ k ∧ k ≤ 63) : jshr (a : Int) k = ((a / 2 ^ k.toNat : Nat) : Int) := by
  have e : jI (a : Int) >>> ((iI k).toInt64 &&& 63) = jI ((a / 2 ^ k.toNat : Nat) : Int) := by
    apply Int64.toBitVec_inj.1
    have hs := jshr_cnt k.toNat (by omega)
    rw [Int.toNat_of_nonneg h.1] at hs
    rw [Int64.toBitVec_shiftRight, hs, jI_nat' ha, jI_nat' (Nat.lt_of_le_of_lt (Nat.div_le_self _ _) ha)]
    apply BitVec.eq_of_toNat_eq
    have hk : k.toNat < 64 := by omega
    have e1 : (BitVec.ofNat 64 k.toNat).toNat = k.toNat := by simp; omega
    have hm : (BitVec.ofNat 64 a).msb = false := by
      rw [BitVec.msb_eq_false_iff_two_mul_lt]
      simp
      omega
    rw [BitVec.sshiftRight_eq', e1, BitVec.toNat_sshiftRight_of_msb_false hm]
    simp only [BitVec.toNat_ofNat]
    have q2 : a % 2 ^ 64 = a := Nat.mod_eq_of_lt (by omega)
    have q3 : a / 2 ^ k.toNat < 2 ^ 64 := Nat.lt_of_le_of_lt (Nat.div_le_self _ _) (by omega)
    rw [q2, Nat.mod_eq_of_lt q3, Nat.shiftRight_eq_div_pow]
  show (jI (a : Int) >>> ((iI k).toInt64 &&& 63)).toInt = _
  rw [e, jN_toInt (Nat.lt_of_le_of_lt (Nat.div_le_self _ _) ha)]
/-- the bit of a column -/
theorem msk_bit {a n k : Int} (ha : 0 ≤ a ∧ a ≤ 45) (hn : 0 ≤ n ∧ n ≤ 14) (hk : 0 ≤ k ∧ k ≤ 63) : jand (jshr (mskI a n) k) 1 ≠ 0 ↔ (a ≤ k ∧ k < a + n) := by
  have hl := msk_lt (a := a.toNat) (n := n.toNat) (by omega) (by omega)
  have hp : (2 : Nat) ^ 62 < 2 ^ 63 := by decide
  have hx : (2 ^ n.toNat - 1) * 2 ^ a.toNat / 2 ^ k.toNat < 2 ^ 63 := Nat.lt_of_le_of_lt (Nat.div_le_self _ _) (by omega)
  rw [msk_nat ha hn, jshr_nat (by omega) hk, show (1 : Int) = ((1 : Nat) : Int) from rfl, jand_nat hx (by decide), Nat.and_one_is_mod]
  have hb := msk_tb a.toNat n.toNat k.toNat
  rw [Nat.testBit_eq_decide_div_mod_eq, decide_eq_true_eq] at hb
  constructor
  · intro h
    have := hb.mp (by omega)
    omega
  · intro h
    have := hb.mpr (by omega)
    omega
/-- what two rows of cells have in common -/
def ovl (a n b m : Int) : Int := if a < b then (if a + n < b + m then (if a + n < b then 0 else a + n - b) else m) else (if b + m < a + n then (if b + m < a then 0 else b + m - a) else n)
theorem msk_and {a n b m : Int} (ha : 0 ≤ a ∧ a ≤ 45) (hn : 0 ≤ n ∧ n ≤ 14) (hb : 0 ≤ b ∧ b ≤ 45) (hm : 0 ≤ m ∧ m ≤ 14) : jand (mskI a n) (mskI b m) = mskI (if a < b then b else a) (ovl a n b m) := by
  have ho : 0 ≤ ovl a n b m ∧ ovl a n b m ≤ 14 := by unfold ovl; (repeat' split) <;> omega
  have hl1 := msk_lt (a := a.toNat) (n := n.toNat) (by omega) (by omega)
  have hl2 := msk_lt (a := b.toNat) (n := m.toNat) (by omega) (by omega)
  have hp : (2 : Nat) ^ 62 < 2 ^ 63 := by decide
  rw [msk_nat ha hn, msk_nat hb hm, jand_nat (by omega) (by omega), msk_nat (by split <;> omega) ho]
  congr 1
  refine Nat.eq_of_testBit_eq (fun k => ?_)
  have h1 := msk_tb a.toNat n.toNat k
  have h2 := msk_tb b.toNat m.toNat k
  have h3 := msk_tb (if a < b then b else a).toNat (ovl a n b m).toNat k
  have hh : ((a.toNat ≤ k ∧ k < a.toNat + n.toNat) ∧ (b.toNat ≤ k ∧ k < b.toNat + m.toNat)) ↔ ((if a < b then b else a).toNat ≤ k ∧ k < (if a < b then b else a).toNat + (ovl a n b m).toNat) := by
    unfold ovl
    (repeat' split) <;> omega
  rw [Nat.testBit_and]
  have q : (((2 ^ n.toNat - 1) * 2 ^ a.toNat).testBit k && ((2 ^ m.toNat - 1) * 2 ^ b.toNat).testBit k) = true ↔ ((2 ^ (ovl a n b m).toNat - 1) * 2 ^ (if a < b then b else a).toNat).testBit k = true := by
    rw [Bool.and_eq_true, h1, h2, h3]
    exact hh
  cases hx : (((2 ^ n.toNat - 1) * 2 ^ a.toNat).testBit k && ((2 ^ m.toNat - 1) * 2 ^ b.toNat).testBit k) <;> cases hy : ((2 ^ (ovl a n b m).toNat - 1) * 2 ^ (if a < b then b else a).toNat).testBit k <;> simp_all
theorem msk_sub_dec : ∀ a : Nat, a < 46 → ∀ n : Nat, n < 14 → ∀ w : Nat, w < 21 → (jand (mskI (a : Int) ((n : Int) + 1)) (jxor (mskI 14 ((w : Int) + 10)) (-1)) = 0 ↔ (14 ≤ a ∧ a + (n + 1) ≤ 14 + (w + 10))) := by decide +kernel
theorem msk_sub {a n w : Int} (ha : 0 ≤ a ∧ a ≤ 45) (hn : 1 ≤ n ∧ n ≤ 14) (hw : 10 ≤ w ∧ w ≤ 30) : jand (mskI a n) (jxor (mskI 14 w) (-1)) = 0 ↔ (14 ≤ a ∧ a + n ≤ 14 + w) := by
  have h := msk_sub_dec a.toNat (by omega) (n - 1).toNat (by omega) (w - 10).toNat (by omega)
  rw [Int.toNat_of_nonneg ha.1, Int.toNat_of_nonneg (show 0 ≤ n - 1 by omega), Int.toNat_of_nonneg (show 0 ≤ w - 10 by omega), show n - 1 + 1 = n by omega, show w - 10 + 10 = w by omega] at h
  rw [h]
  omega
set_option maxHeartbeats 4000000 in
set_option maxRecDepth 100000 in
theorem c_X4_kind (l : Launch) (g : GG) (q : Nat) (tr : Nat) (kd : Int) (i : Int) (v : Int) (lt : Int) (cl : Int) (r : Int) (hk : kd = 0) : MroI l g yX4_kind cX4_kind 1 1 [.ref q] (fun H => nmAt g q kd tr i v lt cl r H) (iI (kd)) := by
  refine ro_startI (own := RX4) (by decide) rfl (Nat.le_of_ble_eq_true rfl) ?_
  intro Pg Ev s Mi args below Mt Cd ls Q hC hK hE hP hl hQ
  have hl : lv_has ls 1 [(0, .ref q)] := hl
  refine li_iconst hC dX4_kind_0 ?_
  exact hQ _ _ _ dX4_kind_1 (iI_inj (by omega))
set_option maxHeartbeats 4000000 in
set_option maxRecDepth 100000 in
theorem c_X3_kind (l : Launch) (g : GG) (q : Nat) (tr : Nat) (kd : Int) (i : Int) (v : Int) (lt : Int) (cl : Int) (r : Int) (hk : kd = 1) : MroI l g yX3_kind cX3_kind 1 1 [.ref q] (fun H => nmAt g q kd tr i v lt cl r H) (iI (kd)) := by
  refine ro_startI (own := RX3) (by decide) rfl (Nat.le_of_ble_eq_true rfl) ?_
  intro Pg Ev s Mi args below Mt Cd ls Q hC hK hE hP hl hQ
  have hl : lv_has ls 1 [(0, .ref q)] := hl
  refine li_iconst hC dX3_kind_0 ?_
  exact hQ _ _ _ dX3_kind_1 (iI_inj (by omega))
set_option maxHeartbeats 4000000 in
set_option maxRecDepth 100000 in
theorem c_X1_kind (l : Launch) (g : GG) (q : Nat) (tr : Nat) (kd : Int) (i : Int) (v : Int) (lt : Int) (cl : Int) (r : Int) (hk : kd = 2) : MroI l g yX1_kind cX1_kind 1 1 [.ref q] (fun H => nmAt g q kd tr i v lt cl r H) (iI (kd)) := by
  refine ro_startI (own := RX1) (by decide) rfl (Nat.le_of_ble_eq_true rfl) ?_
  intro Pg Ev s Mi args below Mt Cd ls Q hC hK hE hP hl hQ
  have hl : lv_has ls 1 [(0, .ref q)] := hl
  refine li_iconst hC dX1_kind_0 ?_
  exact hQ _ _ _ dX1_kind_1 (iI_inj (by omega))
set_option maxHeartbeats 4000000 in
set_option maxRecDepth 100000 in
theorem c_X9_kind (l : Launch) (g : GG) (q : Nat) (tr : Nat) (kd : Int) (i : Int) (v : Int) (lt : Int) (cl : Int) (r : Int) (hk : kd = 3) : MroI l g yX9_kind cX9_kind 1 1 [.ref q] (fun H => nmAt g q kd tr i v lt cl r H) (iI (kd)) := by
  refine ro_startI (own := RX9) (by decide) rfl (Nat.le_of_ble_eq_true rfl) ?_
  intro Pg Ev s Mi args below Mt Cd ls Q hC hK hE hP hl hQ
  have hl : lv_has ls 1 [(0, .ref q)] := hl
  refine li_iconst hC dX9_kind_0 ?_
  exact hQ _ _ _ dX9_kind_1 (iI_inj (by omega))
set_option maxHeartbeats 4000000 in
set_option maxRecDepth 100000 in
theorem c_X0_kind (l : Launch) (g : GG) (q : Nat) (tr : Nat) (kd : Int) (i : Int) (v : Int) (lt : Int) (cl : Int) (r : Int) (hk : kd = 4) : MroI l g yX0_kind cX0_kind 1 1 [.ref q] (fun H => nmAt g q kd tr i v lt cl r H) (iI (kd)) := by
  refine ro_startI (own := RX0) (by decide) rfl (Nat.le_of_ble_eq_true rfl) ?_
  intro Pg Ev s Mi args below Mt Cd ls Q hC hK hE hP hl hQ
  have hl : lv_has ls 1 [(0, .ref q)] := hl
  refine li_iconst hC dX0_kind_0 ?_
  exact hQ _ _ _ dX0_kind_1 (iI_inj (by omega))
set_option maxHeartbeats 4000000 in
set_option maxRecDepth 100000 in
theorem c_X2_kind (l : Launch) (g : GG) (q : Nat) (tr : Nat) (kd : Int) (i : Int) (v : Int) (lt : Int) (cl : Int) (r : Int) (hk : kd = 5) : MroI l g yX2_kind cX2_kind 1 1 [.ref q] (fun H => nmAt g q kd tr i v lt cl r H) (iI (kd)) := by
  refine ro_startI (own := RX2) (by decide) rfl (Nat.le_of_ble_eq_true rfl) ?_
  intro Pg Ev s Mi args below Mt Cd ls Q hC hK hE hP hl hQ
  have hl : lv_has ls 1 [(0, .ref q)] := hl
  refine li_iconst hC dX2_kind_0 ?_
  exact hQ _ _ _ dX2_kind_1 (iI_inj (by omega))
set_option maxHeartbeats 4000000 in
set_option maxRecDepth 100000 in
theorem c_X10_kind (l : Launch) (g : GG) (q : Nat) (tr : Nat) (kd : Int) (i : Int) (v : Int) (lt : Int) (cl : Int) (r : Int) (hk : kd = 6) : MroI l g yX10_kind cX10_kind 1 1 [.ref q] (fun H => nmAt g q kd tr i v lt cl r H) (iI (kd)) := by
  refine ro_startI (own := RX10) (by decide) rfl (Nat.le_of_ble_eq_true rfl) ?_
  intro Pg Ev s Mi args below Mt Cd ls Q hC hK hE hP hl hQ
  have hl : lv_has ls 1 [(0, .ref q)] := hl
  refine li_bipush hC (z := 6) rfl dX10_kind_0 ?_
  exact hQ _ _ _ dX10_kind_2 (iI_inj (by omega))
theorem v_kind {p : Program} {l : Launch} {e : Env} {R : Room} {s : State} {m : MethodId} {args : Array Value} {below : List Frame} {meth : Method} {c : Code} {H : Heap} {locs : List Loc} {cells slots : Nat} {Q : State → Prop} {cc : ByteArray} {nL : Nat} {ret : Option FieldType} {own : String} {pc : Nat} {ls : Array Slot} {rest st0 : List Value} {g : GG} (hC : Cx p s m args meth c cc nL ret own) (hK : KU g s) (hE : EnvG g NoA s H) {q tr : Nat} {kd i v lt cl r : Int} (hN : nmAt g q kd tr i v lt cl r H) {ix : Nat} (hlink : Cond.methodLink own ix yX4_kind ∈ allW) (hR : RR 1 R) (hcs : cells ≤ R.cells ∧ slots ≤ R.slots) (hsz : ls.size = nL) (hst : st0 = .ref q :: rest) (hW : (rest.map fun v => v.category).sum ≤ 8) (hdg : decode cc pc = .ok (.invokevirtual ix, 3)) (kk : W p l e R s m args below meth c H locs cells slots Q (F0 m (pc + 3) ls (.int (iI (kd)) :: rest))) : W p l e R s m args below meth c H locs cells slots Q (F0 m (pc) ls (st0)) := by
  subst hst
  have hN0 := hN
  have hrv := li_recvN hK hN
  obtain ⟨ho, hk⟩ := hN
  rcases kd_cases hk with rfl | rfl | rfl | rfl | rfl | rfl | rfl
  · exact ro_callVi hC (c_X4_kind l g q tr 0 i v lt cl r  (by decide)) mk_X4_kind hlink hR hcs hK hE hN0 hrv (As := []) rfl hsz rfl hW hdg kk
  · exact ro_callUi hC (c_X3_kind l g q tr 1 i v lt cl r  (by decide)) mu_X3_X4_kind hlink hR hcs hK hE hN0 hrv (As := []) rfl hsz rfl hW hdg kk
  · exact ro_callUi hC (c_X1_kind l g q tr 2 i v lt cl r  (by decide)) mu_X1_X4_kind hlink hR hcs hK hE hN0 hrv (As := []) rfl hsz rfl hW hdg kk
  · exact ro_callUi hC (c_X9_kind l g q tr 3 i v lt cl r  (by decide)) mu_X9_X4_kind hlink hR hcs hK hE hN0 hrv (As := []) rfl hsz rfl hW hdg kk
  · exact ro_callUi hC (c_X0_kind l g q tr 4 i v lt cl r  (by decide)) mu_X0_X4_kind hlink hR hcs hK hE hN0 hrv (As := []) rfl hsz rfl hW hdg kk
  · exact ro_callUi hC (c_X2_kind l g q tr 5 i v lt cl r  (by decide)) mu_X2_X4_kind hlink hR hcs hK hE hN0 hrv (As := []) rfl hsz rfl hW hdg kk
  · exact ro_callUi hC (c_X10_kind l g q tr 6 i v lt cl r  (by decide)) mu_X10_X4_kind hlink hR hcs hK hE hN0 hrv (As := []) rfl hsz rfl hW hdg kk
set_option maxHeartbeats 4000000 in
set_option maxRecDepth 100000 in
theorem c_X4_length (l : Launch) (g : GG) (q : Nat) (tr : Nat) (kd : Int) (i : Int) (v : Int) (lt : Int) (cl : Int) (r : Int) (z : Int) (hz : 0 ≤ z ∧ z ≤ 9) (hlt : 1 ≤ lt ∧ lt ≤ 9) (hk : kd = 0 ∨ kd = 2 ∨ kd = 5) : MroI l g yX4_length cX4_length 2 1 [.ref q, .int (iI z)] (fun H => nmAt g q kd tr i v lt cl r H) (iI (lenK kd z lt)) := by
  refine ro_startI (own := RX4) (by decide) rfl (Nat.le_of_ble_eq_true rfl) ?_
  intro Pg Ev s Mi args below Mt Cd ls Q hC hK hE hP hl hQ
  have hl : lv_has ls 2 [(0, .ref q), (1, .int (iI z))] := hl
  refine li_aload_n hC hl 0 rfl dX4_length_0 ?_
  refine li_getN3 hC hK hP fl_X4_22 dX4_length_1 ?_
  exact hQ _ _ _ dX4_length_4 (iI_inj (by unfold lenK clampS; (repeat' split) <;> omega))
set_option maxHeartbeats 4000000 in
set_option maxRecDepth 100000 in
theorem c_X3_length (l : Launch) (g : GG) (q : Nat) (tr : Nat) (kd : Int) (i : Int) (v : Int) (lt : Int) (cl : Int) (r : Int) (z : Int) (hz : 0 ≤ z ∧ z ≤ 9) (hlt : 1 ≤ lt ∧ lt ≤ 9) (hk : kd = 1) : MroI l g yX3_length cX3_length 2 1 [.ref q, .int (iI z)] (fun H => nmAt g q kd tr i v lt cl r H) (iI (lenK kd z lt)) := by
  refine ro_startI (own := RX3) (by decide) rfl (Nat.le_of_ble_eq_true rfl) ?_
  intro Pg Ev s Mi args below Mt Cd ls Q hC hK hE hP hl hQ
  have hl : lv_has ls 2 [(0, .ref q), (1, .int (iI z))] := hl
  refine li_aload_n hC hl 0 rfl dX3_length_0 ?_
  refine li_getNs3 hC hK hP fl_X3_9 sf_X3_letters dX3_length_1 ?_
  refine li_aload_n hC hl 0 rfl dX3_length_4 ?_
  refine li_getNs3 hC hK hP fl_X3_9 sf_X3_letters dX3_length_5 ?_
  refine li_iconst hC dX3_length_8 ?_
  refine li_idivN hC (by omega) (by omega) (by omega) (by omega) dX3_length_9 ?_
  refine li_iadd hC dX3_length_10 ?_
  exact hQ _ _ _ dX3_length_11 (iI_inj (by unfold lenK clampS; (repeat' split) <;> omega))
set_option maxHeartbeats 4000000 in
set_option maxRecDepth 100000 in
theorem c_X9_length (l : Launch) (g : GG) (q : Nat) (tr : Nat) (kd : Int) (i : Int) (v : Int) (lt : Int) (cl : Int) (r : Int) (z : Int) (hz : 0 ≤ z ∧ z ≤ 9) (hlt : 1 ≤ lt ∧ lt ≤ 9) (hk : kd = 3 ∨ kd = 6) : MroI l g yX9_length cX9_length 3 1 [.ref q, .int (iI z)] (fun H => nmAt g q kd tr i v lt cl r H) (iI (lenK kd z lt)) := by
  refine ro_startI (own := RX9) (by decide) rfl (Nat.le_of_ble_eq_true rfl) ?_
  intro Pg Ev s Mi args below Mt Cd ls Q hC hK hE hP hl hQ
  have hl : lv_has ls 3 [(0, .ref q), (1, .int (iI z))] := hl
  refine li_aload_n hC hl 0 rfl dX9_length_0 ?_
  refine li_getNs3 hC hK hP fl_X9_9 sf_X9_letters dX9_length_1 ?_
  refine li_iload_n hC hl 1 rfl dX9_length_4 ?_
  refine li_iconst hC dX9_length_5 ?_
  refine li_idivN hC (by omega) (by omega) (by omega) (by omega) dX9_length_6 ?_
  refine li_isub hC dX9_length_7 ?_
  refine li_istore_n hC (lv' := [(2, .int (iI (lt - (z / 3)))), (0, .ref q), (1, .int (iI z))]) hl (by decide) rfl dX9_length_8 (fun ls hl => ?_)
  refine li_iload_n hC hl 0 rfl dX9_length_9 ?_
  refine li_iconst hC dX9_length_10 ?_
  refine li_icmp_ge (tgt := 18) hC (by decide) (rg (by omega) (by omega)) (rg (by decide) (by decide)) dX9_length_11 (fun c1 => ?_) (fun c1 => ?_)
  · refine li_iload_n hC hl 0 rfl dX9_length_18 ?_
    exact hQ _ _ _ dX9_length_19 (iI_inj (by unfold lenK clampS; (repeat' split) <;> omega))
  · refine li_iconst hC dX9_length_14 ?_
    refine li_goto (tgt := 19) hC (by decide) dX9_length_15 ?_
    exact hQ _ _ _ dX9_length_19 (iI_inj (by unfold lenK clampS; (repeat' split) <;> omega))
set_option maxHeartbeats 4000000 in
set_option maxRecDepth 100000 in
theorem c_X0_length (l : Launch) (g : GG) (q : Nat) (tr : Nat) (kd : Int) (i : Int) (v : Int) (lt : Int) (cl : Int) (r : Int) (z : Int) (hz : 0 ≤ z ∧ z ≤ 9) (hlt : 1 ≤ lt ∧ lt ≤ 9) (hk : kd = 4) : MroI l g yX0_length cX0_length 2 1 [.ref q, .int (iI z)] (fun H => nmAt g q kd tr i v lt cl r H) (iI (lenK kd z lt)) := by
  refine ro_startI (own := RX0) (by decide) rfl (Nat.le_of_ble_eq_true rfl) ?_
  intro Pg Ev s Mi args below Mt Cd ls Q hC hK hE hP hl hQ
  have hl : lv_has ls 2 [(0, .ref q), (1, .int (iI z))] := hl
  refine li_aload_n hC hl 0 rfl dX0_length_0 ?_
  refine li_getNs3 hC hK hP fl_X0_9 sf_X0_letters dX0_length_1 ?_
  refine li_aload_n hC hl 0 rfl dX0_length_4 ?_
  refine li_getNs3 hC hK hP fl_X0_9 sf_X0_letters dX0_length_5 ?_
  refine li_iconst hC dX0_length_8 ?_
  refine li_idivN hC (by omega) (by omega) (by omega) (by omega) dX0_length_9 ?_
  refine li_iadd hC dX0_length_10 ?_
  refine li_iconst hC dX0_length_11 ?_
  refine li_iadd hC dX0_length_12 ?_
  exact hQ _ _ _ dX0_length_13 (iI_inj (by unfold lenK clampS; (repeat' split) <;> omega))
theorem v_length {p : Program} {l : Launch} {e : Env} {R : Room} {s : State} {m : MethodId} {args : Array Value} {below : List Frame} {meth : Method} {c : Code} {H : Heap} {locs : List Loc} {cells slots : Nat} {Q : State → Prop} {cc : ByteArray} {nL : Nat} {ret : Option FieldType} {own : String} {pc : Nat} {ls : Array Slot} {rest st0 : List Value} {g : GG} (hC : Cx p s m args meth c cc nL ret own) (hK : KU g s) (hE : EnvG g NoA s H) {q tr : Nat} {kd i v lt cl r : Int} (hN : nmAt g q kd tr i v lt cl r H) {z : Int} (hz : 0 ≤ z ∧ z ≤ 9) (hlt : 1 ≤ lt ∧ lt ≤ 9) {ix : Nat} (hlink : Cond.methodLink own ix yX4_length ∈ allW) (hR : RR 1 R) (hcs : cells ≤ R.cells ∧ slots ≤ R.slots) (hsz : ls.size = nL) (hst : st0 = .int (iI z) :: .ref q :: rest) (hW : (rest.map fun v => v.category).sum ≤ 8) (hdg : decode cc pc = .ok (.invokevirtual ix, 3)) (kk : W p l e R s m args below meth c H locs cells slots Q (F0 m (pc + 3) ls (.int (iI (lenK kd z lt)) :: rest))) : W p l e R s m args below meth c H locs cells slots Q (F0 m (pc) ls (st0)) := by
  subst hst
  have hN0 := hN
  have hrv := li_recvN hK hN
  obtain ⟨ho, hk⟩ := hN
  rcases kd_cases hk with rfl | rfl | rfl | rfl | rfl | rfl | rfl
  · exact ro_callVi hC (c_X4_length l g q tr 0 i v lt cl r z hz hlt (by decide)) mk_X4_length hlink hR hcs hK hE hN0 hrv (As := [.int (iI z)]) rfl hsz rfl hW hdg kk
  · exact ro_callUi hC (c_X3_length l g q tr 1 i v lt cl r z hz hlt (by decide)) mu_X3_X4_length hlink hR hcs hK hE hN0 hrv (As := [.int (iI z)]) rfl hsz rfl hW hdg kk
  · exact ro_callUi hC (c_X4_length l g q tr 2 i v lt cl r z hz hlt (by decide)) mu_X1_X4_length hlink hR hcs hK hE hN0 hrv (As := [.int (iI z)]) rfl hsz rfl hW hdg kk
  · exact ro_callUi hC (c_X9_length l g q tr 3 i v lt cl r z hz hlt (by decide)) mu_X9_X4_length hlink hR hcs hK hE hN0 hrv (As := [.int (iI z)]) rfl hsz rfl hW hdg kk
  · exact ro_callUi hC (c_X0_length l g q tr 4 i v lt cl r z hz hlt (by decide)) mu_X0_X4_length hlink hR hcs hK hE hN0 hrv (As := [.int (iI z)]) rfl hsz rfl hW hdg kk
  · exact ro_callUi hC (c_X4_length l g q tr 5 i v lt cl r z hz hlt (by decide)) mu_X2_X4_length hlink hR hcs hK hE hN0 hrv (As := [.int (iI z)]) rfl hsz rfl hW hdg kk
  · exact ro_callUi hC (c_X9_length l g q tr 6 i v lt cl r z hz hlt (by decide)) mu_X10_X4_length hlink hR hcs hK hE hN0 hrv (As := [.int (iI z)]) rfl hsz rfl hW hdg kk
set_option maxHeartbeats 4000000 in
set_option maxRecDepth 100000 in
theorem c_X4_mayBe (l : Launch) (g : GG) (q : Nat) (tr : Nat) (kd : Int) (i : Int) (v : Int) (lt : Int) (cl : Int) (r : Int) (told : Int) (hk : kd = 0) : MroI l g yX4_mayBe cX4_mayBe 2 1 [.ref q, .int (iI told)] (fun H => nmAt g q kd tr i v lt cl r H) (iI (mayK kd told)) := by
  refine ro_startI (own := RX4) (by decide) rfl (Nat.le_of_ble_eq_true rfl) ?_
  intro Pg Ev s Mi args below Mt Cd ls Q hC hK hE hP hl hQ
  have hl : lv_has ls 2 [(0, .ref q), (1, .int (iI told))] := hl
  refine li_bipush hC (z := 15) rfl dX4_mayBe_0 ?_
  exact hQ _ _ _ dX4_mayBe_2 (iI_inj (by unfold mayK; (repeat' split) <;> omega))
set_option maxHeartbeats 4000000 in
set_option maxRecDepth 100000 in
theorem c_X3_mayBe (l : Launch) (g : GG) (q : Nat) (tr : Nat) (kd : Int) (i : Int) (v : Int) (lt : Int) (cl : Int) (r : Int) (told : Int) (hk : kd = 1) : MroI l g yX3_mayBe cX3_mayBe 2 1 [.ref q, .int (iI told)] (fun H => nmAt g q kd tr i v lt cl r H) (iI (mayK kd told)) := by
  refine ro_startI (own := RX3) (by decide) rfl (Nat.le_of_ble_eq_true rfl) ?_
  intro Pg Ev s Mi args below Mt Cd ls Q hC hK hE hP hl hQ
  have hl : lv_has ls 2 [(0, .ref q), (1, .int (iI told))] := hl
  refine li_iconst hC dX3_mayBe_0 ?_
  exact hQ _ _ _ dX3_mayBe_1 (iI_inj (by unfold mayK; (repeat' split) <;> omega))
set_option maxHeartbeats 4000000 in
set_option maxRecDepth 100000 in
theorem c_X1_mayBe (l : Launch) (g : GG) (q : Nat) (tr : Nat) (kd : Int) (i : Int) (v : Int) (lt : Int) (cl : Int) (r : Int) (told : Int) (hk : kd = 2) : MroI l g yX1_mayBe cX1_mayBe 2 1 [.ref q, .int (iI told)] (fun H => nmAt g q kd tr i v lt cl r H) (iI (mayK kd told)) := by
  refine ro_startI (own := RX1) (by decide) rfl (Nat.le_of_ble_eq_true rfl) ?_
  intro Pg Ev s Mi args below Mt Cd ls Q hC hK hE hP hl hQ
  have hl : lv_has ls 2 [(0, .ref q), (1, .int (iI told))] := hl
  refine li_bipush hC (z := 9) rfl dX1_mayBe_0 ?_
  exact hQ _ _ _ dX1_mayBe_2 (iI_inj (by unfold mayK; (repeat' split) <;> omega))
set_option maxHeartbeats 4000000 in
set_option maxRecDepth 100000 in
theorem c_X9_mayBe (l : Launch) (g : GG) (q : Nat) (tr : Nat) (kd : Int) (i : Int) (v : Int) (lt : Int) (cl : Int) (r : Int) (told : Int) (hk : kd = 3) : MroI l g yX9_mayBe cX9_mayBe 2 1 [.ref q, .int (iI told)] (fun H => nmAt g q kd tr i v lt cl r H) (iI (mayK kd told)) := by
  refine ro_startI (own := RX9) (by decide) rfl (Nat.le_of_ble_eq_true rfl) ?_
  intro Pg Ev s Mi args below Mt Cd ls Q hC hK hE hP hl hQ
  have hl : lv_has ls 2 [(0, .ref q), (1, .int (iI told))] := hl
  refine li_bipush hC (z := 12) rfl dX9_mayBe_0 ?_
  exact hQ _ _ _ dX9_mayBe_2 (iI_inj (by unfold mayK; (repeat' split) <;> omega))
set_option maxHeartbeats 4000000 in
set_option maxRecDepth 100000 in
theorem c_X0_mayBe (l : Launch) (g : GG) (q : Nat) (tr : Nat) (kd : Int) (i : Int) (v : Int) (lt : Int) (cl : Int) (r : Int) (told : Int) (hk : kd = 4) : MroI l g yX0_mayBe cX0_mayBe 2 1 [.ref q, .int (iI told)] (fun H => nmAt g q kd tr i v lt cl r H) (iI (mayK kd told)) := by
  refine ro_startI (own := RX0) (by decide) rfl (Nat.le_of_ble_eq_true rfl) ?_
  intro Pg Ev s Mi args below Mt Cd ls Q hC hK hE hP hl hQ
  have hl : lv_has ls 2 [(0, .ref q), (1, .int (iI told))] := hl
  refine li_bipush hC (z := 15) rfl dX0_mayBe_0 ?_
  exact hQ _ _ _ dX0_mayBe_2 (iI_inj (by unfold mayK; (repeat' split) <;> omega))
set_option maxHeartbeats 4000000 in
set_option maxRecDepth 100000 in
theorem c_X2_mayBe (l : Launch) (g : GG) (q : Nat) (tr : Nat) (kd : Int) (i : Int) (v : Int) (lt : Int) (cl : Int) (r : Int) (told : Int) (hk : kd = 5) : MroI l g yX2_mayBe cX2_mayBe 2 1 [.ref q, .int (iI told)] (fun H => nmAt g q kd tr i v lt cl r H) (iI (mayK kd told)) := by
  refine ro_startI (own := RX2) (by decide) rfl (Nat.le_of_ble_eq_true rfl) ?_
  intro Pg Ev s Mi args below Mt Cd ls Q hC hK hE hP hl hQ
  have hl : lv_has ls 2 [(0, .ref q), (1, .int (iI told))] := hl
  refine li_iconst hC dX2_mayBe_0 ?_
  exact hQ _ _ _ dX2_mayBe_1 (iI_inj (by unfold mayK; (repeat' split) <;> omega))
set_option maxHeartbeats 4000000 in
set_option maxRecDepth 100000 in
theorem c_X10_mayBe (l : Launch) (g : GG) (q : Nat) (tr : Nat) (kd : Int) (i : Int) (v : Int) (lt : Int) (cl : Int) (r : Int) (told : Int) (hk : kd = 6) : MroI l g yX10_mayBe cX10_mayBe 2 1 [.ref q, .int (iI told)] (fun H => nmAt g q kd tr i v lt cl r H) (iI (mayK kd told)) := by
  refine ro_startI (own := RX10) (by decide) rfl (Nat.le_of_ble_eq_true rfl) ?_
  intro Pg Ev s Mi args below Mt Cd ls Q hC hK hE hP hl hQ
  have hl : lv_has ls 2 [(0, .ref q), (1, .int (iI told))] := hl
  refine li_iload_n hC hl 1 rfl dX10_mayBe_0 ?_
  exact hQ _ _ _ dX10_mayBe_1 (iI_inj (by unfold mayK; (repeat' split) <;> omega))
theorem v_mayBe {p : Program} {l : Launch} {e : Env} {R : Room} {s : State} {m : MethodId} {args : Array Value} {below : List Frame} {meth : Method} {c : Code} {H : Heap} {locs : List Loc} {cells slots : Nat} {Q : State → Prop} {cc : ByteArray} {nL : Nat} {ret : Option FieldType} {own : String} {pc : Nat} {ls : Array Slot} {rest st0 : List Value} {g : GG} (hC : Cx p s m args meth c cc nL ret own) (hK : KU g s) (hE : EnvG g NoA s H) {q tr : Nat} {kd i v lt cl r : Int} (hN : nmAt g q kd tr i v lt cl r H) {told : Int} {ix : Nat} (hlink : Cond.methodLink own ix yX4_mayBe ∈ allW) (hR : RR 1 R) (hcs : cells ≤ R.cells ∧ slots ≤ R.slots) (hsz : ls.size = nL) (hst : st0 = .int (iI told) :: .ref q :: rest) (hW : (rest.map fun v => v.category).sum ≤ 8) (hdg : decode cc pc = .ok (.invokevirtual ix, 3)) (kk : W p l e R s m args below meth c H locs cells slots Q (F0 m (pc + 3) ls (.int (iI (mayK kd told)) :: rest))) : W p l e R s m args below meth c H locs cells slots Q (F0 m (pc) ls (st0)) := by
  subst hst
  have hN0 := hN
  have hrv := li_recvN hK hN
  obtain ⟨ho, hk⟩ := hN
  rcases kd_cases hk with rfl | rfl | rfl | rfl | rfl | rfl | rfl
  · exact ro_callVi hC (c_X4_mayBe l g q tr 0 i v lt cl r told (by decide)) mk_X4_mayBe hlink hR hcs hK hE hN0 hrv (As := [.int (iI told)]) rfl hsz rfl hW hdg kk
  · exact ro_callUi hC (c_X3_mayBe l g q tr 1 i v lt cl r told (by decide)) mu_X3_X4_mayBe hlink hR hcs hK hE hN0 hrv (As := [.int (iI told)]) rfl hsz rfl hW hdg kk
  · exact ro_callUi hC (c_X1_mayBe l g q tr 2 i v lt cl r told (by decide)) mu_X1_X4_mayBe hlink hR hcs hK hE hN0 hrv (As := [.int (iI told)]) rfl hsz rfl hW hdg kk
  · exact ro_callUi hC (c_X9_mayBe l g q tr 3 i v lt cl r told (by decide)) mu_X9_X4_mayBe hlink hR hcs hK hE hN0 hrv (As := [.int (iI told)]) rfl hsz rfl hW hdg kk
  · exact ro_callUi hC (c_X0_mayBe l g q tr 4 i v lt cl r told (by decide)) mu_X0_X4_mayBe hlink hR hcs hK hE hN0 hrv (As := [.int (iI told)]) rfl hsz rfl hW hdg kk
  · exact ro_callUi hC (c_X2_mayBe l g q tr 5 i v lt cl r told (by decide)) mu_X2_X4_mayBe hlink hR hcs hK hE hN0 hrv (As := [.int (iI told)]) rfl hsz rfl hW hdg kk
  · exact ro_callUi hC (c_X10_mayBe l g q tr 6 i v lt cl r told (by decide)) mu_X10_X4_mayBe hlink hR hcs hK hE hN0 hrv (As := [.int (iI told)]) rfl hsz rfl hW hdg kk
set_option maxHeartbeats 4000000 in
set_option maxRecDepth 100000 in
theorem c_X4_lineAt (l : Launch) (g : GG) (q : Nat) (tr : Nat) (kd : Int) (i : Int) (v : Int) (lt : Int) (cl : Int) (r : Int) (p0 : Int) (hp : 0 ≤ p0 ∧ p0 ≤ 4) (hr : 0 ≤ r ∧ r ≤ 11) : MroI l g yX4_lineAt cX4_lineAt 2 1 [.ref q, .int (iI p0)] (fun H => nmAt g q kd tr i v lt cl r H) (iI (lineN r p0)) := by
  refine ro_startI (own := RX4) (by decide) rfl (Nat.le_of_ble_eq_true rfl) ?_
  intro Pg Ev s Mi args below Mt Cd ls Q hC hK hE hP hl hQ
  have hl : lv_has ls 2 [(0, .ref q), (1, .int (iI p0))] := hl
  refine li_iload_n hC hl 1 rfl dX4_lineAt_0 ?_
  refine li_iconst hC dX4_lineAt_1 ?_
  refine li_icmp_ne (tgt := 12) hC (by decide) (rg (by omega) (by omega)) (rg (by decide) (by decide)) dX4_lineAt_2 (fun c1 => ?_) (fun c1 => ?_)
  · refine li_iload_n hC hl 1 rfl dX4_lineAt_12 ?_
    refine li_iconst hC dX4_lineAt_13 ?_
    refine li_icmp_ne (tgt := 26) hC (by decide) (rg (by omega) (by omega)) (rg (by decide) (by decide)) dX4_lineAt_14 (fun c2 => ?_) (fun c2 => ?_)
    · refine li_aload_n hC hl 0 rfl dX4_lineAt_26 ?_
      refine li_getN5 hC hK hP fl_X4_28 dX4_lineAt_27 ?_
      exact hQ _ _ _ dX4_lineAt_30 (iI_inj (by unfold lineN; (repeat' split) <;> omega))
    · refine li_aload_n hC hl 0 rfl dX4_lineAt_17 ?_
      refine li_getN5 hC hK hP fl_X4_28 dX4_lineAt_18 ?_
      refine li_iconst hC dX4_lineAt_21 ?_
      refine li_iadd hC dX4_lineAt_22 ?_
      refine li_goto (tgt := 30) hC (by decide) dX4_lineAt_23 ?_
      exact hQ _ _ _ dX4_lineAt_30 (iI_inj (by unfold lineN; (repeat' split) <;> omega))
  · refine li_aload_n hC hl 0 rfl dX4_lineAt_5 ?_
    refine li_getN5 hC hK hP fl_X4_28 dX4_lineAt_6 ?_
    refine li_iconst hC dX4_lineAt_9 ?_
    refine li_isub hC dX4_lineAt_10 ?_
    exact hQ _ _ _ dX4_lineAt_11 (iI_inj (by unfold lineN; (repeat' split) <;> omega))
theorem v_lineAt {p : Program} {l : Launch} {e : Env} {R : Room} {s : State} {m : MethodId} {args : Array Value} {below : List Frame} {meth : Method} {c : Code} {H : Heap} {locs : List Loc} {cells slots : Nat} {Q : State → Prop} {cc : ByteArray} {nL : Nat} {ret : Option FieldType} {own : String} {pc : Nat} {ls : Array Slot} {rest st0 : List Value} {g : GG} (hC : Cx p s m args meth c cc nL ret own) (hK : KU g s) (hE : EnvG g NoA s H) {q tr : Nat} {kd i v lt cl r : Int} (hN : nmAt g q kd tr i v lt cl r H) {p0 : Int} (hp : 0 ≤ p0 ∧ p0 ≤ 4) (hr : 0 ≤ r ∧ r ≤ 11) {ix : Nat} (hlink : Cond.methodLink own ix yX4_lineAt ∈ allW) (hR : RR 1 R) (hcs : cells ≤ R.cells ∧ slots ≤ R.slots) (hsz : ls.size = nL) (hst : st0 = .int (iI p0) :: .ref q :: rest) (hW : (rest.map fun v => v.category).sum ≤ 8) (hdg : decode cc pc = .ok (.invokevirtual ix, 3)) (kk : W p l e R s m args below meth c H locs cells slots Q (F0 m (pc + 3) ls (.int (iI (lineN r p0)) :: rest))) : W p l e R s m args below meth c H locs cells slots Q (F0 m (pc) ls (st0)) := by
  subst hst
  have hN0 := hN
  have hrv := li_recvN hK hN
  obtain ⟨ho, hk⟩ := hN
  rcases kd_cases hk with rfl | rfl | rfl | rfl | rfl | rfl | rfl
  · exact ro_callVi hC (c_X4_lineAt l g q tr 0 i v lt cl r p0 hp hr) mk_X4_lineAt hlink hR hcs hK hE hN0 hrv (As := [.int (iI p0)]) rfl hsz rfl hW hdg kk
  · exact ro_callUi hC (c_X4_lineAt l g q tr 1 i v lt cl r p0 hp hr) mu_X3_X4_lineAt hlink hR hcs hK hE hN0 hrv (As := [.int (iI p0)]) rfl hsz rfl hW hdg kk
  · exact ro_callUi hC (c_X4_lineAt l g q tr 2 i v lt cl r p0 hp hr) mu_X1_X4_lineAt hlink hR hcs hK hE hN0 hrv (As := [.int (iI p0)]) rfl hsz rfl hW hdg kk
  · exact ro_callUi hC (c_X4_lineAt l g q tr 3 i v lt cl r p0 hp hr) mu_X9_X4_lineAt hlink hR hcs hK hE hN0 hrv (As := [.int (iI p0)]) rfl hsz rfl hW hdg kk
  · exact ro_callUi hC (c_X4_lineAt l g q tr 4 i v lt cl r p0 hp hr) mu_X0_X4_lineAt hlink hR hcs hK hE hN0 hrv (As := [.int (iI p0)]) rfl hsz rfl hW hdg kk
  · exact ro_callUi hC (c_X4_lineAt l g q tr 5 i v lt cl r p0 hp hr) mu_X2_X4_lineAt hlink hR hcs hK hE hN0 hrv (As := [.int (iI p0)]) rfl hsz rfl hW hdg kk
  · exact ro_callUi hC (c_X4_lineAt l g q tr 6 i v lt cl r p0 hp hr) mu_X10_X4_lineAt hlink hR hcs hK hE hN0 hrv (As := [.int (iI p0)]) rfl hsz rfl hW hdg kk
set_option maxHeartbeats 4000000 in
set_option maxRecDepth 100000 in
theorem c_X4_startAt (l : Launch) (g : GG) (q : Nat) (tr : Nat) (kd : Int) (i : Int) (v : Int) (lt : Int) (cl : Int) (r : Int) (p0 : Int) (len : Int) (hp : 0 ≤ p0 ∧ p0 ≤ 4) (hc : 0 ≤ cl ∧ cl ≤ 29) (hln : 1 ≤ len ∧ len ≤ 14) : MroI l g yX4_startAt cX4_startAt 3 1 [.ref q, .int (iI p0), .int (iI len)] (fun H => nmAt g q kd tr i v lt cl r H) (iI (startN cl p0 len)) := by
  refine ro_startI (own := RX4) (by decide) rfl (Nat.le_of_ble_eq_true rfl) ?_
  intro Pg Ev s Mi args below Mt Cd ls Q hC hK hE hP hl hQ
  have hl : lv_has ls 3 [(0, .ref q), (1, .int (iI p0)), (2, .int (iI len))] := hl
  refine li_iload_n hC hl 1 rfl dX4_startAt_0 ?_
  refine li_if_ne (tgt := 11) hC (by decide) (rg (by omega) (by omega)) dX4_startAt_1 (fun c1 => ?_) (fun c1 => ?_)
  · refine li_iload_n hC hl 1 rfl dX4_startAt_11 ?_
    refine li_iconst hC dX4_startAt_12 ?_
    refine li_icmp_ne (tgt := 25) hC (by decide) (rg (by omega) (by omega)) (rg (by decide) (by decide)) dX4_startAt_13 (fun c2 => ?_) (fun c2 => ?_)
    · refine li_aload_n hC hl 0 rfl dX4_startAt_25 ?_
      refine li_getN4 hC hK hP fl_X4_25 dX4_startAt_26 ?_
      exact hQ _ _ _ dX4_startAt_29 (iI_inj (by unfold startN; (repeat' split) <;> omega))
    · refine li_aload_n hC hl 0 rfl dX4_startAt_16 ?_
      refine li_getN4 hC hK hP fl_X4_25 dX4_startAt_17 ?_
      refine li_iload_n hC hl 2 rfl dX4_startAt_20 ?_
      refine li_isub hC dX4_startAt_21 ?_
      refine li_goto (tgt := 29) hC (by decide) dX4_startAt_22 ?_
      exact hQ _ _ _ dX4_startAt_29 (iI_inj (by unfold startN; (repeat' split) <;> omega))
  · refine li_aload_n hC hl 0 rfl dX4_startAt_4 ?_
    refine li_getN4 hC hK hP fl_X4_25 dX4_startAt_5 ?_
    refine li_iconst hC dX4_startAt_8 ?_
    refine li_iadd hC dX4_startAt_9 ?_
    exact hQ _ _ _ dX4_startAt_10 (iI_inj (by unfold startN; (repeat' split) <;> omega))
theorem v_startAt {p : Program} {l : Launch} {e : Env} {R : Room} {s : State} {m : MethodId} {args : Array Value} {below : List Frame} {meth : Method} {c : Code} {H : Heap} {locs : List Loc} {cells slots : Nat} {Q : State → Prop} {cc : ByteArray} {nL : Nat} {ret : Option FieldType} {own : String} {pc : Nat} {ls : Array Slot} {rest st0 : List Value} {g : GG} (hC : Cx p s m args meth c cc nL ret own) (hK : KU g s) (hE : EnvG g NoA s H) {q tr : Nat} {kd i v lt cl r : Int} (hN : nmAt g q kd tr i v lt cl r H) {p0 : Int} {len : Int} (hp : 0 ≤ p0 ∧ p0 ≤ 4) (hc : 0 ≤ cl ∧ cl ≤ 29) (hln : 1 ≤ len ∧ len ≤ 14) {ix : Nat} (hlink : Cond.methodLink own ix yX4_startAt ∈ allW) (hR : RR 1 R) (hcs : cells ≤ R.cells ∧ slots ≤ R.slots) (hsz : ls.size = nL) (hst : st0 = .int (iI len) :: .int (iI p0) :: .ref q :: rest) (hW : (rest.map fun v => v.category).sum ≤ 8) (hdg : decode cc pc = .ok (.invokevirtual ix, 3)) (kk : W p l e R s m args below meth c H locs cells slots Q (F0 m (pc + 3) ls (.int (iI (startN cl p0 len)) :: rest))) : W p l e R s m args below meth c H locs cells slots Q (F0 m (pc) ls (st0)) := by
  subst hst
  have hN0 := hN
  have hrv := li_recvN hK hN
  obtain ⟨ho, hk⟩ := hN
  rcases kd_cases hk with rfl | rfl | rfl | rfl | rfl | rfl | rfl
  · exact ro_callVi hC (c_X4_startAt l g q tr 0 i v lt cl r p0 len hp hc hln) mk_X4_startAt hlink hR hcs hK hE hN0 hrv (As := [.int (iI p0), .int (iI len)]) rfl hsz rfl hW hdg kk
  · exact ro_callUi hC (c_X4_startAt l g q tr 1 i v lt cl r p0 len hp hc hln) mu_X3_X4_startAt hlink hR hcs hK hE hN0 hrv (As := [.int (iI p0), .int (iI len)]) rfl hsz rfl hW hdg kk
  · exact ro_callUi hC (c_X4_startAt l g q tr 2 i v lt cl r p0 len hp hc hln) mu_X1_X4_startAt hlink hR hcs hK hE hN0 hrv (As := [.int (iI p0), .int (iI len)]) rfl hsz rfl hW hdg kk
  · exact ro_callUi hC (c_X4_startAt l g q tr 3 i v lt cl r p0 len hp hc hln) mu_X9_X4_startAt hlink hR hcs hK hE hN0 hrv (As := [.int (iI p0), .int (iI len)]) rfl hsz rfl hW hdg kk
  · exact ro_callUi hC (c_X4_startAt l g q tr 4 i v lt cl r p0 len hp hc hln) mu_X0_X4_startAt hlink hR hcs hK hE hN0 hrv (As := [.int (iI p0), .int (iI len)]) rfl hsz rfl hW hdg kk
  · exact ro_callUi hC (c_X4_startAt l g q tr 5 i v lt cl r p0 len hp hc hln) mu_X2_X4_startAt hlink hR hcs hK hE hN0 hrv (As := [.int (iI p0), .int (iI len)]) rfl hsz rfl hW hdg kk
  · exact ro_callUi hC (c_X4_startAt l g q tr 6 i v lt cl r p0 len hp hc hln) mu_X10_X4_startAt hlink hR hcs hK hE hN0 hrv (As := [.int (iI p0), .int (iI len)]) rfl hsz rfl hW hdg kk
set_option maxHeartbeats 4000000 in
set_option maxRecDepth 100000 in
theorem c_X4_cells (l : Launch) (g : GG) (q : Nat) (tr : Nat) (kd : Int) (i : Int) (v : Int) (lt : Int) (cl : Int) (r : Int) (p0 : Int) (z : Int) (hp : 0 ≤ p0 ∧ p0 ≤ 4) (hc : 0 ≤ cl ∧ cl ≤ 29) (hz : 0 ≤ z ∧ z ≤ 9) (hlt : 1 ≤ lt ∧ lt ≤ 9) : MroJ l g yX4_cells cX4_cells 4 2 [.ref q, .int (iI p0), .int (iI z)] (fun H => nmAt g q kd tr i v lt cl r H) (jI (mskI (startN cl p0 (lenK kd z lt) - (-14)) (lenK kd z lt))) := by
  refine ro_startJ (own := RX4) (by decide) rfl (Nat.le_of_ble_eq_true rfl) ?_
  intro Pg Ev s Mi args below Mt Cd ls Q hC hK hE hP hl hQ
  have hl : lv_has ls 4 [(0, .ref q), (1, .int (iI p0)), (2, .int (iI z))] := hl
  refine li_aload_n hC hl 0 rfl dX4_cells_0 ?_
  refine li_iload_n hC hl 2 rfl dX4_cells_1 ?_
  refine v_length hC hK hE hP (z := z) (by omega) (by omega) ml_X4_44 (rr (by decide)) ⟨Nat.zero_le _, Nat.zero_le _⟩ hl.1 rfl (Nat.le_of_ble_eq_true rfl) dX4_cells_2 ?_
  have q1 := lenK_rng (k := kd) (v := z) (l := lt) (by omega) (by omega)
  refine li_istore_n hC (lv' := [(3, .int (iI (lenK kd z lt))), (0, .ref q), (1, .int (iI p0)), (2, .int (iI z))]) hl (by decide) rfl dX4_cells_5 (fun ls hl => ?_)
  refine li_lconst hC (z := 1) rfl dX4_cells_6 ?_
  refine li_iload_n hC hl 0 rfl dX4_cells_7 ?_
  refine li_lshl hC dX4_cells_8 ?_
  refine li_lconst hC (z := 1) rfl dX4_cells_9 ?_
  refine li_lsub hC dX4_cells_10 ?_
  refine li_aload_n hC hl 1 rfl dX4_cells_11 ?_
  refine li_iload_n hC hl 2 rfl dX4_cells_12 ?_
  refine li_iload_n hC hl 0 rfl dX4_cells_13 ?_
  refine v_startAt hC hK hE hP (p0 := p0) (len := lenK kd z lt) (by omega) (by omega) (by omega) ml_X4_47 (rr (by decide)) ⟨Nat.zero_le _, Nat.zero_le _⟩ hl.1 rfl (Nat.le_of_ble_eq_true rfl) dX4_cells_14 ?_
  have q2 : -14 ≤ startN cl p0 (lenK kd z lt) ∧ startN cl p0 (lenK kd z lt) ≤ 30 := by unfold startN; (repeat' split) <;> omega
  refine li_bipush hC (z := -14) rfl dX4_cells_17 ?_
  refine li_isub hC dX4_cells_19 ?_
  refine li_lshl hC dX4_cells_20 ?_
  exact hQ _ _ _ dX4_cells_21 (jI_inj (by rfl))
theorem v_cells {p : Program} {l : Launch} {e : Env} {R : Room} {s : State} {m : MethodId} {args : Array Value} {below : List Frame} {meth : Method} {c : Code} {H : Heap} {locs : List Loc} {cells slots : Nat} {Q : State → Prop} {cc : ByteArray} {nL : Nat} {ret : Option FieldType} {own : String} {pc : Nat} {ls : Array Slot} {rest st0 : List Value} {g : GG} (hC : Cx p s m args meth c cc nL ret own) (hK : KU g s) (hE : EnvG g NoA s H) {q tr : Nat} {kd i v lt cl r : Int} (hN : nmAt g q kd tr i v lt cl r H) {p0 : Int} {z : Int} (hp : 0 ≤ p0 ∧ p0 ≤ 4) (hc : 0 ≤ cl ∧ cl ≤ 29) (hz : 0 ≤ z ∧ z ≤ 9) (hlt : 1 ≤ lt ∧ lt ≤ 9) {ix : Nat} (hlink : Cond.methodLink own ix yX4_cells ∈ allW) (hR : RR 2 R) (hcs : cells ≤ R.cells ∧ slots ≤ R.slots) (hsz : ls.size = nL) (hst : st0 = .int (iI z) :: .int (iI p0) :: .ref q :: rest) (hW : (rest.map fun v => v.category).sum ≤ 8) (hdg : decode cc pc = .ok (.invokevirtual ix, 3)) (kk : W p l e R s m args below meth c H locs cells slots Q (F0 m (pc + 3) ls (.long (jI (mskI (startN cl p0 (lenK kd z lt) - (-14)) (lenK kd z lt))) :: rest))) : W p l e R s m args below meth c H locs cells slots Q (F0 m (pc) ls (st0)) := by
  subst hst
  have hN0 := hN
  have hrv := li_recvN hK hN
  obtain ⟨ho, hk⟩ := hN
  rcases kd_cases hk with rfl | rfl | rfl | rfl | rfl | rfl | rfl
  · exact ro_callVl hC (c_X4_cells l g q tr 0 i v lt cl r p0 z hp hc hz hlt) mk_X4_cells hlink hR hcs hK hE hN0 hrv (As := [.int (iI p0), .int (iI z)]) rfl hsz rfl hW hdg kk
  · exact ro_callUl hC (c_X4_cells l g q tr 1 i v lt cl r p0 z hp hc hz hlt) mu_X3_X4_cells hlink hR hcs hK hE hN0 hrv (As := [.int (iI p0), .int (iI z)]) rfl hsz rfl hW hdg kk
  · exact ro_callUl hC (c_X4_cells l g q tr 2 i v lt cl r p0 z hp hc hz hlt) mu_X1_X4_cells hlink hR hcs hK hE hN0 hrv (As := [.int (iI p0), .int (iI z)]) rfl hsz rfl hW hdg kk
  · exact ro_callUl hC (c_X4_cells l g q tr 3 i v lt cl r p0 z hp hc hz hlt) mu_X9_X4_cells hlink hR hcs hK hE hN0 hrv (As := [.int (iI p0), .int (iI z)]) rfl hsz rfl hW hdg kk
  · exact ro_callUl hC (c_X4_cells l g q tr 4 i v lt cl r p0 z hp hc hz hlt) mu_X0_X4_cells hlink hR hcs hK hE hN0 hrv (As := [.int (iI p0), .int (iI z)]) rfl hsz rfl hW hdg kk
  · exact ro_callUl hC (c_X4_cells l g q tr 5 i v lt cl r p0 z hp hc hz hlt) mu_X2_X4_cells hlink hR hcs hK hE hN0 hrv (As := [.int (iI p0), .int (iI z)]) rfl hsz rfl hW hdg kk
  · exact ro_callUl hC (c_X4_cells l g q tr 6 i v lt cl r p0 z hp hc hz hlt) mu_X10_X4_cells hlink hR hcs hK hE hN0 hrv (As := [.int (iI p0), .int (iI z)]) rfl hsz rfl hW hdg kk
set_option maxHeartbeats 4000000 in
set_option maxRecDepth 100000 in
theorem c_X4_covers (l : Launch) (g : GG) (q : Nat) (tr : Nat) (kd : Int) (i : Int) (v : Int) (lt : Int) (cl : Int) (r : Int) (p0 : Int) (z : Int) (co : Int) (li : Int) (hp : 0 ≤ p0 ∧ p0 ≤ 4) (hc : 0 ≤ cl ∧ cl ≤ 29) (hr : 0 ≤ r ∧ r ≤ 11) (hz : 0 ≤ z ∧ z ≤ 9) (hlt : 1 ≤ lt ∧ lt ≤ 9) (hco : -14 ≤ co ∧ co ≤ 49) (hli : -100 ≤ li ∧ li ≤ 100) : MroZ l g yX4_covers cX4_covers 5 3 [.ref q, .int (iI p0), .int (iI z), .int (iI co), .int (iI li)] (fun H => nmAt g q kd tr i v lt cl r H) (iI (b2 (lineN r p0 = li ∧ (startN cl p0 (lenK kd z lt) ≤ co ∧ co < startN cl p0 (lenK kd z lt) + lenK kd z lt)))) := by
  refine ro_startZ (own := RX4) (by decide) rfl (Nat.le_of_ble_eq_true rfl) ?_
  intro Pg Ev s Mi args below Mt Cd ls Q hC hK hE hP hl hQ
  have hl : lv_has ls 5 [(0, .ref q), (1, .int (iI p0)), (2, .int (iI z)), (3, .int (iI co)), (4, .int (iI li))] := hl
  refine li_aload_n hC hl 0 rfl dX4_covers_0 ?_
  refine li_iload_n hC hl 1 rfl dX4_covers_1 ?_
  refine v_lineAt hC hK hE hP (p0 := p0) (by omega) (by omega) ml_X4_51 (rr (by decide)) ⟨Nat.zero_le _, Nat.zero_le _⟩ hl.1 rfl (Nat.le_of_ble_eq_true rfl) dX4_covers_2 ?_
  have q1 : -1 ≤ lineN r p0 ∧ lineN r p0 ≤ 12 := by unfold lineN; (repeat' split) <;> omega
  refine li_iload hC hl 4 rfl dX4_covers_5 ?_
  refine li_icmp_ne (tgt := 32) hC (by decide) (rg (by omega) (by omega)) (rg (by omega) (by omega)) dX4_covers_7 (fun c2 => ?_) (fun c2 => ?_)
  · have q91 := lenK_rng (k := kd) (v := z) (l := lt) (by omega) (by omega)
    have q92 : -14 ≤ startN cl p0 (lenK kd z lt) ∧ startN cl p0 (lenK kd z lt) ≤ 30 := by unfold startN; (repeat' split) <;> omega
    refine li_iconst hC dX4_covers_32 ?_
    exact hQ _ _ _ dX4_covers_33 (Or.inl rfl) (iI_inj ((b2_f (by have hb := msk_bit (a := startN cl p0 (lenK kd z lt) - (-14)) (n := lenK kd z lt) (k := co - (-14)) (by omega) (by omega) (by omega); omega)).symm))
  · refine li_aload_n hC hl 0 rfl dX4_covers_10 ?_
    refine li_iload_n hC hl 1 rfl dX4_covers_11 ?_
    refine li_iload_n hC hl 2 rfl dX4_covers_12 ?_
    refine v_cells hC hK hE hP (p0 := p0) (z := z) (by omega) (by omega) (by omega) (by omega) ml_X4_54 (rr (by decide)) ⟨Nat.zero_le _, Nat.zero_le _⟩ hl.1 rfl (Nat.le_of_ble_eq_true rfl) dX4_covers_13 ?_
    have q3 := lenK_rng (k := kd) (v := z) (l := lt) (by omega) (by omega)
    have q4 : -14 ≤ startN cl p0 (lenK kd z lt) ∧ startN cl p0 (lenK kd z lt) ≤ 30 := by unfold startN; (repeat' split) <;> omega
    refine li_iload_n hC hl 3 rfl dX4_covers_16 ?_
    refine li_bipush hC (z := -14) rfl dX4_covers_17 ?_
    refine li_isub hC dX4_covers_19 ?_
    refine li_lshr hC dX4_covers_20 ?_
    refine li_lconst hC (z := 1) rfl dX4_covers_21 ?_
    refine li_land hC dX4_covers_22 ?_
    refine li_lconst hC (z := 0) rfl dX4_covers_23 ?_
    refine li_lcmp hC (rngL_of _) (rgL (by decide) (by decide)) dX4_covers_24 ?_
    have q5 := cmpS_f (jand (jshr (mskI (startN cl p0 (lenK kd z lt) - (-14)) (lenK kd z lt)) (co - (-14))) 1) 0
    refine li_if_eq (tgt := 32) hC (by decide) (rg (by omega) (by omega)) dX4_covers_25 (fun c6 => ?_) (fun c6 => ?_)
    · have q91 := lenK_rng (k := kd) (v := z) (l := lt) (by omega) (by omega)
      have q92 : -14 ≤ startN cl p0 (lenK kd z lt) ∧ startN cl p0 (lenK kd z lt) ≤ 30 := by unfold startN; (repeat' split) <;> omega
      refine li_iconst hC dX4_covers_32 ?_
      exact hQ _ _ _ dX4_covers_33 (Or.inl rfl) (iI_inj ((b2_f (by have hb := msk_bit (a := startN cl p0 (lenK kd z lt) - (-14)) (n := lenK kd z lt) (k := co - (-14)) (by omega) (by omega) (by omega); omega)).symm))
    · refine li_iconst hC dX4_covers_28 ?_
      refine li_goto (tgt := 33) hC (by decide) dX4_covers_29 ?_
      exact hQ _ _ _ dX4_covers_33 (Or.inr rfl) (iI_inj ((b2_t (by have hb := msk_bit (a := startN cl p0 (lenK kd z lt) - (-14)) (n := lenK kd z lt) (k := co - (-14)) (by omega) (by omega) (by omega); omega)).symm))
theorem v_covers {p : Program} {l : Launch} {e : Env} {R : Room} {s : State} {m : MethodId} {args : Array Value} {below : List Frame} {meth : Method} {c : Code} {H : Heap} {locs : List Loc} {cells slots : Nat} {Q : State → Prop} {cc : ByteArray} {nL : Nat} {ret : Option FieldType} {own : String} {pc : Nat} {ls : Array Slot} {rest st0 : List Value} {g : GG} (hC : Cx p s m args meth c cc nL ret own) (hK : KU g s) (hE : EnvG g NoA s H) {q tr : Nat} {kd i v lt cl r : Int} (hN : nmAt g q kd tr i v lt cl r H) {p0 : Int} {z : Int} {co : Int} {li : Int} (hp : 0 ≤ p0 ∧ p0 ≤ 4) (hc : 0 ≤ cl ∧ cl ≤ 29) (hr : 0 ≤ r ∧ r ≤ 11) (hz : 0 ≤ z ∧ z ≤ 9) (hlt : 1 ≤ lt ∧ lt ≤ 9) (hco : -14 ≤ co ∧ co ≤ 49) (hli : -100 ≤ li ∧ li ≤ 100) {ix : Nat} (hlink : Cond.methodLink own ix yX4_covers ∈ allW) (hR : RR 3 R) (hcs : cells ≤ R.cells ∧ slots ≤ R.slots) (hsz : ls.size = nL) (hst : st0 = .int (iI li) :: .int (iI co) :: .int (iI z) :: .int (iI p0) :: .ref q :: rest) (hW : (rest.map fun v => v.category).sum ≤ 8) (hdg : decode cc pc = .ok (.invokevirtual ix, 3)) (kk : W p l e R s m args below meth c H locs cells slots Q (F0 m (pc + 3) ls (.int (iI (b2 (lineN r p0 = li ∧ (startN cl p0 (lenK kd z lt) ≤ co ∧ co < startN cl p0 (lenK kd z lt) + lenK kd z lt)))) :: rest))) : W p l e R s m args below meth c H locs cells slots Q (F0 m (pc) ls (st0)) := by
  subst hst
  have hN0 := hN
  have hrv := li_recvN hK hN
  obtain ⟨ho, hk⟩ := hN
  rcases kd_cases hk with rfl | rfl | rfl | rfl | rfl | rfl | rfl
  · exact ro_callVi hC (c_X4_covers l g q tr 0 i v lt cl r p0 z co li hp hc hr hz hlt hco hli) mk_X4_covers hlink hR hcs hK hE hN0 hrv (As := [.int (iI p0), .int (iI z), .int (iI co), .int (iI li)]) rfl hsz rfl hW hdg kk
  · exact ro_callUi hC (c_X4_covers l g q tr 1 i v lt cl r p0 z co li hp hc hr hz hlt hco hli) mu_X3_X4_covers hlink hR hcs hK hE hN0 hrv (As := [.int (iI p0), .int (iI z), .int (iI co), .int (iI li)]) rfl hsz rfl hW hdg kk
  · exact ro_callUi hC (c_X4_covers l g q tr 2 i v lt cl r p0 z co li hp hc hr hz hlt hco hli) mu_X1_X4_covers hlink hR hcs hK hE hN0 hrv (As := [.int (iI p0), .int (iI z), .int (iI co), .int (iI li)]) rfl hsz rfl hW hdg kk
  · exact ro_callUi hC (c_X4_covers l g q tr 3 i v lt cl r p0 z co li hp hc hr hz hlt hco hli) mu_X9_X4_covers hlink hR hcs hK hE hN0 hrv (As := [.int (iI p0), .int (iI z), .int (iI co), .int (iI li)]) rfl hsz rfl hW hdg kk
  · exact ro_callUi hC (c_X4_covers l g q tr 4 i v lt cl r p0 z co li hp hc hr hz hlt hco hli) mu_X0_X4_covers hlink hR hcs hK hE hN0 hrv (As := [.int (iI p0), .int (iI z), .int (iI co), .int (iI li)]) rfl hsz rfl hW hdg kk
  · exact ro_callUi hC (c_X4_covers l g q tr 5 i v lt cl r p0 z co li hp hc hr hz hlt hco hli) mu_X2_X4_covers hlink hR hcs hK hE hN0 hrv (As := [.int (iI p0), .int (iI z), .int (iI co), .int (iI li)]) rfl hsz rfl hW hdg kk
  · exact ro_callUi hC (c_X4_covers l g q tr 6 i v lt cl r p0 z co li hp hc hr hz hlt hco hli) mu_X10_X4_covers hlink hR hcs hK hE hN0 hrv (As := [.int (iI p0), .int (iI z), .int (iI co), .int (iI li)]) rfl hsz rfl hW hdg kk
